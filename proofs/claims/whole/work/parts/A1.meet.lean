/-! seek: one more TERM is met -/
def exN (Tm : Nat → List Int) (m : Nat) (S : List Int) : Nat → List Int := fun i => if i = m then S else Tm i
theorem exN_o {Tm : Nat → List Int} {m i : Nat} {S : List Int} (h : i < m) : exN Tm m S i = Tm i := if_neg (by omega)
theorem exN_n {Tm : Nat → List Int} {m : Nat} {S : List Int} : exN Tm m S m = S := if_pos rfl
theorem GR_heads {Tm : Nat → List Int} {m : Nat} {S : List Int} {H : List Int → Int} {h : Nat} {g : Nat → Int} {v : Int} (hg : GR (fun i => H (Tm i) = (h : Int)) m (g h)) (hv : v = if (h : Int) = H S then (m : Int) else g h) : GR (fun i => H (exN Tm m S i) = (h : Int)) (m + 1) v := by
  rw [hv]
  by_cases q : (h : Int) = H S
  · rw [if_pos q]
    exact GR_new (by show H (exN Tm m S m) = _; rw [exN_n, q])
  · rw [if_neg q]
    refine GR_old (GR_congr hg (fun i hi => by rw [exN_o hi])) ?_
    show ¬ H (exN Tm m S m) = (h : Int)
    rw [exN_n]
    exact fun e => q e.symm
theorem GR_next {Tm : Nat → List Int} {m i : Nat} {S : List Int} {H : List Int → Int} {v : Int} (hi : i < m) (hg : GR (fun j => H (Tm j) = H (Tm i)) i v) : GR (fun j => H (exN Tm m S j) = H (exN Tm m S i)) i v := GR_congr hg (fun j hj => by rw [exN_o (show j < m by omega), exN_o hi])
theorem GR_nextN {Tm : Nat → List Int} {m : Nat} {S : List Int} {H : List Int → Int} {v : Int} (hg : GR (fun j => H (Tm j) = H S) m v) : GR (fun j => H (exN Tm m S j) = H (exN Tm m S m)) m v := GR_congr hg (fun j hj => by rw [exN_o hj, exN_n])
theorem seek_ln : ∀ n, n < 250 → lnC (271 + 2 * n + 1) = 20 := by decide +kernel
theorem spare_ln : lnC 270 = 20 := by decide
/-- what meet changes in the class -/
def FrCn (m h : Nat) (μ μ' : Mem) : Prop := ∀ c i, ¬ (c = 271 + 2 * m ∨ c = 271 + 2 * m + 1) → ¬ (261 ≤ c ∧ c ≤ 265 ∧ i = m) → ¬ (c = 267 ∧ i = m) → ¬ (c = 266 ∧ i = h) → ¬ (c = 259 ∧ (i = 15 ∨ i = 17)) → μ' c i = μ c i
theorem s_meet80 {μ : Mem} {m rc : Nat} {Tm : Nat → List Int} {S R : List Int} {f k w p : Int} {o7 o8 : Option AV} (hK : CK μ m Tm) (hm : m < 250) (hS : TH μ 269 S) (hB : LT S) (h20 : S.length ≤ 20) (hR : TH μ rc R) (hrc : rc + 1 < 157) (hf : f = -4 ∨ (0 ≤ f ∧ f < (m : Int))) (hd : f ≠ -4 → 0 ≤ μ 265 f.toNat ∧ μ 265 f.toNat ≤ 250) : ∃ μ', e_X4_meet_80 rc f k w p (hC S) o7 o8 μ = some (none, μ') ∧ FrCn m (hC S).toNat μ μ' ∧ CK μ' (m + 1) (exN Tm m S) ∧ μ' 261 m = f ∧ μ' 262 m = k ∧ μ' 263 m = w ∧ μ' 264 m = p ∧ μ' 265 m = (if f = -4 then 0 else μ 265 f.toNat + 1) ∧ μ' 259 15 = (if S = R then (m : Int) else μ 259 15) := by
  obtain ⟨k1, k2, k3, k4, k5⟩ := hK
  have hb := hC_b S
  obtain ⟨h, eh⟩ : ∃ h : Nat, hC S = (h : Int) := ⟨(hC S).toNat, by omega⟩
  obtain ⟨μ1, a1, a2, a3⟩ := s_copy (t := 271 + 2 * m) hS hB.by (by unfold tS; omega) (by unfold tS; omega) (by rw [seek_ln m hm]; exact h20)
  have c17 : μ1 259 17 = (m : Int) := by rw [a3 259 (by unfold tS; omega)]; exact k1
  have o : ∀ c, ¬ (c = 271 + 2 * m ∨ c = 271 + 2 * m + 1) → μ1 c = μ c := fun c hc => a3 c hc
  have u1 : ∀ (x : Mem) (i : Nat) (v : Int), up x 261 i v 259 = x 259 := fun x i v => up_cell (by omega)
  have u2 : ∀ (x : Mem) (i : Nat) (v : Int), up x 262 i v 259 = x 259 := fun x i v => up_cell (by omega)
  have u3 : ∀ (x : Mem) (i : Nat) (v : Int), up x 263 i v 259 = x 259 := fun x i v => up_cell (by omega)
  have u4 : ∀ (x : Mem) (i : Nat) (v : Int), up x 264 i v 259 = x 259 := fun x i v => up_cell (by omega)
  have w1 : ∀ (x : Mem) (i : Nat) (v : Int), up x 261 i v 265 = x 265 := fun x i v => up_cell (by omega)
  have w2 : ∀ (x : Mem) (i : Nat) (v : Int), up x 262 i v 265 = x 265 := fun x i v => up_cell (by omega)
  have w3 : ∀ (x : Mem) (i : Nat) (v : Int), up x 263 i v 265 = x 265 := fun x i v => up_cell (by omega)
  have w4 : ∀ (x : Mem) (i : Nat) (v : Int), up x 264 i v 265 = x 265 := fun x i v => up_cell (by omega)
  have dd : ∃ d : Int, (if f = -4 then 0 else μ 265 f.toNat + 1) = d := ⟨_, rfl⟩
  obtain ⟨d, ed⟩ := dd
  rw [ed]
  have e1 : e_X4_meet_80 rc f k w p (hC S) o7 o8 μ = e_X4_meet_178 rc (some (vI f)) (some (vI k)) (some (vI w)) (some (vI p)) (hC S) o7 o8 265 (m : Int) d (up (up (up (up μ1 261 m f) 262 m k) 263 m w) 264 m p) := by
    rw [q_X4_meet_80, k1, if_pos (by omega), gk (lnC 260) 250 rfl (by omega) (by omega), show ((m : Int)).toNat = m by omega, a1, cV_t]
    simp only [u1, u2, u3, u4, w1, w2, w3, w4, c17, Int.toNat_natCast]
    rw [gk (lnC 261) 250 rfl (by omega) (by omega), gk (lnC 262) 250 rfl (by omega) (by omega), gk (lnC 263) 250 rfl (by omega) (by omega), gk (lnC 264) 250 rfl (by omega) (by omega)]
    rcases hf with q | q
    · rw [if_pos (by omega)]
      rw [if_pos q] at ed
      rw [ed]
    · rw [if_neg (show ¬ f = -4 by omega)] at ed
      have := hd (by omega)
      rw [if_neg (by omega), gk (lnC 265) 250 rfl (by omega) (by omega), o 265 (by omega), wr_eq (by omega) (by omega), ed]
  obtain ⟨Y, eY⟩ : ∃ Y, Y = up (up (up (up (up μ1 261 m f) 262 m k) 263 m w) 264 m p) 265 m d := ⟨_, rfl⟩
  have y17 : Y 259 17 = (m : Int) := by rw [eY, up_cell (by omega), u4, u3, u2, u1]; exact c17
  have y66 : Y 266 = μ 266 := by rw [eY, up_cell (by omega), up_cell (by omega), up_cell (by omega), up_cell (by omega), up_cell (by omega), o 266 (by omega)]
  obtain ⟨Z, eZ⟩ : ∃ Z, Z = up (up Y 267 m (μ 266 h)) 266 h (m : Int) := ⟨_, rfl⟩
  have z17 : Z 259 17 = (m : Int) := by rw [eZ, up_cell (by omega), up_cell (by omega)]; exact y17
  have zz : ∀ c i, ¬ (c = 271 + 2 * m ∨ c = 271 + 2 * m + 1) → ¬ (261 ≤ c ∧ c ≤ 265 ∧ i = m) → ¬ (c = 267 ∧ i = m) → ¬ (c = 266 ∧ i = h) → Z c i = μ c i := fun c i q1 q2 q3 q4 => by
    rw [eZ, up_ne (by omega), up_ne (by omega), eY, up_ne (by omega), up_ne (by omega), up_ne (by omega), up_ne (by omega), up_ne (by omega), o c q1]
  have zt : ∀ c, (c < 259 ∨ c = 260 ∨ 268 ≤ c) → Z c = μ1 c := fun c hc => by
    rw [eZ, up_cell (by omega), up_cell (by omega), eY, up_cell (by omega), up_cell (by omega), up_cell (by omega), up_cell (by omega), up_cell (by omega)]
  have sZ : TH Z 269 S := by
    have : TH μ1 269 S := hS.kept a3 (by unfold tS; omega) (by unfold tS; omega)
    exact this.kept (S := fun c => ¬ (c < 259 ∨ c = 260 ∨ 268 ≤ c)) (fun c hc => zt c (by omega)) (by omega) (by omega)
  have rZ : TH Z rc R := by
    have : TH μ1 rc R := hR.kept a3 (by unfold tS; omega) (by unfold tS; omega)
    exact this.kept (S := fun c => ¬ (c < 259 ∨ c = 260 ∨ 268 ≤ c)) (fun c hc => zt c (by omega)) (by omega) (by omega)
  have e2 : e_X4_meet_178 rc (some (vI f)) (some (vI k)) (some (vI w)) (some (vI p)) (hC S) o7 o8 265 (m : Int) d (up (up (up (up μ1 261 m f) 262 m k) 263 m w) 264 m p) = some (none, up (up Z 259 15 (if S = R then (m : Int) else μ 259 15)) 259 17 ((m + 1 : Nat) : Int)) := by
    rw [q_X4_meet_178, gk (lnC 265) 250 rfl (by omega) (by omega), show ((m : Int)).toNat = m by omega, ← eY, gk (lnC 266) 256 rfl (by omega) (by omega), y17, gk (lnC 267) 250 rfl (by omega) (by omega), gk (lnC 266) 256 rfl (by omega) (by omega), show ((m : Int)).toNat = m by omega, eh, show ((h : Int)).toNat = h by omega, y66, up_cell (c := 267) (c' := 259) (by omega), y17, ← eZ, s_same sZ rZ, cI_t, z17, w20c (by omega)]
    by_cases z : S = R
    · rw [if_pos z, if_pos z, if_neg (by decide), up_slot (c' := 259) (show (17 : Nat) ≠ 15 by omega), z17, w20c (by omega)]
    · rw [if_neg z, if_neg z, if_pos rfl]
      have : up Z 259 15 (μ 259 15) = Z := by
        funext c i
        by_cases q : c = 259 ∧ i = 15
        · obtain ⟨rfl, rfl⟩ := q; rw [up_same, zz 259 15 (by omega) (by omega) (by omega) (by omega)]
        · rw [up_ne q]
      rw [this]
  obtain ⟨V, eV⟩ : ∃ V, V = up (up Z 259 15 (if S = R then (m : Int) else μ 259 15)) 259 17 ((m + 1 : Nat) : Int) := ⟨_, rfl⟩
  rw [← eV] at e2
  have vz : ∀ c, c ≠ 259 → V c = Z c := fun c hc => by rw [eV, up_cell hc, up_cell hc]
  have v66 : ∀ g : Nat, V 266 g = if g = h then (m : Int) else μ 266 g := fun g => by
    rw [vz 266 (by omega), eZ, up_if]
    by_cases q : g = h
    · rw [if_pos q, if_pos q]
    · rw [if_neg q, if_neg q, up_cell (by omega), y66]
  have v67 : ∀ i, V 267 i = if i = m then μ 266 h else μ 267 i := fun i => by
    rw [vz 267 (by omega)]
    by_cases q : i = m
    · rw [if_pos q, q, eZ, up_cell (by omega), up_same]
    · rw [if_neg q, zz 267 i (by omega) (by omega) (by omega) (by omega)]
  refine ⟨V, e1.trans e2, fun c i q1 q2 q3 q4 q5 => ?_, ⟨?_, by omega, fun i hi => ?_, fun g hg => ?_, fun i hi => ?_⟩, ?_, ?_, ?_, ?_, ?_, ?_⟩
  · rw [eh, show ((h : Int)).toNat = h by omega] at q4
    rw [eV, up_ne (by omega), up_ne (by omega), zz c i q1 q2 q3 q4]
  · rw [eV, up_same]
  · by_cases q : i = m
    · subst q
      rw [exN_n]
      exact a2.kept (S := fun c => ¬ (c < 259 ∨ c = 260 ∨ 268 ≤ c)) (fun c hc => by rw [vz c (by omega)]; exact zt c (by omega)) (by omega) (by omega)
    · rw [exN_o (show i < m by omega)]
      have : TH μ1 (271 + 2 * i) (Tm i) := (k3 i (by omega)).kept a3 (by unfold tS; omega) (by unfold tS; omega)
      exact this.kept (S := fun c => ¬ (c < 259 ∨ c = 260 ∨ 268 ≤ c)) (fun c hc => by rw [vz c (by omega)]; exact zt c (by omega)) (by omega) (by omega)
  · refine GR_heads (g := μ 266) (k4 g hg) ?_
    rw [v66, eh]
    by_cases q : g = h
    · rw [if_pos q, if_pos (by omega)]
    · rw [if_neg q, if_neg (by omega)]
  · rw [v67]
    by_cases q : i = m
    · subst q
      rw [if_pos rfl]
      have := k4 h (by omega)
      rw [← eh] at this
      exact GR_nextN this
    · rw [if_neg q]
      exact GR_next (by omega) (k5 i (by omega))
  · rw [vz 261 (by omega), eZ, up_cell (by omega), up_cell (by omega), eY, up_cell (by omega), up_cell (by omega), up_cell (by omega), up_cell (by omega), up_same]
  · rw [vz 262 (by omega), eZ, up_cell (by omega), up_cell (by omega), eY, up_cell (by omega), up_cell (by omega), up_cell (by omega), up_same]
  · rw [vz 263 (by omega), eZ, up_cell (by omega), up_cell (by omega), eY, up_cell (by omega), up_cell (by omega), up_same]
  · rw [vz 264 (by omega), eZ, up_cell (by omega), up_cell (by omega), eY, up_cell (by omega), up_same]
  · rw [vz 265 (by omega), eZ, up_cell (by omega), up_cell (by omega), eY, up_same]
  · rw [eV, up_slot (show (15 : Nat) ≠ 17 by omega), up_same]
