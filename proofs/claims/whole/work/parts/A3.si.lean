/-! seek: both sides go together -/
def SI (μ X ν : Mem) (e n s m : Nat) (Tm : Nat → List Int) : Prop := CK μ m Tm ∧ RK X m Tm ∧ (1 ≤ m ∧ Tm 0 = sL ν e 0 ∧ X 33 0 = 0) ∧
  (∀ i, i < m → okT ν (Tm i) ∧ μ 265 i = X 33 i ∧ 0 ≤ X 33 i ∧ X 33 i ≤ (n : Int)) ∧
  (∀ i, 1 ≤ i → i < m → ∃ p : Nat, p < i ∧ μ 261 i = (p : Int) ∧ X 32 i = (p : Int) ∧ μ 262 i = X 34 i ∧ μ 263 i = X 35 i ∧ μ 264 i = X 36 i ∧ (0 ≤ X 34 i ∧ X 34 i ≤ 3) ∧ (X 34 i = 2 → X 35 i = -4) ∧ stp ν (X 34 i) (X 35 i) (X 36 i) (Tm p) = .inr (Tm i) ∧ X 33 i = X 33 p + 1) ∧
  (μ 259 13 = (e : Int) ∧ μ 259 14 = (s : Int)) ∧ (μ 259 16 = X 0 62 ∧ (X 0 62 = 0 ∨ X 0 62 = 1)) ∧
  (μ 259 15 = X 0 61 ∧ (X 0 61 = -4 ∨ ∃ k : Nat, k < m ∧ X 0 61 = (k : Int) ∧ Tm k = sL ν e 1))
theorem CK.kept {μ μ' : Mem} {m : Nat} {Tm : Nat → List Int} (h : CK μ m Tm) (hf : ∀ c, (260 ≤ c ∧ c ≤ 268) ∨ (271 ≤ c ∧ c ≤ 770) → μ' c = μ c) (h17 : μ' 259 17 = μ 259 17) : CK μ' m Tm := by
  obtain ⟨k1, k2, k3, k4, k5⟩ := h
  refine ⟨by rw [h17]; exact k1, k2, fun i hi => ?_, by rw [hf 266 (by omega)]; exact k4, by rw [hf 267 (by omega)]; exact k5⟩
  have := k3 i hi
  unfold TH at *
  rw [hf (271 + 2 * i) (by omega), hf (271 + 2 * i + 1) (by omega)]
  exact this
theorem RK.kept {X X' : Mem} {m : Nat} {Tm : Nat → List Int} (h : RK X m Tm) (hf : ∀ c, 30 ≤ c → c ≤ 38 → X' c = X c) (h60 : X' 0 60 = X 0 60) : RK X' m Tm := by
  unfold RK at *
  rw [hf 30 (by omega) (by omega), hf 31 (by omega) (by omega), hf 37 (by omega) (by omega), hf 38 (by omega) (by omega), h60]
  exact h
theorem SI.kept {μ μ' X X' ν : Mem} {e n s m : Nat} {Tm : Nat → List Int} (h : SI μ X ν e n s m Tm) (hf : ∀ c, (259 ≤ c ∧ c ≤ 268) ∨ (271 ≤ c ∧ c ≤ 770) → μ' c = μ c) (hg : ∀ c, 30 ≤ c → c ≤ 38 → X' c = X c) (h0 : ∀ k, 60 ≤ k → k ≤ 62 → X' 0 k = X 0 k) : SI μ' X' ν e n s m Tm := by
  obtain ⟨a, b, c, d, p, q, r, t⟩ := h
  refine ⟨a.kept (fun c hc => hf c (by omega)) (by rw [hf 259 (by omega)]), b.kept hg (h0 60 (by omega) (by omega)), by rw [hg 33 (by omega) (by omega)]; exact c, by rw [hg 33 (by omega) (by omega), hf 265 (by omega)]; exact d, ?_, by rw [hf 259 (by omega)]; exact q, by rw [hf 259 (by omega), h0 62 (by omega) (by omega)]; exact r, by rw [hf 259 (by omega), h0 61 (by omega) (by omega)]; exact t⟩
  rw [hf 261 (by omega), hf 262 (by omega), hf 263 (by omega), hf 264 (by omega), hg 32 (by omega) (by omega), hg 33 (by omega) (by omega), hg 34 (by omega) (by omega), hg 35 (by omega) (by omega), hg 36 (by omega) (by omega)]
  exact p
theorem SI_add {μ μ' X X' ν : Mem} {e n s m fr hc hr : Nat} {Tm : Nat → List Int} {S : List Int} {k w p : Int} (hI : SI μ X ν e n s m Tm) (hfr : fr < m) (hdp : X 33 fr < (n : Int)) (hk : 0 ≤ k ∧ k ≤ 3) (hw : k = 2 → w = -4) (hst : stp ν k w p (Tm fr) = .inr S) (hok : okT ν S)
    (hC : CK μ' (m + 1) (exN Tm m S)) (hR : RK X' (m + 1) (exN Tm m S)) (fC : FrCn m hc μ μ') (fR : ∀ c i, ¬ (c = 30 ∧ 20 * m ≤ i ∧ i < 20 * m + 20) → ¬ (31 ≤ c ∧ c ≤ 37 ∧ i = m) → ¬ (c = 38 ∧ i = hr) → ¬ (c = 0 ∧ (i = 60 ∨ i = 61)) → X' c i = X c i)
    (c1 : μ' 261 m = (fr : Int)) (c2 : μ' 262 m = k) (c3 : μ' 263 m = w) (c4 : μ' 264 m = p) (c5 : μ' 265 m = μ 265 fr + 1) (c6 : μ' 259 15 = if S = sL ν e 1 then (m : Int) else μ 259 15)
    (r1 : X' 32 m = (fr : Int)) (r2 : X' 33 m = X 33 fr + 1) (r3 : X' 34 m = k) (r4 : X' 35 m = w) (r5 : X' 36 m = p) (r6 : X' 0 61 = if S = sL ν e 1 then (m : Int) else X 0 61) : SI μ' X' ν e n s (m + 1) (exN Tm m S) := by
  obtain ⟨a, b, ⟨d1, d2, d3⟩, d, q, ⟨t1, t2⟩, ⟨u1, u2⟩, v1, v2⟩ := hI
  have X33 : ∀ i, i < m → X' 33 i = X 33 i := fun i hi => fR 33 i (by omega) (by omega) (by omega) (by omega)
  refine ⟨hC, hR, ⟨by omega, by rw [exN_o (by omega)]; exact d2, by rw [X33 0 (by omega)]; exact d3⟩, fun i hi => ?_, fun i h1 hi => ?_, ⟨by rw [fC 259 13 (by omega) (by omega) (by omega) (by omega) (by omega)]; exact t1, by rw [fC 259 14 (by omega) (by omega) (by omega) (by omega) (by omega)]; exact t2⟩, ⟨by rw [fC 259 16 (by omega) (by omega) (by omega) (by omega) (by omega), fR 0 62 (by omega) (by omega) (by omega) (by omega)]; exact u1, by rw [fR 0 62 (by omega) (by omega) (by omega) (by omega)]; exact u2⟩, ?_, ?_⟩
  · by_cases z : i = m
    · subst z
      have := d fr hfr
      rw [exN_n, c5, r2, this.2.1]
      exact ⟨hok, rfl, by omega, by omega⟩
    · rw [exN_o (show i < m by omega), X33 i (by omega), fC 265 i (by omega) (by omega) (by omega) (by omega) (by omega)]
      exact d i (by omega)
  · by_cases z : i = m
    · subst z
      refine ⟨fr, hfr, c1, r1, by rw [c2, r3], by rw [c3, r4], by rw [c4, r5], by rw [r3]; exact hk, by rw [r3, r4]; exact hw, ?_, by rw [r2, X33 fr hfr]⟩
      rw [r3, r4, r5, exN_o hfr, exN_n]
      exact hst
    · obtain ⟨p', p1, p2, p3, p4, p5, p6, p7, p8, p9, p10⟩ := q i h1 (by omega)
      have f5 : ∀ c, 261 ≤ c → c ≤ 265 → μ' c i = μ c i := fun c x y => fC c i (by omega) (by omega) (by omega) (by omega) (by omega)
      have g5 : ∀ c, 32 ≤ c → c ≤ 36 → X' c i = X c i := fun c x y => fR c i (by omega) (by omega) (by omega) (by omega)
      refine ⟨p', p1, by rw [f5 261 (by omega) (by omega)]; exact p2, by rw [g5 32 (by omega) (by omega)]; exact p3, ?_, ?_, ?_, ?_, ?_, ?_, ?_⟩
      · rw [f5 262 (by omega) (by omega), g5 34 (by omega) (by omega)]; exact p4
      · rw [f5 263 (by omega) (by omega), g5 35 (by omega) (by omega)]; exact p5
      · rw [f5 264 (by omega) (by omega), g5 36 (by omega) (by omega)]; exact p6
      · rw [g5 34 (by omega) (by omega)]; exact p7
      · rw [g5 34 (by omega) (by omega), g5 35 (by omega) (by omega)]; exact p8
      · rw [g5 34 (by omega) (by omega), g5 35 (by omega) (by omega), g5 36 (by omega) (by omega), exN_o (show p' < m by omega), exN_o (show i < m by omega)]; exact p9
      · rw [g5 33 (by omega) (by omega), X33 p' (by omega)]; exact p10
  · rw [c6, r6, v1]
  · rw [r6]
    by_cases z : S = sL ν e 1
    · rw [if_pos z]
      exact Or.inr ⟨m, by omega, rfl, by rw [exN_n]; exact z⟩
    · rw [if_neg z]
      rcases v2 with y | ⟨k', y1, y2, y3⟩
      · exact Or.inl y
      · exact Or.inr ⟨k', by omega, y2, by rw [exN_o y1]; exact y3⟩
def ST (μ0 ν : Mem) (e n s fr : Nat) (T : List Int) (μ X : Mem) : Prop := ∃ m Tm, SI μ X ν e n s m Tm ∧ Fr μ0 μ scr ∧ FrR ν X ∧ fr < m ∧ Tm fr = T ∧ FC μ ν (271 + 2 * fr) T ∧ RT X 20 36 T ∧ X 33 fr < (n : Int)
theorem up_id {X : Mem} {c i : Nat} {v : Int} (h : X c i = v) : up X c i v = X := by
  funext c' i'
  by_cases q : c' = c ∧ i' = i
  · obtain ⟨rfl, rfl⟩ := q; rw [up_same, h]
  · rw [up_ne q]
theorem scr_of {c : Nat} (h : 157 ≤ c ∧ c ≤ 162 ∨ 259 ≤ c ∧ c ≤ 770) : scr c := by unfold scr; omega
theorem FC.keptT {μ μ' ν : Mem} {t : Nat} {T : List Int} (h : FC μ ν t T) (h1 : μ' 157 2 = μ 157 2) (h2 : μ' 160 = μ 160) (h3 : μ' t = μ t) (h4 : μ' (t + 1) = μ (t + 1)) : FC μ' ν t T := by
  unfold FC TH at *
  rw [h1, h2, h3, h4]
  exact h
