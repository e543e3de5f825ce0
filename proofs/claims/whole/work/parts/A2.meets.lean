/-! seek: meets of the reference -/
def FrRn (m h : Nat) (X X' : Mem) : Prop := ∀ c i, ¬ (c = 30 ∧ 20 * m ≤ i ∧ i < 20 * m + 20) → ¬ (31 ≤ c ∧ c ≤ 37 ∧ i = m) → ¬ (c = 38 ∧ i = h) → ¬ (c = 0 ∧ i = 60) → X' c i = X c i
theorem r_meets16 {m : Nat} {S : List Int} {h f k w p : Int} (hm : m < 250) : ∀ (j i : Nat) (X : Mem), i + j = S.length → X 0 60 = (m : Int) → RT X 21 38 S → (∀ q x, q < i → S[q]? = some x → X 30 (20 * m + q) = x) → ∃ X', e_X12_meets_16 h f k w p i X = e_X12_meets_16 h f k w p S.length X' ∧ (∀ c i, ¬ (c = 30 ∧ 20 * m ≤ i ∧ i < 20 * m + 20) → X' c i = X c i) ∧ ∀ q x, S[q]? = some x → X' 30 (20 * m + q) = x
  | 0, i, X, hj, h60, hS, hh => by
    obtain rfl : i = S.length := by omega
    refine ⟨X, rfl, fun _ _ _ => rfl, fun q x hx => hh q x ?_ hx⟩
    by_cases y : q < S.length
    · exact y
    · rw [List.getElem?_eq_none (by omega)] at hx; cases hx
  | j + 1, i, X, hj, h60, hS, hh => by
    have h20 : S.length ≤ 20 := hS.1.1
    have hi : i < S.length := by omega
    have o : ∀ c, c ≠ 30 → up X 30 (20 * m + i) S[i] c = X c := fun c hc => up_cell hc
    rw [q_X12_meets_16, hS.2, if_pos (by omega), gk (lnR 21) 20 rfl (by omega) (by omega), h60, wr_eq (x := 20 * (m : Int)) (by omega) (by omega), wr_eq (x := 20 * (m : Int) + (i : Int)) (by omega) (by omega), gk (lnR 30) 5000 rfl (by omega) (by omega), show (20 * (m : Int) + (i : Int)).toNat = 20 * m + i by omega, show ((i : Int)).toNat = i by omega, hS.1.get hi, w20c (by omega)]
    obtain ⟨X', a1, a2, a3⟩ := r_meets16 (h := h) (f := f) (k := k) (w := w) (p := p) hm j (i + 1) (up X 30 (20 * m + i) S[i]) (by omega) (by rw [o 0 (by omega)]; exact h60) ⟨hS.1.kept (o 21 (by omega)), by rw [o 0 (by omega)]; exact hS.2⟩ (fun q x hq hx => by
      rw [up_if]
      by_cases z : q = i
      · subst z; rw [if_pos rfl]; rw [List.getElem?_eq_getElem hi] at hx; exact Option.some.inj hx
      · rw [if_neg (by omega)]; exact hh q x (by omega) hx)
    exact ⟨X', a1, fun c q hq => by rw [a2 c q hq, up_ne (by omega)], a3⟩
theorem r_meets {X : Mem} {m : Nat} {Tm : Nat → List Int} {S : List Int} {f k w p : Int} (hK : RK X m Tm) (hm : m < 250) (hS : RT X 21 38 S) (hf : f = -4 ∨ (0 ≤ f ∧ f < (m : Int))) (hd : f ≠ -4 → 0 ≤ X 33 f.toNat ∧ X 33 f.toNat ≤ 250) : ∃ X', f_X12_meets [vR 12 0, vI (hR S), vI f, vI k, vI w, vI p] X = some (none, X') ∧ FrRn m (hR S).toNat X X' ∧ RK X' (m + 1) (exN Tm m S) ∧ X' 32 m = f ∧ X' 33 m = (if f = -4 then 0 else X 33 f.toNat + 1) ∧ X' 34 m = k ∧ X' 35 m = w ∧ X' 36 m = p := by
  obtain ⟨k1, k2, k3, k4, k5⟩ := hK
  have h20 : S.length ≤ 20 := hS.1.1
  have hb := hR_b S
  obtain ⟨h, eh⟩ : ∃ h : Nat, hR S = (h : Int) := ⟨(hR S).toNat, by omega⟩
  have o31 : ∀ c, c ≠ 31 → up X 31 m (S.length : Int) c = X c := fun c hc => up_cell hc
  obtain ⟨X1, a1, a2, a3⟩ := r_meets16 (h := hR S) (f := f) (k := k) (w := w) (p := p) hm S.length 0 (up X 31 m (S.length : Int)) (by omega) (by rw [o31 0 (by omega)]; exact k1) ⟨hS.1.kept (o31 21 (by omega)), by rw [o31 0 (by omega)]; exact hS.2⟩ (fun q x hq _ => by omega)
  have a1' : e_X12_meets_16 (hR S) f k w p 0 (up X 31 m (S.length : Int)) = _ := a1
  have x38 : X1 0 38 = (S.length : Int) := by rw [a2 0 38 (by omega), o31 0 (by omega)]; exact hS.2
  have x60 : X1 0 60 = (m : Int) := by rw [a2 0 60 (by omega), o31 0 (by omega)]; exact k1
  have x33 : ∀ i, X1 33 i = X 33 i := fun i => by rw [a2 33 i (by omega), o31 33 (by omega)]
  obtain ⟨d, ed⟩ : ∃ d : Int, (if f = -4 then 0 else X 33 f.toNat + 1) = d := ⟨_, rfl⟩
  rw [ed]
  have u0 : ∀ (c : Nat) (x : Mem) (i : Nat) (v : Int), c ≠ 0 → up x c i v 0 = x 0 := fun c x i v hc => up_cell (fun e => hc e.symm)
  have e2 : e_X12_meets_16 (hR S) f k w p (S.length : Int) X1 = e_X12_meets_89 (hR S) (some (vI f)) k w p (some (vI (S.length : Int))) 33 (m : Int) d (up X1 32 m f) := by
    rw [q_X12_meets_16, x38, if_neg (by omega), x60, gk (lnR 32) 250 rfl (by omega) (by omega), show ((m : Int)).toNat = m by omega, u0 32 _ _ _ (by omega), x60]
    rcases hf with q | q
    · rw [if_pos q]
      rw [if_pos q] at ed
      rw [ed]
    · rw [if_neg (show ¬ f = -4 by omega)] at ed ⊢
      have := hd (by omega)
      rw [gk (lnR 33) 250 rfl (by omega) (by omega), up_cell (c := 32) (c' := 33) (by omega), x33, wr_eq (by omega) (by omega), ed]
  obtain ⟨V, eV⟩ : ∃ V, V = up (up (up (up (up (up (up (up X1 32 m f) 33 m d) 34 m k) 35 m w) 36 m p) 37 m (X 38 h)) 38 h (m : Int)) 0 60 ((m + 1 : Nat) : Int) := ⟨_, rfl⟩
  have e3 : e_X12_meets_89 (hR S) (some (vI f)) k w p (some (vI (S.length : Int))) 33 (m : Int) d (up X1 32 m f) = some (none, V) := by
    have v1 : ∀ (x : Mem) (i : Nat) (v : Int), up x 32 i v 0 = x 0 := fun x i v => up_cell (by omega)
    have v2 : ∀ (x : Mem) (i : Nat) (v : Int), up x 33 i v 0 = x 0 := fun x i v => up_cell (by omega)
    have v3 : ∀ (x : Mem) (i : Nat) (v : Int), up x 34 i v 0 = x 0 := fun x i v => up_cell (by omega)
    have v4 : ∀ (x : Mem) (i : Nat) (v : Int), up x 35 i v 0 = x 0 := fun x i v => up_cell (by omega)
    have v5 : ∀ (x : Mem) (i : Nat) (v : Int), up x 36 i v 0 = x 0 := fun x i v => up_cell (by omega)
    have v6 : ∀ (x : Mem) (i : Nat) (v : Int), up x 37 i v 0 = x 0 := fun x i v => up_cell (by omega)
    have v7 : ∀ (x : Mem) (i : Nat) (v : Int), up x 38 i v 0 = x 0 := fun x i v => up_cell (by omega)
    have t1 : ∀ (x : Mem) (i : Nat) (v : Int), up x 32 i v 38 = x 38 := fun x i v => up_cell (by omega)
    have t2 : ∀ (x : Mem) (i : Nat) (v : Int), up x 33 i v 38 = x 38 := fun x i v => up_cell (by omega)
    have t3 : ∀ (x : Mem) (i : Nat) (v : Int), up x 34 i v 38 = x 38 := fun x i v => up_cell (by omega)
    have t4 : ∀ (x : Mem) (i : Nat) (v : Int), up x 35 i v 38 = x 38 := fun x i v => up_cell (by omega)
    have t5 : ∀ (x : Mem) (i : Nat) (v : Int), up x 36 i v 38 = x 38 := fun x i v => up_cell (by omega)
    have x138 : ∀ i, X1 38 i = X 38 i := fun i => by rw [a2 38 i (by omega), o31 38 (by omega)]
    rw [q_X12_meets_89]
    simp only [v1, v2, v3, v4, v5, v6, v7, t1, t2, t3, t4, t5, x60, Int.toNat_natCast, eh, x138]
    rw [gk (lnR 33) 250 rfl (by omega) (by omega), gk (lnR 34) 250 rfl (by omega) (by omega), gk (lnR 35) 250 rfl (by omega) (by omega), gk (lnR 36) 250 rfl (by omega) (by omega), gk (lnR 38) 4096 rfl (by omega) (by omega), gk (lnR 37) 250 rfl (by omega) (by omega), gk (lnR 38) 4096 rfl (by omega) (by omega), w20c (by omega), eV]
  have vo : ∀ c i, ¬ (32 ≤ c ∧ c ≤ 37 ∧ i = m) → ¬ (c = 38 ∧ i = h) → ¬ (c = 0 ∧ i = 60) → V c i = X1 c i := fun c i q1 q2 q3 => by
    rw [eV, up_ne (by omega), up_ne (by omega), up_ne (by omega), up_ne (by omega), up_ne (by omega), up_ne (by omega), up_ne (by omega), up_ne (by omega)]
  have vX : FrRn m h X V := fun c i q1 q2 q3 q4 => by
    rw [vo c i (by omega) (by omega) (by omega), a2 c i q1, up_ne (by omega)]
  have v38 : ∀ g : Nat, V 38 g = if g = h then (m : Int) else X 38 g := fun g => by
    by_cases q : g = h
    · rw [if_pos q, eV, up_cell (by omega), q, up_same]
    · rw [if_neg q, vX 38 g (by omega) (by omega) (by omega) (by omega)]
  have v37 : ∀ i, V 37 i = if i = m then X 38 h else X 37 i := fun i => by
    by_cases q : i = m
    · rw [if_pos q, eV, up_cell (by omega), up_cell (by omega), q, up_same]
    · rw [if_neg q, vX 37 i (by omega) (by omega) (by omega) (by omega)]
  refine ⟨V, ?_, ?_, ⟨?_, by omega, fun i hi => ?_, fun g hg => ?_, fun i hi => ?_⟩, ?_, ?_, ?_, ?_, ?_⟩
  · rw [q_X12_meets, k1, gk (lnR 31) 250 rfl (by omega) (by omega), show ((m : Int)).toNat = m by omega, hS.2, a1', e2, e3]
  · rw [eh, show ((h : Int)).toNat = h by omega]; exact vX
  · rw [eV, up_same]
  · by_cases q : i = m
    · subst q
      rw [exN_n]
      refine ⟨?_, h20, fun q x hx => ?_⟩
      · rw [vo 31 i (by omega) (by omega) (by omega), a2 31 i (by omega), up_same]
      · have hq : q < S.length := by
          by_cases y : q < S.length
          · exact y
          · rw [List.getElem?_eq_none (by omega)] at hx; cases hx
        rw [vo 30 _ (by omega) (by omega) (by omega)]
        exact a3 q x hx
    · rw [exN_o (show i < m by omega)]
      obtain ⟨y1, y2, y3⟩ := k3 i (by omega)
      refine ⟨by rw [vX 31 i (by omega) (by omega) (by omega) (by omega)]; exact y1, y2, fun q x hx => ?_⟩
      have hq : q < (Tm i).length := by
        by_cases y : q < (Tm i).length
        · exact y
        · rw [List.getElem?_eq_none (by omega)] at hx; cases hx
      rw [vX 30 _ (by omega) (by omega) (by omega) (by omega)]
      exact y3 q x hx
  · refine GR_heads (g := X 38) (k4 g hg) ?_
    rw [v38, eh]
    by_cases q : g = h
    · rw [if_pos q, if_pos (by omega)]
    · rw [if_neg q, if_neg (by omega)]
  · rw [v37]
    by_cases q : i = m
    · subst q
      rw [if_pos rfl]
      have := k4 h (by omega)
      rw [← eh] at this
      exact GR_nextN this
    · rw [if_neg q]
      exact GR_next (by omega) (k5 i (by omega))
  · rw [eV, up_cell (by omega), up_cell (by omega), up_cell (by omega), up_cell (by omega), up_cell (by omega), up_cell (by omega), up_cell (by omega), up_same]
  · rw [eV, up_cell (by omega), up_cell (by omega), up_cell (by omega), up_cell (by omega), up_cell (by omega), up_cell (by omega), up_same]
  · rw [eV, up_cell (by omega), up_cell (by omega), up_cell (by omega), up_cell (by omega), up_cell (by omega), up_same]
  · rw [eV, up_cell (by omega), up_cell (by omega), up_cell (by omega), up_cell (by omega), up_same]
  · rw [eV, up_cell (by omega), up_cell (by omega), up_cell (by omega), up_same]
theorem r_thenR25 {X : Mem} {e : Nat} {S R : List Int} (he : e < 24) (hS : RT X 21 38 S) (hl : S.length = R.length) (hR : ∀ i x, R[i]? = some x → X 5 (40 * e + 20 + i) = x) : ∀ (j i : Nat), i + j = S.length → e_X12_isThenRight_25 e (if S.take i = R.take i then 1 else 0) i X = some (some (vI (if S = R then 1 else 0)), X)
  | 0, i, hj => by
    obtain rfl : i = S.length := by omega
    rw [q_X12_isThenRight_25, hS.2, if_neg (by omega), gz_ite, List.take_length, hl, List.take_length]
  | j + 1, i, hj => by
    have h20 : S.length ≤ 20 := hS.1.1
    have hi : i < S.length := by omega
    have hi2 : i < R.length := by omega
    rw [q_X12_isThenRight_25, hS.2, if_pos (show (i : Int) < (S.length : Int) by omega)]
    by_cases q : S.take i = R.take i
    · rw [if_pos q, if_neg (by decide), gk (lnR 21) 20 rfl (by omega) (by omega), wr_eq (x := 40 * (e : Int)) (by omega) (by omega), wr_eq (x := 40 * (e : Int) + 20) (by omega) (by omega), wr_eq (x := 40 * (e : Int) + 20 + (i : Int)) (by omega) (by omega), gk (lnR 5) 960 rfl (by omega) (by omega), show ((i : Int)).toNat = i by omega, show (40 * (e : Int) + 20 + (i : Int)).toNat = 40 * e + 20 + i by omega, hS.1.get hi, hR i _ (List.getElem?_eq_getElem hi2), w20c (by omega)]
      have ih := r_thenR25 he hS hl hR j (i + 1) (by omega)
      by_cases z : S[i] = R[i]
      · rw [if_pos (show S.take (i + 1) = R.take (i + 1) by rw [take_s hi, take_s hi2, q, z])] at ih
        rw [if_pos z]; exact ih
      · rw [if_neg (show ¬ S.take (i + 1) = R.take (i + 1) from fun e => z (by
          rw [take_s hi, take_s hi2, q] at e
          have := List.append_cancel_left e
          injection this))] at ih
        rw [if_neg z]; exact ih
    · rw [if_neg q, if_pos rfl, gz_0, if_neg (tk_ne q)]
theorem r_thenR {X : Mem} {e : Nat} {S R : List Int} (he : e < 24) (hS : RT X 21 38 S) (h6 : X 6 (2 * e + 1) = (R.length : Int)) (hne : S ≠ []) (hR : ∀ i x, R[i]? = some x → X 5 (40 * e + 20 + i) = x) : f_X12_isThenRight [vR 12 0, vI e] X = some (some (vI (if S = R then 1 else 0)), X) := by
  rw [q_X12_isThenRight, wr_eq (x := 2 * (e : Int)) (by omega) (by omega), wr_eq (x := 2 * (e : Int) + 1) (by omega) (by omega), gk (lnR 6) 48 rfl (by omega) (by omega), show (2 * (e : Int) + 1).toNat = 2 * e + 1 by omega, h6, hS.2]
  by_cases q : (S.length : Int) = (R.length : Int)
  · rw [if_pos q]
    have := r_thenR25 he hS (by omega) hR S.length 0 (by omega)
    rw [if_pos (show S.take 0 = R.take 0 from rfl)] at this
    exact this
  · have hp : 0 < S.length := List.length_pos_iff.mpr hne
    rw [if_neg q, q_X12_isThenRight_25, hS.2, if_pos (by omega), if_pos rfl, gz_0, if_neg (fun e => q (by rw [e]))]
