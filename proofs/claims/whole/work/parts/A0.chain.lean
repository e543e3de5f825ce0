/-! seek: chains -/
def GR (P : Nat → Prop) (b : Nat) (v : Int) : Prop := (v < 0 ∧ ∀ i, i < b → ¬ P i) ∨ ∃ k : Nat, k < b ∧ v = (k : Int) ∧ P k ∧ ∀ i, k < i → i < b → ¬ P i
theorem GR_new {P : Nat → Prop} {b : Nat} (h : P b) : GR P (b + 1) (b : Int) := Or.inr ⟨b, by omega, rfl, h, fun i h1 h2 => by omega⟩
theorem GR_old {P : Nat → Prop} {b : Nat} {v : Int} (h : GR P b v) (hn : ¬ P b) : GR P (b + 1) v := by
  rcases h with ⟨h1, h2⟩ | ⟨k, h1, h2, h3, h4⟩
  · refine Or.inl ⟨h1, fun i hi => ?_⟩
    by_cases z : i = b
    · rw [z]; exact hn
    · exact h2 i (by omega)
  · refine Or.inr ⟨k, by omega, h2, h3, fun i hi hb => ?_⟩
    by_cases z : i = b
    · rw [z]; exact hn
    · exact h4 i hi (by omega)
theorem GR_congr {P Q : Nat → Prop} {b : Nat} {v : Int} (h : GR P b v) (hq : ∀ i, i < b → (P i ↔ Q i)) : GR Q b v := by
  rcases h with ⟨h1, h2⟩ | ⟨k, h1, h2, h3, h4⟩
  · exact Or.inl ⟨h1, fun i hi z => h2 i hi ((hq i hi).mpr z)⟩
  · exact Or.inr ⟨k, h1, h2, (hq k h1).mp h3, fun i hi hb z => h4 i hi hb ((hq i hb).mpr z)⟩
theorem GR_none {P : Nat → Prop} {v : Int} (h : v < 0) : GR P 0 v := Or.inl ⟨h, fun i hi => by omega⟩
/-! marks -/
def mk7 (x : Int) : List Int → Int
  | [] => x
  | c :: r => mk7 (wr (wr (31 * x) + c)) r
def hC (l : List Int) : Int := bAnd (mk7 (l.length : Int) l) 255
def hR (l : List Int) : Int := bAnd (bXor (mk7 (l.length : Int) l) (bUshr (mk7 (l.length : Int) l) 12)) 4095
theorem b255 : ∀ k : Nat, k < 32 → 8 ≤ k → tb 255 k = false := by decide +kernel
theorem b4095 : ∀ k : Nat, k < 32 → 12 ≤ k → tb 4095 k = false := by decide +kernel
theorem hC_b (l : List Int) : 0 ≤ hC l ∧ hC l < 256 := tb_lo (n := 8) (by unfold hC bAnd; exact i32_in _) (by omega) (fun k h1 h2 => by unfold hC; rw [tb_bAnd, b255 k h2 h1, Bool.and_false])
theorem hR_b (l : List Int) : 0 ≤ hR l ∧ hR l < 4096 := tb_lo (n := 12) (by unfold hR bAnd; exact i32_in _) (by omega) (fun k h1 h2 => by unfold hR; rw [tb_bAnd, b4095 k h2 h1, Bool.and_false])
theorem s_mk7 {μ : Mem} {t : Nat} {l : List Int} (h : TH μ t l) : ∀ (k i : Nat) (x : Int), i + k = l.length → e_X8_mark_7 t x i μ = some (some (vI (mk7 x (l.drop i))), μ)
  | 0, i, x, hk => by rw [q_X8_mark_7, h.1, if_neg (by omega), List.drop_eq_nil_of_le (by omega)]; rfl
  | k + 1, i, x, hk => by
    have h3 := h.le
    have h5 := h.2.1
    have hi : i < l.length := by omega
    rw [q_X8_mark_7, h.1, if_pos (by omega), gi_t (by omega) (by omega), show ((i : Int)).toNat = i by omega, h.get hi, w20c (by omega), s_mk7 h k (i + 1) _ (by omega), List.drop_eq_getElem_cons hi]
    rfl
theorem s_markH {μ : Mem} {t : Nat} {l : List Int} (h : TH μ t l) : f_X8_mark [vR 8 t] μ = some (some (vI (mk7 (l.length : Int) l)), μ) := by
  have := s_mk7 h l.length 0 (l.length : Int) (by omega)
  have e : e_X8_mark_7 t (l.length : Int) 0 μ = _ := this
  rw [q_X8_mark, h.1, e, List.drop_zero]
theorem r_hash5 {X : Mem} {l : List Int} (h : RT X 21 38 l) : ∀ (k i : Nat) (x : Int), i + k = l.length → e_X12_hashOf_5 (some (vR 12 0)) 21 l.length x i X = some (some (vI (bAnd (bXor (mk7 x (l.drop i)) (bUshr (mk7 x (l.drop i)) 12)) 4095)), X)
  | 0, i, x, hk => by rw [q_X12_hashOf_5, if_neg (by omega), List.drop_eq_nil_of_le (by omega)]; rfl
  | k + 1, i, x, hk => by
    have h5 : l.length ≤ 20 := h.1.1
    have hi : i < l.length := by omega
    rw [q_X12_hashOf_5, if_pos (by omega), gk (lnR 21) 20 rfl (by omega) (by omega), show ((i : Int)).toNat = i by omega, h.1.get hi, w20c (by omega), r_hash5 h k (i + 1) _ (by omega), List.drop_eq_getElem_cons hi]
    rfl
theorem r_hash {X : Mem} {l : List Int} (h : RT X 21 38 l) : f_X12_hashOf [vR 12 0, vR 20 21, vI (l.length : Int)] X = some (some (vI (hR l)), X) := by
  have := r_hash5 h l.length 0 (l.length : Int) (by omega)
  have e : e_X12_hashOf_5 (some (vR 12 0)) 21 l.length (l.length : Int) 0 X = _ := this
  rw [q_X12_hashOf, e, List.drop_zero]
  rfl
/-! is it met? the class -/
def CK (μ : Mem) (m : Nat) (Tm : Nat → List Int) : Prop := μ 259 17 = (m : Int) ∧ m ≤ 250 ∧ (∀ i, i < m → TH μ (271 + 2 * i) (Tm i)) ∧ (∀ h : Nat, h < 256 → GR (fun i => hC (Tm i) = (h : Int)) m (μ 266 h)) ∧ ∀ i, i < m → GR (fun j => hC (Tm j) = hC (Tm i)) i (μ 267 i)
theorem s_meet25 {μ : Mem} {m rc : Nat} {Tm : Nat → List Int} {S : List Int} {f k w p : Int} (hK : CK μ m Tm) (hS : TH μ 269 S) : ∀ (n b seen : Nat) (v : Int), b ≤ n → b ≤ m → seen + b ≤ m → GR (fun i => hC (Tm i) = hC S) b v → ((∃ i, i < b ∧ Tm i = S) ∧ e_X4_meet_25 rc f k w p (hC S) v seen μ = some (none, μ)) ∨ ((¬ ∃ i, i < b ∧ Tm i = S) ∧ ∃ o7 o8, e_X4_meet_25 rc f k w p (hC S) v seen μ = e_X4_meet_80 rc f k w p (hC S) o7 o8 μ) := by
  obtain ⟨k1, k2, k3, k4, k5⟩ := hK
  have neg : ∀ (b seen : Nat) (v : Int), v < 0 → (∀ i, i < b → ¬ hC (Tm i) = hC S) → ((∃ i, i < b ∧ Tm i = S) ∧ e_X4_meet_25 rc f k w p (hC S) v seen μ = some (none, μ)) ∨ ((¬ ∃ i, i < b ∧ Tm i = S) ∧ ∃ o7 o8, e_X4_meet_25 rc f k w p (hC S) v seen μ = e_X4_meet_80 rc f k w p (hC S) o7 o8 μ) := fun b seen v hv hn => by
    refine Or.inr ⟨fun ⟨i, hi, e⟩ => hn i hi (by rw [e]), some (vI v), some (vI seen), ?_⟩
    rw [q_X4_meet_25, if_pos hv]
    by_cases z : (seen : Int) < μ 259 17
    · rw [if_pos z]
    · rw [if_neg z]
  intro n
  induction n with
  | zero =>
    intro b seen v hb hm hs hg
    rcases hg with ⟨g1, g2⟩ | ⟨q, g1, _⟩
    · exact neg b seen v g1 g2
    · omega
  | succ n ih =>
    intro b seen v hb hm hs hg
    rcases hg with ⟨g1, g2⟩ | ⟨q, g1, g2, g3, g4⟩
    · exact neg b seen v g1 g2
    · have sm := s_same (k3 q (by omega)) hS
      have e0 : e_X4_meet_25 rc f k w p (hC S) v seen μ = if Tm q = S then some (none, μ) else e_X4_meet_25 rc f k w p (hC S) (μ 267 q) ((seen + 1 : Nat) : Int) μ := by
        rw [q_X4_meet_25, k1, if_pos (by omega), if_neg (by omega), if_pos (by omega), gk (lnC 260) 250 rfl (by omega) (by omega), g2, show ((q : Int)).toNat = q by omega, sm, cI_t, gk (lnC 267) 250 rfl (by omega) (by omega), w20c (by omega)]
        by_cases z : Tm q = S
        · rw [if_pos z, if_pos z, if_neg (by decide)]
        · rw [if_neg z, if_neg z, if_pos rfl]
      rw [e0]
      by_cases z : Tm q = S
      · rw [if_pos z]
        exact Or.inl ⟨⟨q, g1, z⟩, rfl⟩
      · rw [if_neg z]
        have g5 := k5 q (by omega)
        rw [g3] at g5
        have tr : (∃ i, i < b ∧ Tm i = S) ↔ ∃ i, i < q ∧ Tm i = S := by
          constructor
          · rintro ⟨i, h1, h2⟩
            refine ⟨i, ?_, h2⟩
            rcases Nat.lt_trichotomy i q with y | y | y
            · exact y
            · rw [y] at h2; exact absurd h2 z
            · exact absurd (congrArg hC h2) (g4 i y h1)
          · rintro ⟨i, h1, h2⟩
            exact ⟨i, by omega, h2⟩
        rw [tr]
        exact ih q (seen + 1) (μ 267 q) (by omega) (by omega) (by omega) g5
/-! is it met? the reference -/
def RK (X : Mem) (m : Nat) (Tm : Nat → List Int) : Prop := X 0 60 = (m : Int) ∧ m ≤ 250 ∧ (∀ i, i < m → X 31 i = ((Tm i).length : Int) ∧ (Tm i).length ≤ 20 ∧ ∀ q x, (Tm i)[q]? = some x → X 30 (20 * i + q) = x) ∧ (∀ h : Nat, h < 4096 → GR (fun i => hR (Tm i) = (h : Int)) m (X 38 h)) ∧ ∀ i, i < m → GR (fun j => hR (Tm j) = hR (Tm i)) i (X 37 i)
theorem r_met39 {X : Mem} {m k : Nat} {Tm : Nat → List Int} {S : List Int} (hK : RK X m Tm) (hk : k < m) (hS : RT X 21 38 S) (hl : (Tm k).length = S.length) : ∀ (j i : Nat) (o1 : Option AV), i + j = S.length → ∃ o1' o4', e_X12_isMet_39 o1 (if (Tm k).take i = S.take i then 1 else 0) k i X = e_X12_isMet_9 o1' (if Tm k = S then 1 else 0) (X 37 k) o4' X
  | 0, i, o1, hj => by
    obtain rfl : i = S.length := by omega
    refine ⟨o1, some (vI (S.length : Int)), ?_⟩
    have k2 := hK.2.1
    rw [q_X12_isMet_39, hS.2, if_neg (by omega), gk (lnR 37) 250 rfl (by omega) (by omega), show ((k : Int)).toNat = k by omega, List.take_length, ← hl, List.take_length]
  | j + 1, i, o1, hj => by
    have k2 := hK.2.1
    obtain ⟨h1, h2, h3⟩ := hK.2.2.1 k hk
    have hi : i < S.length := by omega
    have hi2 : i < (Tm k).length := by omega
    rw [q_X12_isMet_39, hS.2, if_pos (by omega)]
    by_cases q : (Tm k).take i = S.take i
    · rw [if_pos q, if_neg (by decide), wr_eq (x := 20 * (k : Int)) (by omega) (by omega), wr_eq (x := 20 * (k : Int) + (i : Int)) (by omega) (by omega), gk (lnR 30) 5000 rfl (by omega) (by omega), gk (lnR 21) 20 rfl (by omega) (by omega), show (20 * (k : Int) + (i : Int)).toNat = 20 * k + i by omega, show ((i : Int)).toNat = i by omega, h3 i _ (List.getElem?_eq_getElem hi2), hS.1.get hi, w20c (by omega)]
      obtain ⟨p1, p4, ih⟩ := r_met39 hK hk hS hl j (i + 1) (kl o1) (by omega)
      by_cases z : (Tm k)[i] = S[i]
      · rw [if_pos (show (Tm k).take (i + 1) = S.take (i + 1) by rw [take_s hi2, take_s hi, q, z])] at ih
        rw [if_pos z]; exact ⟨p1, p4, ih⟩
      · rw [if_neg (show ¬ (Tm k).take (i + 1) = S.take (i + 1) from fun e => z (by
          rw [take_s hi2, take_s hi, q] at e
          have := List.append_cancel_left e
          injection this))] at ih
        rw [if_neg z]; exact ⟨p1, p4, ih⟩
    · rw [if_neg q, if_pos rfl, gk (lnR 37) 250 rfl (by omega) (by omega), show ((k : Int)).toNat = k by omega, if_neg (tk_ne q)]
      exact ⟨o1, some (vI (i : Int)), rfl⟩
theorem r_met9 {X : Mem} {m : Nat} {Tm : Nat → List Int} {S : List Int} (hK : RK X m Tm) (hS : RT X 21 38 S) : ∀ (n b : Nat) (v : Int) (o1 o4 : Option AV), b ≤ n → b ≤ m → GR (fun i => hR (Tm i) = hR S) b v → ∃ r : Int, e_X12_isMet_9 o1 0 v o4 X = some (some (vI r), X) ∧ (r = 0 ∨ r = 1) ∧ (r = 1 ↔ ∃ i, i < b ∧ Tm i = S) := by
  have k2 := hK.2.1
  have neg : ∀ (b : Nat) (v : Int) (o1 o4 : Option AV), v < 0 → (∀ i, i < b → ¬ hR (Tm i) = hR S) → ∃ r : Int, e_X12_isMet_9 o1 0 v o4 X = some (some (vI r), X) ∧ (r = 0 ∨ r = 1) ∧ (r = 1 ↔ ∃ i, i < b ∧ Tm i = S) := fun b v o1 o4 hv hn => by
    rw [q_X12_isMet_9, if_pos hv, gz_0]
    exact ⟨0, rfl, Or.inl rfl, fun h => by omega, fun ⟨i, hi, e⟩ => absurd (by rw [e]) (hn i hi)⟩
  intro n
  induction n with
  | zero =>
    intro b v o1 o4 hb hm hg
    rcases hg with ⟨g1, g2⟩ | ⟨q, g1, _⟩
    · exact neg b v o1 o4 g1 g2
    · omega
  | succ n ih =>
    intro b v o1 o4 hb hm hg
    rcases hg with ⟨g1, g2⟩ | ⟨q, g1, g2, g3, g4⟩
    · exact neg b v o1 o4 g1 g2
    · obtain ⟨h1, h2, h3⟩ := hK.2.2.1 q (by omega)
      have e0 : ∃ o1' o4', e_X12_isMet_9 o1 0 v o4 X = e_X12_isMet_9 o1' (if Tm q = S then 1 else 0) (X 37 q) o4' X := by
        rw [q_X12_isMet_9, if_neg (by omega), if_pos rfl, g2, gk (lnR 31) 250 rfl (by omega) (by omega), show ((q : Int)).toNat = q by omega, h1, hS.2]
        by_cases z : ((Tm q).length : Int) = (S.length : Int)
        · rw [if_pos z]
          obtain ⟨p1, p4, y⟩ := r_met39 hK (show q < m by omega) hS (by omega) S.length 0 (kl o1) (by omega)
          rw [if_pos (show (Tm q).take 0 = S.take 0 from rfl)] at y
          exact ⟨p1, p4, y⟩
        · rw [if_neg z, if_neg (fun e => z (by rw [e])), q_X12_isMet_39, if_pos rfl, gk (lnR 37) 250 rfl (by omega) (by omega), show ((q : Int)).toNat = q by omega, ite_self]
          exact ⟨_, _, rfl⟩
      obtain ⟨p1, p4, e0⟩ := e0
      rw [e0]
      by_cases z : Tm q = S
      · rw [if_pos z, q_X12_isMet_9, if_neg (show ¬ (1 : Int) = 0 by decide), gz_1, ite_self]
        exact ⟨1, rfl, Or.inr rfl, fun _ => ⟨q, g1, z⟩, fun _ => rfl⟩
      · rw [if_neg z]
        have g5 := hK.2.2.2.2 q (by omega)
        rw [g3] at g5
        have tr : (∃ i, i < b ∧ Tm i = S) ↔ ∃ i, i < q ∧ Tm i = S := by
          constructor
          · rintro ⟨i, h1, h2⟩
            refine ⟨i, ?_, h2⟩
            rcases Nat.lt_trichotomy i q with y | y | y
            · exact y
            · rw [y] at h2; exact absurd h2 z
            · exact absurd (congrArg hR h2) (g4 i y h1)
          · rintro ⟨i, h1, h2⟩
            exact ⟨i, by omega, h2⟩
        rw [tr]
        exact ih q (X 37 q) p1 p4 (by omega) (by omega) g5
theorem r_isMet {X : Mem} {m : Nat} {Tm : Nat → List Int} {S : List Int} (hK : RK X m Tm) (hS : RT X 21 38 S) : ∃ r : Int, f_X12_isMet [vR 12 0, vI (hR S)] X = some (some (vI r), X) ∧ (r = 0 ∨ r = 1) ∧ (r = 1 ↔ ∃ i, i < m ∧ Tm i = S) := by
  have hb := hR_b S
  obtain ⟨h, eh⟩ : ∃ h : Nat, hR S = (h : Int) := ⟨(hR S).toNat, by omega⟩
  have g := hK.2.2.2.1 h (by omega)
  rw [← eh] at g
  rw [q_X12_isMet, gk (lnR 38) 4096 rfl (by omega) (by omega), eh, show ((h : Int)).toNat = h by omega]
  exact r_met9 hK hS m m _ _ _ (Nat.le_refl _) (Nat.le_refl _) g
