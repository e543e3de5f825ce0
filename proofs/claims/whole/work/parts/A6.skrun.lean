/-! seek: the whole run, on both sides -/
def SO (μ0 ν : Mem) (e n s : Nat) (μ X : Mem) : Prop := ∃ m Tm, SI μ X ν e n s m Tm ∧ Fr μ0 μ scr ∧ FrR ν X
def ans (X : Mem) : Int := if X 0 62 = 0 then (if X 0 61 = -4 then -4 else X 33 (X 0 61).toNat) else -6
section SK
variable {μ0 ν : Mem} {e n s : Nat}
theorem ST_SO {fr : Nat} {T : List Int} {μ X : Mem} (h : ST μ0 ν e n s fr T μ X) : SO μ0 ν e n s μ X := by
  obtain ⟨m, Tm, hI, F, G, _⟩ := h
  exact ⟨m, Tm, hI, F, G⟩
theorem so_ans {μ X : Mem} (h : SO μ0 ν e n s μ X) : (if (μ 259 16) = 0 then if (μ 259 15) < 0 then some (some (vI (-4)), μ) else if (μ 259 15) < 250 then gi (μ 259 15) (lnC 265) (some (some (vI (μ 265 (μ 259 15).toNat)), μ)) else some (some (vI (-4)), μ) else some (some (vI (-6)), μ)) = some (some (vI (ans X)), μ) := by
  obtain ⟨m, Tm, hI, F, G⟩ := h
  have m250 := hI.1.2.1
  have a := hI.2.2.2.2.2.2.1
  have b := hI.2.2.2.2.2.2.2
  unfold ans
  rw [a.1, b.1]
  by_cases q : X 0 62 = 0
  · rw [if_pos q, if_pos q]
    rcases b.2 with z | ⟨k, z1, z2, z3⟩
    · rw [if_pos (by omega), if_pos z]
    · rw [if_neg (by omega), if_pos (by omega), if_neg (by omega), gk (lnC 265) 250 rfl (by omega) (by omega), z2, show ((k : Int)).toNat = k by omega, (hI.2.2.2.1 k z1).2.1]
  · rw [if_neg q, if_neg q]
theorem r_fw182 {k : Nat} {T : List Int} {v2 : Int} (hk : k < 250) (h20 : T.length ≤ 20) : ∀ (j i : Nat) (X : Mem), i + j = T.length → X 0 36 = (T.length : Int) → (∀ q x, T[q]? = some x → X 30 (20 * k + q) = x) → FL X 20 T i → ∃ X', e_X12_findWay_182 e v2 s k i X = e_X12_findWay_220 e v2 s k 0 X' ∧ (∀ c, c ≠ 20 → X' c = X c) ∧ RT X' 20 36 T
  | 0, i, X, hj, h36, h30, hF => by
    obtain rfl : i = T.length := by omega
    rw [q_X12_findWay_182, h36, if_neg (by omega)]
    refine ⟨X, rfl, fun _ _ => rfl, ⟨h20, fun q x hx => hF q ?_ x hx⟩, h36⟩
    by_cases y : q < T.length
    · exact y
    · rw [List.getElem?_eq_none (by omega)] at hx; cases hx
  | j + 1, i, X, hj, h36, h30, hF => by
    have hi : i < T.length := by omega
    rw [q_X12_findWay_182, h36, if_pos (by omega), wr_eq (x := 20 * (k : Int)) (by omega) (by omega), wr_eq (x := 20 * (k : Int) + (i : Int)) (by omega) (by omega), gk (lnR 30) 5000 rfl (by omega) (by omega), gk (lnR 20) 20 rfl (by omega) (by omega), show (20 * (k : Int) + (i : Int)).toNat = 20 * k + i by omega, show ((i : Int)).toNat = i by omega, h30 i _ (List.getElem?_eq_getElem hi), w20c (by omega)]
    obtain ⟨X', a1, a2, a3⟩ := r_fw182 (v2 := v2) hk h20 j (i + 1) (up X 20 i T[i]) (by omega) (by rw [up_cell (by omega)]; exact h36) (by rw [up_cell (by omega)]; exact h30) (hF.up (List.getElem?_eq_getElem hi))
    exact ⟨X', a1, fun c hc => by rw [a2 c hc, up_cell hc], a3⟩
theorem sk_run (h : Rel μ0 ν) (he : (e : Int) < ν 0 5) (hop : ν 7 e = 1 ∨ ν 7 e = 3) (hn : n ≤ 8) (hs : s ≤ 20) {o1 o3 : Option AV} : ∀ (j k : Nat) (μ X : Mem) (o5 : Option AV), k + j = 250 → SO μ0 ν e n s μ X → ∃ μ' X', e_X4_run_101 o1 n o3 (31 + 5 * e) k μ = some (some (vI (ans X')), μ') ∧ e_X12_findWay_132 e n s k o5 X = some (none, X') ∧ SO μ0 ν e n s μ' X'
  | 0, k, μ, X, o5, hj, hso => by
    have A := so_ans hso
    have hso' := hso
    obtain ⟨m, Tm, hI, F, G⟩ := hso
    have m250 := hI.1.2.1
    refine ⟨μ, X, ?_, ?_, hso'⟩
    · rw [q_X4_run_101, hI.1.1, if_neg (by omega)]; exact A
    · rw [q_X12_findWay_132, hI.2.1.1, if_neg (by omega)]
  | j + 1, k, μ, X, o5, hj, hso => by
    have A := so_ans hso
    have hso' := hso
    obtain ⟨m, Tm, hI, F, G⟩ := hso
    have m250 := hI.1.2.1
    have c17 := hI.1.1
    have r60 := hI.2.1.1
    have a := hI.2.2.2.2.2.2.1
    have b := hI.2.2.2.2.2.2.2
    have b' : X 0 61 = -4 ∨ 0 ≤ X 0 61 := by
      rcases b.2 with z | ⟨k, _, z2, _⟩
      · exact Or.inl z
      · exact Or.inr (by omega)
    by_cases hkm : k < m
    · by_cases q : X 0 62 = 0 ∧ X 0 61 = -4
      · obtain ⟨d1, d2, d3, d4⟩ := hI.2.2.2.1 k hkm
        have ov := s_over a.1 b.1 a.2 b'
        rw [if_pos q] at ov
        have eC : e_X4_run_101 o1 n o3 (31 + 5 * e) k μ = if X 33 k < (n : Int) then cV (f_X4_goOn [vR 4 259, vI k, vR 8 (34 + 5 * e)] μ) (fun μ3 => e_X4_run_101 o1 n o3 (31 + 5 * e) ((k + 1 : Nat) : Int) μ3) else e_X4_run_101 o1 n o3 (31 + 5 * e) ((k + 1 : Nat) : Int) μ := by
          rw [q_X4_run_101, c17, if_pos (by omega), if_pos (by omega), ov, cI_t, if_pos rfl, gk (lnC 265) 250 rfl (by omega) (by omega), show ((k : Int)).toNat = k by omega, d2, w20c (by omega), show 31 + 5 * e + 3 = 34 + 5 * e by omega]
        have eR : e_X12_findWay_132 e n s k o5 X = if X 33 k < (n : Int) then e_X12_findWay_182 e n s k 0 (up X 0 36 (X 31 k)) else e_X12_findWay_132 e n s ((k + 1 : Nat) : Int) o5 X := by
          rw [q_X12_findWay_132, r60, if_pos (by omega), if_pos q.2, if_pos q.1, gk (lnR 33) 250 rfl (by omega) (by omega), gk (lnR 31) 250 rfl (by omega) (by omega), show ((k : Int)).toNat = k by omega, w20c (by omega)]
        rw [eC, eR]
        by_cases z : X 33 k < (n : Int)
        · rw [if_pos z, if_pos z]
          have hr := rel_scr h F
          have tk := hI.1.2.2.1 k hkm
          obtain ⟨r1, r2, r3⟩ := hI.2.1.2.2.1 k hkm
          obtain ⟨μ1, e1, e2, e3, e4, e5⟩ := s_look hr.2.2.1 tk d1.2.2 d1.1 (by omega)
          have F1 : Fr μ0 μ1 scr := F.trans (fun c hc => e2 c (fun y => hc (scr_of (by omega))) (fun y => hc (scr_of (by omega))))
          have tk1 : TH μ1 (271 + 2 * k) (Tm k) := tk.kept (S := fun c => c = 157 ∨ c = 160) (fun c hc => e2 c (by omega) (by omega)) (by omega) (by omega)
          have hFC : FC μ1 ν (271 + 2 * k) (Tm k) := ⟨e3, tk1, d1.2.2, e5⟩
          obtain ⟨X1, f1, f2, f3⟩ := r_fw182 (e := e) (s := s) (k := k) (T := Tm k) (v2 := n) (by omega) d1.2.2 (Tm k).length 0 (up X 0 36 (X 31 k)) (by omega) (by rw [up_same, r1]) (by rw [up_cell (by omega)]; exact r3) (fun q hq => by omega)
          have f1' : e_X12_findWay_182 e n s k 0 (up X 0 36 (X 31 k)) = _ := f1
          have f2' : ∀ c, c ≠ 20 → c ≠ 0 → X1 c = X c := fun c x y => by rw [f2 c x, up_cell y]
          have f20 : ∀ q, q ≠ 36 → X1 0 q = X 0 q := fun q hq => by rw [f2 0 (by omega), up_slot hq]
          have G1 : FrR ν X1 := frR_trans G ⟨fun c x y => f2' c (by unfold scrR at x; omega) y, fun q hq => f20 q (by unfold scrK at hq; omega)⟩
          have hI1 : SI μ1 X1 ν e n s m Tm := hI.kept (fun c hc => e2 c (by omega) (by omega)) (fun c _ _ => f2' c (by omega) (by omega)) (fun q _ _ => f20 q (by omega))
          obtain ⟨μ2, X2, p5, g1, g2, g3⟩ := sk_goOn (v2 := (n : Int)) (fr := k) (T := Tm k) h he hop hn hs ⟨m, Tm, hI1, F1, G1, hkm, rfl, hFC, f3, by rw [f2' 33 (by omega) (by omega)]; exact z⟩
          obtain ⟨μ3, X3, k1, k2, k3⟩ := sk_run h he hop hn hs (o1 := o1) (o3 := o3) j (k + 1) μ2 X2 p5 (by omega) (ST_SO g3)
          refine ⟨μ3, X3, ?_, ?_, k3⟩
          · rw [q_X4_goOn, gk (lnC 260) 250 rfl (by omega) (by omega), show ((k : Int)).toNat = k by omega, e1, cV_t, g1, cV_t, k1]
          · rw [f1', g2, w20c (by omega), k2]
        · rw [if_neg z, if_neg z]
          exact sk_run h he hop hn hs j (k + 1) μ X o5 (by omega) hso'
      · have ov := s_over a.1 b.1 a.2 b'
        rw [if_neg q] at ov
        refine ⟨μ, X, ?_, ?_, hso'⟩
        · rw [q_X4_run_101, c17, if_pos (by omega), if_pos (by omega), ov, cI_t, if_neg (by decide)]; exact A
        · rw [q_X12_findWay_132, r60, if_pos (by omega)]
          by_cases z : X 0 61 = -4
          · rw [if_pos z, if_neg (fun y => q ⟨y, z⟩)]
          · rw [if_neg z]
    · refine ⟨μ, X, ?_, ?_, hso'⟩
      · rw [q_X4_run_101, c17, if_neg (by omega)]; exact A
      · rw [q_X12_findWay_132, r60, if_neg (by omega)]
theorem c_run20 {v1 v2 v3 : Int} {v4 : Nat} : ∀ (j i : Nat) (μ : Mem), i + j = 256 → (∀ h, h < i → μ 266 h = -4) → ∃ μ', e_X4_run_20 v1 v2 v3 v4 i μ = e_X4_run_20 v1 v2 v3 v4 256 μ' ∧ (∀ c, c ≠ 266 → μ' c = μ c) ∧ ∀ h, h < 256 → μ' 266 h = -4
  | 0, i, μ, hj, hh => by
    obtain rfl : i = 256 := by omega
    exact ⟨μ, rfl, fun _ _ => rfl, hh⟩
  | j + 1, i, μ, hj, hh => by
    rw [q_X4_run_20, if_pos (by omega), gk (lnC 266) 256 rfl (by omega) (by omega), show ((i : Int)).toNat = i by omega, w20c (by omega)]
    obtain ⟨μ', a1, a2, a3⟩ := c_run20 (v1 := v1) (v2 := v2) (v3 := v3) (v4 := v4) j (i + 1) (up μ 266 i (-4)) (by omega) (fun h hl => by
      rw [up_if]
      by_cases z : h = i
      · rw [if_pos z]
      · rw [if_neg z]; exact hh h (by omega))
    exact ⟨μ', a1, fun c hc => by rw [a2 c hc, up_cell hc], a3⟩
theorem r_fw3 {v1 v2 v3 : Int} {o5 : Option AV} : ∀ (j i : Nat) (X : Mem), i + j = 4096 → (∀ h, h < i → X 38 h = -1) → ∃ X', e_X12_findWay_3 v1 v2 v3 i o5 X = e_X12_findWay_3 v1 v2 v3 4096 o5 X' ∧ (∀ c, c ≠ 38 → X' c = X c) ∧ ∀ h, h < 4096 → X' 38 h = -1
  | 0, i, X, hj, hh => by
    obtain rfl : i = 4096 := by omega
    exact ⟨X, rfl, fun _ _ => rfl, hh⟩
  | j + 1, i, X, hj, hh => by
    rw [q_X12_findWay_3, if_pos (by omega), gk (lnR 38) 4096 rfl (by omega) (by omega), show ((i : Int)).toNat = i by omega, w20c (by omega)]
    obtain ⟨X', a1, a2, a3⟩ := r_fw3 (v1 := v1) (v2 := v2) (v3 := v3) (o5 := o5) j (i + 1) (up X 38 i (-1)) (by omega) (fun h hl => by
      rw [up_if]
      by_cases z : h = i
      · rw [if_pos z]
      · rw [if_neg z]; exact hh h (by omega))
    exact ⟨X', a1, fun c hc => by rw [a2 c hc, up_cell hc], a3⟩
theorem r_fw56 {S : List Int} {v2 v3 : Int} {o5 : Option AV} (he : e < 24) (h20 : S.length ≤ 20) : ∀ (j i : Nat) (X : Mem), i + j = S.length → X 0 38 = (S.length : Int) → (∀ q x, S[q]? = some x → X 5 (40 * e + q) = x) → FL X 21 S i → ∃ X', e_X12_findWay_56 e v2 v3 i o5 X = e_X12_findWay_56 e v2 v3 S.length o5 X' ∧ (∀ c, c ≠ 21 → X' c = X c) ∧ RT X' 21 38 S
  | 0, i, X, hj, h38, h5, hF => by
    obtain rfl : i = S.length := by omega
    refine ⟨X, rfl, fun _ _ => rfl, ⟨h20, fun q x hx => hF q ?_ x hx⟩, h38⟩
    by_cases y : q < S.length
    · exact y
    · rw [List.getElem?_eq_none (by omega)] at hx; cases hx
  | j + 1, i, X, hj, h38, h5, hF => by
    have hi : i < S.length := by omega
    rw [q_X12_findWay_56, h38, if_pos (by omega), wr_eq (x := 40 * (e : Int)) (by omega) (by omega), wr_eq (x := 40 * (e : Int) + (i : Int)) (by omega) (by omega), gk (lnR 5) 960 rfl (by omega) (by omega), gk (lnR 21) 20 rfl (by omega) (by omega), show (40 * (e : Int) + (i : Int)).toNat = 40 * e + i by omega, show ((i : Int)).toNat = i by omega, h5 i _ (List.getElem?_eq_getElem hi), w20c (by omega)]
    obtain ⟨X', a1, a2, a3⟩ := r_fw56 (v2 := v2) (v3 := v3) (o5 := o5) he h20 j (i + 1) (up X 21 i S[i]) (by omega) (by rw [up_cell (by omega)]; exact h38) (by rw [up_cell (by omega)]; exact h5) (hF.up (List.getElem?_eq_getElem hi))
    exact ⟨X', a1, fun c hc => by rw [a2 c hc, up_cell hc], a3⟩
end SK
