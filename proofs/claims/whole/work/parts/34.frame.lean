/-! what stands of the relation when only scratch cells have changed -/
def scr (c : Nat) : Prop := (153 ≤ c ∧ c ≤ 162) ∨ (211 ≤ c ∧ c ≤ 795)
theorem RelT.kept {μ μ' ν : Mem} (h : RelT μ ν) (h1 : μ' 151 8 = μ 151 8) (h2 : μ' 151 9 = μ 151 9) (h3 : μ' 152 = μ 152) : RelT μ' ν := by
  unfold RelT at *
  rw [h1, h2, h3]
  exact h
theorem RelW.kept {μ μ' ν : Mem} (h : RelW μ ν) (hf : ∀ c, 1 ≤ c → c ≤ 22 → μ' c = μ c) : RelW μ' ν := by
  obtain ⟨h1, h2, h3, h4, h5, h6, h7⟩ := h
  refine ⟨h1, h2, h3, by rw [hf 1 (by omega) (by omega)]; exact h4, fun w hw => ?_, h6, by rw [hf 4 (by omega) (by omega)]; exact h7⟩
  obtain ⟨a, b, c, d, e⟩ := h5 w hw
  have hw4 : w < 4 := by omega
  refine ⟨a, by rw [hf 2 (by omega) (by omega)]; exact b, by rw [hf 3 (by omega) (by omega)]; exact c, ?_, ?_⟩
  · unfold TH at *
    rw [hf (9 + 4 * w) (by omega) (by omega), hf (9 + 4 * w + 1) (by omega) (by omega)]
    exact d
  · unfold TH at *
    rw [hf (7 + 4 * w) (by omega) (by omega), hf (7 + 4 * w + 1) (by omega) (by omega)]
    exact e
theorem RelS.kept {μ μ' ν : Mem} (h : RelS μ ν) (h0 : μ' 23 = μ 23) (hf : ∀ c, 31 ≤ c → c ≤ 150 → μ' c = μ c) : RelS μ' ν := by
  obtain ⟨h1, h2, h3, h4, h5, h6, h7, h8, h9⟩ := h
  unfold RelS
  rw [h0]
  refine ⟨h1, h2, h3, h4, h5, h6, h7, h8, fun e he => ?_⟩
  have he24 : e < 24 := by omega
  have h10 := h9 e he
  unfold TH at *
  rw [hf (31 + 5 * e) (by omega) (by omega), hf (32 + 5 * e) (by omega) (by omega), hf (32 + 5 * e + 1) (by omega) (by omega), hf (34 + 5 * e) (by omega) (by omega), hf (34 + 5 * e + 1) (by omega) (by omega)]
  exact h10
theorem RelP.kept {μ μ' ν : Mem} (h : RelP μ ν) (h1 : μ' 25 = μ 25) (h2 : μ' 26 = μ 26) (h3 : μ' 27 = μ 27) : RelP μ' ν := by
  unfold RelP at *
  rw [h1, h2, h3]
  exact h
theorem RelI.kept {μ μ' ν : Mem} (h : RelI μ ν) (hf : ∀ c, 163 ≤ c → c ≤ 210 → μ' c = μ c) : RelI μ' ν := by
  unfold RelI at *
  rw [hf 163 (by omega) (by omega), hf 164 (by omega) (by omega), hf 165 (by omega) (by omega), hf 166 (by omega) (by omega), hf 167 (by omega) (by omega)]
  rcases h with h | ⟨h1, h2, h3, h4, h5, h6, h7, Ts, h8, h9, h10⟩
  · exact Or.inl h
  · refine Or.inr ⟨h1, h2, h3, h4, h5, h6, h7, Ts, h8, fun i hi => ?_, h10⟩
    have h11 := h9 i hi
    have : i ≤ 20 := by omega
    unfold TH at *
    rw [hf (169 + 2 * i) (by omega) (by omega), hf (169 + 2 * i + 1) (by omega) (by omega)]
    exact h11
theorem asC_congr {μ μ' : Mem} (h1 : μ' 28 = μ 28) (h2 : μ' 29 = μ 29) (h3 : μ' 30 = μ 30) (e : Nat) (d st : Int) : ∀ n, asC μ' e d st n = asC μ e d st n
  | 0 => rfl
  | n + 1 => by unfold asC; rw [h1, h2, h3, asC_congr h1 h2 h3 e d st n]
theorem RelD.kept {μ μ' ν : Mem} (h : RelD μ ν) (h0 : μ' 23 = μ 23) (h1 : μ' 28 = μ 28) (h2 : μ' 29 = μ 29) (h3 : μ' 30 = μ 30) : RelD μ' ν := by
  obtain ⟨a, b, c, d, e⟩ := h
  unfold RelD
  rw [h0, h1, h2]
  refine ⟨a, b, c, d, fun x hx => ?_⟩
  obtain ⟨q1, q2, q3⟩ := e x hx
  exact ⟨q1, q2, fun y hy => by rw [asC_congr h1 h2 h3]; exact q3 y hy⟩
theorem RelL.kept {μ μ' ν : Mem} (h : RelL μ ν) (h24 : ν 0 5 ≤ 24) (hf : ∀ c, 31 ≤ c → c ≤ 150 → μ' c = μ c) : RelL μ' ν := by
  intro e he hs
  have h1 := h e he hs
  rw [hf (31 + 5 * e) (by omega) (by omega)]
  exact h1
theorem RelC.kept {μ μ' ν : Mem} (h : RelC μ ν) (hf : ∀ c, 796 ≤ c → c ≤ 803 → μ' c = μ c) : RelC μ' ν := by
  intro k hk
  have h1 := h k hk
  rw [hf 803 (by omega) (by omega), hf 802 (by omega) (by omega), hf (798 + k) (by omega) (by omega)]
  exact h1
theorem rel_scr {μ μ' ν : Mem} (h : Rel μ ν) (hf : Fr μ μ' scr) : Rel μ' ν := by
  obtain ⟨hT, hH, hW, hS, hP, hI, hD, hL, hG, hC⟩ := h
  have h24 := hS.2.1
  have k : ∀ c, (c < 153 ∨ (163 ≤ c ∧ c ≤ 210) ∨ 796 ≤ c) → μ' c = μ c := fun c hc => hf c (by unfold scr; omega)
  refine ⟨hT.kept (by rw [k 151 (by omega)]) (by rw [k 151 (by omega)]) (k 152 (by omega)), ?_, hW.kept (fun c _ _ => k c (by omega)), hS.kept (k 23 (by omega)) (fun c _ _ => k c (by omega)), hP.kept (k 25 (by omega)) (k 26 (by omega)) (k 27 (by omega)), hI.kept (fun c _ _ => k c (by omega)), hD.kept (k 23 (by omega)) (k 28 (by omega)) (k 29 (by omega)) (k 30 (by omega)), hL.kept h24 (fun c _ _ => k c (by omega)), hG, hC.kept (fun c _ _ => k c (by omega))⟩
  unfold RelH at *
  rw [k 0 (by omega)]
  exact hH
/-! the reference's scratch -/
def scrR (c : Nat) : Prop := (19 ≤ c ∧ c ≤ 25) ∨ (29 ≤ c ∧ c ≤ 41) ∨ (44 ≤ c ∧ c ≤ 50)
def scrK (k : Nat) : Prop := k = 26 ∨ k = 27 ∨ k = 28 ∨ k = 29 ∨ k = 31 ∨ k = 33 ∨ k = 34 ∨ k = 36 ∨ k = 38 ∨ k = 42 ∨ k = 44 ∨ k = 60 ∨ k = 61 ∨ k = 62 ∨ k = 63 ∨ k = 64 ∨ k = 74 ∨ k = 76
def FrR (ν ν' : Mem) : Prop := (∀ c, ¬ scrR c → c ≠ 0 → ν' c = ν c) ∧ ∀ k, ¬ scrK k → ν' 0 k = ν 0 k
theorem frR_rf {ν : Mem} : FrR ν ν := ⟨fun _ _ _ => rfl, fun _ _ => rfl⟩
theorem frR_trans {ν ν1 ν2 : Mem} (h : FrR ν ν1) (h2 : FrR ν1 ν2) : FrR ν ν2 := ⟨fun c h3 h4 => (h2.1 c h3 h4).trans (h.1 c h3 h4), fun k hk => (h2.2 k hk).trans (h.2 k hk)⟩
theorem frR_up {ν : Mem} {c i : Nat} {v : Int} (h : scrR c) : FrR ν (up ν c i v) := by
  have h0 : c ≠ 0 := by unfold scrR at h; omega
  exact ⟨fun c' h3 _ => up_cell (fun e => h3 (by rw [e]; exact h)), fun k _ => by rw [up_cell (fun e => h0 e.symm)]⟩
theorem frR_up0 {ν : Mem} {k : Nat} {v : Int} (h : scrK k) : FrR ν (up ν 0 k v) := ⟨fun c' _ h4 => up_cell h4, fun k' hk => up_slot (fun e => hk (by rw [e]; exact h))⟩
/-- the cells and numbers that STEPS, WORLDS and what leans on what are told by -/
def FrM (ν ν' : Mem) : Prop := (∀ c, 1 ≤ c → c ≤ 16 → ν' c = ν c) ∧ ν' 0 0 = ν 0 0 ∧ ν' 0 5 = ν 0 5 ∧ ν' 0 23 = ν 0 23
theorem frM_c {ν ν' : Mem} (hf : FrM ν ν') {c : Nat} (h : 1 ≤ c ∧ c ≤ 16) : ν' c = ν c := hf.1 c h.1 h.2
theorem frR_c {ν ν' : Mem} (hf : FrR ν ν') {c : Nat} (h : (1 ≤ c ∧ c ≤ 18) ∨ (26 ≤ c ∧ c ≤ 28) ∨ (42 ≤ c ∧ c ≤ 43) ∨ 51 ≤ c) : ν' c = ν c := hf.1 c (by unfold scrR; omega) (by omega)
theorem frR_M {ν ν' : Mem} (hf : FrR ν ν') : FrM ν ν' := ⟨fun c h1 h2 => frR_c hf (by omega), hf.2 0 (by unfold scrK; omega), hf.2 5 (by unfold scrK; omega), hf.2 23 (by unfold scrK; omega)⟩
section FRR
variable {ν ν' : Mem}
theorem frM_wb (hf : FrM ν ν') : wb ν' = wb ν := by
  funext x
  show wbF (ν' 1) x (ν' 0 23).toNat = wbF (ν 1) x (ν 0 23).toNat
  rw [frM_c hf (by omega), hf.2.2.2]
theorem frM_ar (hf : FrM ν ν') : ar ν' = ar ν := by
  funext x
  show (if 23 ≤ x ∨ x = 14 then 0 else if x = 12 then 2 else if wb ν' x = -4 then -4 else ν' 2 (wb ν' x).toNat) = _
  rw [frM_wb hf, frM_c hf (c := 2) (by omega)]
  rfl
theorem frM_mL (hf : FrM ν ν') : mL ν' = mL ν := by
  funext w
  show sg ν' 4 (20 * w) (ν' 3 w).toNat = sg ν 4 (20 * w) (ν 3 w).toNat
  rw [frM_c hf (c := 3) (by omega), sg_congr (frM_c hf (c := 4) (by omega))]
theorem frM_sL (hf : FrM ν ν') : sL ν' = sL ν := by
  funext e k
  show sg ν' 5 (40 * e + 20 * k) (ν' 6 (2 * e + k)).toNat = sg ν 5 (40 * e + 20 * k) (ν 6 (2 * e + k)).toNat
  rw [frM_c hf (c := 6) (by omega), sg_congr (frM_c hf (c := 5) (by omega))]
theorem frM_fcL (hf : FrM ν ν') : fcL ν' = fcL ν := by
  funext w
  show (if ν' 2 w = 1 then [ν' 1 w, 23] else [ν' 1 w, 23, 24]) = (if ν 2 w = 1 then [ν 1 w, 23] else [ν 1 w, 23, 24])
  rw [frM_c hf (c := 1) (by omega), frM_c hf (c := 2) (by omega)]
theorem frM_goP (hf : FrM ν ν') : goP ν' = goP ν := by
  funext pat ins T P
  unfold goP
  rw [frM_ar hf]
theorem frM_stp (hf : FrM ν ν') : stp ν' = stp ν := by
  funext a b c d
  unfold stp
  rw [frM_goP hf, frM_wb hf, frM_mL hf, frM_sL hf, frM_fcL hf, frM_c hf (c := 7) (by omega), hf.2.2.1, hf.2.1]
theorem frM_ptw (hf : FrM ν ν') : ptw ν' = ptw ν := by
  funext a b c d
  unfold ptw
  rw [frM_wb hf]
theorem frM_rnS (hf : FrM ν ν') (k w p : Nat → Int) : ∀ (n i : Nat) (T : List Int), rnS ν' k w p i n T = rnS ν k w p i n T
  | 0, _, _ => rfl
  | n + 1, i, T => by
    unfold rnS
    rw [frM_stp hf]
    cases stp ν (k i) (w i) (p i) T with
    | inl a => rfl
    | inr T' => exact frM_rnS hf k w p n (i + 1) T'
theorem frM_ptsS (hf : FrM ν ν') (k w p : Nat → Int) (v : Int) : ∀ (n i : Nat) (T : List Int), ptsS ν' k w p v i n T = ptsS ν k w p v i n T
  | 0, _, _ => rfl
  | n + 1, i, T => by
    unfold ptsS
    rw [frM_stp hf, frM_ptw hf]
    cases stp ν (k i) (w i) (p i) T with
    | inl a => rfl
    | inr T' =>
      show (_ ∨ ptsS ν' k w p v (i + 1) n T') = (_ ∨ ptsS ν k w p v (i + 1) n T')
      rw [frM_ptsS hf k w p v n (i + 1) T']
theorem frM_USE (hf : FrM ν ν') : USE ν' = USE ν := by
  funext e f
  unfold USE
  rw [hf.2.2.1, frM_c hf (c := 7) (by omega), frM_c hf (c := 10) (by omega), frM_c hf (c := 11) (by omega), frM_c hf (c := 14) (by omega), frM_c hf (c := 15) (by omega)]
theorem frM_vS (hf : FrM ν ν') (th no : Int) (tb wt : Nat → Int) (x y z : Int) : ∀ l, vS ν' th no tb wt x y z l = vS ν th no tb wt x y z l
  | [] => rfl
  | c :: r => by
    unfold vS
    rw [frM_vS hf th no tb wt x y z r, frM_wb hf, frM_c hf (c := 2) (by omega)]
theorem frM_vT (hf : FrM ν ν') : vT ν' = vT ν := by
  funext th no tb wt x y z l
  show (vS ν' th no tb wt x y z l).headD 0 = (vS ν th no tb wt x y z l).headD 0
  rw [frM_vS hf]
theorem frM_wtW (hf : FrM ν ν') (n num : Nat) : ∀ w, wtW ν' n num w = wtW ν n num w
  | 0 => rfl
  | w + 1 => by
    funext j
    unfold wtW
    rw [frM_wtW hf n num w, frM_vT hf, frM_mL hf]
theorem frM_gdW (hf : FrM ν ν') : gdW ν' = gdW ν := by
  funext n num
  unfold gdW hdW
  rw [frM_vT hf, frM_sL hf, hf.2.2.1, hf.2.1, frM_c hf (c := 7) (by omega), frM_wtW hf]
end FRR
theorem asR_congr {ν ν' : Mem} (h : ν' 17 = ν 17) (e : Nat) : ∀ d, asR ν' e d = asR ν e d
  | 0 => by unfold asR; rw [h]
  | d + 1 => by unfold asR; rw [h, asR_congr h e d]
theorem RelT.keptR {μ ν ν' : Mem} (h : RelT μ ν) (h1 : ν' 0 25 = ν 0 25) (h2 : ν' 0 30 = ν 0 30) (h3 : ν' 18 = ν 18) : RelT μ ν' := by
  unfold RelT at *
  rw [h1, h2, h3]
  exact h
theorem RelH.keptR {μ ν ν' : Mem} (h : RelH μ ν) (h1 : ν' 0 21 = ν 0 21) (h2 : ν' 0 22 = ν 0 22) : RelH μ ν' := by
  unfold RelH at *
  rw [h1, h2]
  exact h
theorem RelW.keptR {μ ν ν' : Mem} (h : RelW μ ν) (hf : FrM ν ν') : RelW μ ν' := by
  unfold RelW okW at *
  rw [hf.2.1, hf.2.2.2, frM_mL hf, frM_ar hf, frM_fcL hf, frM_wb hf, frM_c hf (c := 1) (by omega), frM_c hf (c := 2) (by omega), frM_c hf (c := 3) (by omega)]
  exact h
theorem RelS.keptR {μ ν ν' : Mem} (h : RelS μ ν) (hf : FrM ν ν') (h1 : ν' 0 15 = ν 0 15) (h2 : ν' 0 16 = ν 0 16) : RelS μ ν' := by
  unfold RelS okS at *
  rw [hf.2.2.1, h1, h2, frM_sL hf, frM_ar hf, frM_c hf (c := 6) (by omega), frM_c hf (c := 7) (by omega), frM_c hf (c := 8) (by omega), frM_c hf (c := 9) (by omega), frM_c hf (c := 10) (by omega), frM_c hf (c := 11) (by omega), frM_c hf (c := 12) (by omega), frM_c hf (c := 13) (by omega)]
  exact h
theorem RelP.keptR {μ ν ν' : Mem} (h : RelP μ ν) (hf : FrM ν ν') (h2 : ν' 0 16 = ν 0 16) : RelP μ ν' := by
  unfold RelP at *
  rw [hf.2.2.1, h2, frM_c hf (c := 14) (by omega), frM_c hf (c := 15) (by omega), frM_c hf (c := 16) (by omega)]
  exact h
theorem RelI.keptR {μ ν ν' : Mem} (h : RelI μ ν) (hf : FrM ν ν') (h1 : ν' 0 45 = ν 0 45) (h2 : ν' 0 46 = ν 0 46) (h3 : ν' 26 = ν 26) (h4 : ν' 27 = ν 27) (h5 : ν' 28 = ν 28) : RelI μ ν' := by
  unfold RelI at *
  rw [hf.2.2.1, h1, h2, frM_sL hf, frM_stp hf, frM_ptw hf, frM_c hf (c := 7) (by omega), h3, h4, h5]
  exact h
theorem RelD.keptR {μ ν ν' : Mem} (h : RelD μ ν) (hf : FrM ν ν') (h1 : ν' 0 16 = ν 0 16) (h2 : ν' 0 22 = ν 0 22) (h3 : ν' 17 = ν 17) : RelD μ ν' := by
  unfold RelD at *
  rw [hf.2.2.1, h1, h2, frM_c hf (c := 7) (by omega), frM_c hf (c := 9) (by omega), frM_c hf (c := 11) (by omega), h3]
  obtain ⟨a, b, c, d, e⟩ := h
  exact ⟨a, b, c, d, fun x hx => ⟨(e x hx).1, (e x hx).2.1, fun y hy => by rw [asR_congr h3]; exact (e x hx).2.2 y hy⟩⟩
theorem RelL.keptR {μ ν ν' : Mem} (h : RelL μ ν) (hf : FrM ν ν') (h1 : ν' 0 15 = ν 0 15) : RelL μ ν' := by
  unfold RelL at *
  rw [hf.2.2.1, h1, frM_sL hf, frM_USE hf, frM_c hf (c := 7) (by omega), frM_c hf (c := 10) (by omega), frM_c hf (c := 11) (by omega), frM_c hf (c := 13) (by omega), frM_c hf (c := 14) (by omega), frM_c hf (c := 15) (by omega), frM_c hf (c := 16) (by omega)]
  intro e he hs
  obtain ⟨a, b, c, d, f, g, q1, q2, q3⟩ := h e he hs
  exact ⟨by rw [frM_rnS hf]; exact a, b, c, d, f, g, q1, q2, fun w hw => by rw [frM_ptsS hf]; exact q3 w hw⟩
theorem RelG.keptR {μ ν ν' : Mem} (h : RelG μ ν) (hf : FrM ν ν') (h1 : ν' 0 68 = ν 0 68) (h2 : ν' 42 = ν 42) (h3 : ν' 43 = ν 43) : RelG μ ν' := by
  unfold RelG at *
  rw [h1, frM_gdW hf, h2, h3]
  exact h
theorem RelC.keptR {μ ν ν' : Mem} (h : RelC μ ν) (h1 : ν' 51 = ν 51) (h2 : ν' 52 = ν 52) (h3 : ν' 53 = ν 53) : RelC μ ν' := by
  unfold RelC at *
  rw [h1, h2, h3]
  exact h
theorem rel_scrR {μ ν ν' : Mem} (h : Rel μ ν) (hf : FrR ν ν') : Rel μ ν' := by
  obtain ⟨hT, hH, hW, hS, hP, hI, hD, hL, hG, hC⟩ := h
  have k0 : ∀ k, (k = 0 ∨ k = 5 ∨ k = 15 ∨ k = 16 ∨ k = 21 ∨ k = 22 ∨ k = 23 ∨ k = 25 ∨ k = 30 ∨ k = 45 ∨ k = 46 ∨ k = 68) → ν' 0 k = ν 0 k := fun k hk => hf.2 k (by unfold scrK; omega)
  have m := frR_M hf
  have q : ∀ c, (c = 17 ∨ c = 18 ∨ (26 ≤ c ∧ c ≤ 28) ∨ (42 ≤ c ∧ c ≤ 43) ∨ 51 ≤ c) → ν' c = ν c := fun c hc => frR_c hf (by omega)
  exact ⟨hT.keptR (k0 25 (by omega)) (k0 30 (by omega)) (q 18 (by omega)), hH.keptR (k0 21 (by omega)) (k0 22 (by omega)), hW.keptR m, hS.keptR m (k0 15 (by omega)) (k0 16 (by omega)), hP.keptR m (k0 16 (by omega)), hI.keptR m (k0 45 (by omega)) (k0 46 (by omega)) (q 26 (by omega)) (q 27 (by omega)) (q 28 (by omega)), hD.keptR m (k0 16 (by omega)) (k0 22 (by omega)) (q 17 (by omega)), hL.keptR m (k0 15 (by omega)), hG.keptR m (k0 68 (by omega)) (q 42 (by omega)) (q 43 (by omega)), hC.keptR (q 51 (by omega)) (q 52 (by omega)) (q 53 (by omega))⟩
