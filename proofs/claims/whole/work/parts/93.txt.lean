/-! text: what stands while the lines are read -/
def OLDC (μ0 ν0 μ : Mem) : Prop := (∀ c, (c = 0 ∨ (24 ≤ c ∧ c ≤ 30) ∨ c = 152 ∨ 157 ≤ c) → μ c = μ0 c) ∧ (∀ k, k ≠ 9 → μ 23 k = μ0 23 k) ∧ (∀ e : Nat, (e : Int) < ν0 0 5 → ∀ j, j < 5 → μ (31 + 5 * e + j) = μ0 (31 + 5 * e + j)) ∧ (∀ k, k ≠ 5 → k ≠ 6 → k ≠ 7 → k ≠ 9 → μ 151 k = μ0 151 k) ∧ (∀ w : Nat, (w : Int) < ν0 0 0 → μ 2 w = μ0 2 w ∧ μ 3 w = μ0 3 w ∧ ∀ j, j < 4 → μ (7 + 4 * w + j) = μ0 (7 + 4 * w + j))
def OLDR (ν0 ν : Mem) : Prop := (∀ c, 8 ≤ c → c ≠ 19 → ν c = ν0 c) ∧ (∀ k, k ≠ 23 → ¬ (26 ≤ k ∧ k ≤ 31) → k ≠ 33 → k ≠ 34 → ν 0 k = ν0 0 k) ∧ (∀ w : Nat, (w : Int) < ν0 0 0 → ν 1 w = ν0 1 w ∧ ν 2 w = ν0 2 w ∧ ν 3 w = ν0 3 w ∧ ∀ i, i < 20 → ν 4 (20 * w + i) = ν0 4 (20 * w + i)) ∧ (∀ e : Nat, (e : Int) < ν0 0 5 → ν 7 e = ν0 7 e ∧ (∀ k, k ≤ 1 → ν 6 (2 * e + k) = ν0 6 (2 * e + k)) ∧ ∀ i, i < 40 → ν 5 (40 * e + i) = ν0 5 (40 * e + i))
def VW (ν : Mem) : Mem := up ν 0 0 (ν 0 23)
theorem VW_wb (ν : Mem) : wb (VW ν) = wb ν := by
  funext x
  unfold wb VW
  rw [up_cell (by omega), up_slot (by omega)]
theorem VW_ar (ν : Mem) : ar (VW ν) = ar ν := by
  funext x
  unfold ar
  rw [VW_wb]
  unfold VW
  rw [up_cell (by omega)]
theorem VW_mL (ν : Mem) : mL (VW ν) = mL ν := by
  funext w
  unfold mL VW
  rw [up_cell (by omega)]
  exact sg_congr (up_cell (by omega))
def NEW (μ ν0 ν : Mem) : Prop := ∀ e : Nat, ν0 0 5 ≤ (e : Int) → (e : Int) < ν 0 34 → okS ν e 0 ∧ okS ν e 1 ∧ TH μ (32 + 5 * e) (sL ν e 0) ∧ TH μ (34 + 5 * e) (sL ν e 1) ∧ μ (31 + 5 * e) 2 = ν 7 e ∧ (ν 7 e = 0 ∨ ν 7 e = 1) ∧ μ (31 + 5 * e) 3 = ν0 0 21 ∧ μ (31 + 5 * e) 4 = ν0 0 22 ∧ μ (31 + 5 * e) 6 = -4
def TX (μ0 ν0 μ ν : Mem) : Prop := OLDC μ0 ν0 μ ∧ OLDR ν0 ν ∧ RelW μ (VW ν) ∧ ν0 0 0 ≤ ν 0 23 ∧ ν0 0 5 ≤ ν 0 34 ∧ ν 0 34 ≤ 24 ∧ μ 23 9 = ν 0 34 ∧ NEW μ ν0 ν
def TXB (μ0 ν0 μ ν : Mem) : Prop := OLDC μ0 ν0 μ ∧ OLDR ν0 ν ∧ (∃ νw, RelW μ νw ∧ ν0 0 0 ≤ νw 0 0 ∧ ∀ w : Nat, (w : Int) < ν0 0 0 → νw 1 w = ν0 1 w) ∧ ν0 0 5 ≤ μ 23 9
theorem TX.bad {μ0 ν0 μ ν : Mem} (h : TX μ0 ν0 μ ν) : TXB μ0 ν0 μ ν := ⟨h.1, h.2.1, ⟨VW ν, h.2.2.1, by unfold VW; rw [up_same]; exact h.2.2.2.1, fun w hw => by unfold VW; rw [up_cell (by omega)]; exact (h.2.1.2.2.1 w hw).1⟩, by have := h.2.2.2.2.1; have := h.2.2.2.2.2.2.1; omega⟩
/-- the tape alone is read on -/
def FrTx (μ μ' : Mem) : Prop := (∀ c, c ≠ 151 → ¬ (153 ≤ c ∧ c ≤ 156) → μ' c = μ c) ∧ ∀ k, k ≠ 5 → k ≠ 6 → k ≠ 7 → k ≠ 9 → μ' 151 k = μ 151 k
theorem frTx_rf {μ : Mem} : FrTx μ μ := ⟨fun _ _ _ => rfl, fun _ _ _ _ _ => rfl⟩
theorem frTx_trans {μ μ1 μ2 : Mem} (h : FrTx μ μ1) (h2 : FrTx μ1 μ2) : FrTx μ μ2 := ⟨fun c a b => (h2.1 c a b).trans (h.1 c a b), fun k a b c d => (h2.2 k a b c d).trans (h.2 k a b c d)⟩
theorem frTx_T {μ μ' : Mem} (h : FrTp μ μ') : FrTx μ μ' := ⟨fun c a _ => h.1 c a, h.2⟩
theorem frTx_t {t0 : Nat} (ht : t0 = 153 ∨ t0 = 155) {μ μ' : Mem} (h : FrTt t0 μ μ') : FrTx μ μ' := ⟨fun c a b => h.1 c a (by omega) (by omega), h.2⟩
section TXF
variable {μ0 ν0 μ ν μ' ν' : Mem}
theorem OLDC.fr (h : OLDC μ0 ν0 μ) (h24 : ν0 0 5 ≤ 24) (h4 : ν0 0 0 ≤ 4) (hf : FrTx μ μ') : OLDC μ0 ν0 μ' := by
  obtain ⟨a, b, c, d, e⟩ := h
  refine ⟨fun x hx => by rw [hf.1 x (by omega) (by omega)]; exact a x hx, fun k hk => by rw [hf.1 23 (by omega) (by omega)]; exact b k hk, fun x hx j hj => by rw [hf.1 _ (by omega) (by omega)]; exact c x hx j hj, fun k k1 k2 k3 k4 => by rw [hf.2 k k1 k2 k3 k4]; exact d k k1 k2 k3 k4, fun w hw => ?_⟩
  rw [hf.1 2 (by omega) (by omega), hf.1 3 (by omega) (by omega)]
  obtain ⟨e1, e2, e3⟩ := e w hw
  exact ⟨e1, e2, fun j hj => by rw [hf.1 _ (by omega) (by omega)]; exact e3 j hj⟩
theorem OLDR.fr (h : OLDR ν0 ν) (hf : FrK ν ν') : OLDR ν0 ν' := by
  obtain ⟨a, b, c, d⟩ := h
  refine ⟨fun x x1 x2 => by rw [hf.1 x (by omega) x2]; exact a x x1 x2, fun k k1 k2 k3 k4 => by rw [hf.2 k k2 k3]; exact b k k1 k2 k3 k4, fun w hw => ?_, fun e he => ?_⟩
  · rw [hf.1 1 (by omega) (by omega), hf.1 2 (by omega) (by omega), hf.1 3 (by omega) (by omega), hf.1 4 (by omega) (by omega)]
    exact c w hw
  · rw [hf.1 5 (by omega) (by omega), hf.1 6 (by omega) (by omega), hf.1 7 (by omega) (by omega)]
    exact d e he
theorem VW_fr (hf : FrK ν ν') : FrM (VW ν) (VW ν') := by
  unfold VW
  refine ⟨fun c a b => by rw [up_cell (by omega), up_cell (by omega), hf.1 c (by omega) (by omega)], by rw [up_same, up_same, hf.2 23 (by omega) (by omega)], by rw [up_slot (by omega), up_slot (by omega), hf.2 5 (by omega) (by omega)], by rw [up_slot (by omega), up_slot (by omega), hf.2 23 (by omega) (by omega)]⟩
theorem frK_sL (hf : FrK ν ν') : sL ν' = sL ν := by
  funext e k
  unfold sL
  rw [hf.1 6 (by omega) (by omega)]
  exact sg_congr (hf.1 5 (by omega) (by omega))
theorem TX.fr (h : TX μ0 ν0 μ ν) (h24 : ν0 0 5 ≤ 24) (h4 : ν0 0 0 ≤ 4) (hf : FrTx μ μ') (hk : FrK ν ν') : TX μ0 ν0 μ' ν' := by
  obtain ⟨a, b, c, d, e, f, g, i⟩ := h
  refine ⟨a.fr h24 h4 hf, b.fr hk, (c.kept (fun x _ _ => hf.1 x (by omega) (by omega))).keptR (VW_fr hk), by rw [hk.2 23 (by omega) (by omega)]; exact d, by rw [hk.2 34 (by omega) (by omega)]; exact e, by rw [hk.2 34 (by omega) (by omega)]; exact f, by rw [hk.2 34 (by omega) (by omega), hf.1 23 (by omega) (by omega)]; exact g, fun x x1 x2 => ?_⟩
  rw [hk.2 34 (by omega) (by omega)] at x2
  have q := i x x1 x2
  unfold okS TH at q ⊢
  rw [frK_sL hk, frK_ar hk, hk.1 6 (by omega) (by omega), hk.1 7 (by omega) (by omega), hf.1 (31 + 5 * x) (by omega) (by omega), hf.1 (32 + 5 * x) (by omega) (by omega), hf.1 (32 + 5 * x + 1) (by omega) (by omega), hf.1 (34 + 5 * x) (by omega) (by omega), hf.1 (34 + 5 * x + 1) (by omega) (by omega)]
  exact q
theorem TXB.fr (h : TXB μ0 ν0 μ ν) (h24 : ν0 0 5 ≤ 24) (h4 : ν0 0 0 ≤ 4) (hf : FrTx μ μ') (hk : FrK ν ν') : TXB μ0 ν0 μ' ν' := by
  obtain ⟨a, b, ⟨νw, c1, c2, c3⟩, d⟩ := h
  exact ⟨a.fr h24 h4 hf, b.fr hk, ⟨νw, c1.kept (fun x _ _ => hf.1 x (by omega) (by omega)), c2, c3⟩, by rw [hf.1 23 (by omega) (by omega)]; exact d⟩
end TXF
