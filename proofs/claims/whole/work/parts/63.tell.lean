/-! A SAYING becomes SHOWN: its STEPS are told -/
theorem chain_run {ν : Mem} {k w p : Nat → Int} (v : Int) : ∀ (n i : Nat) (Ts : Nat → List Int), (∀ j, j < n → stp ν (k (i + j)) (w (i + j)) (p (i + j)) (Ts j) = .inr (Ts (j + 1))) → rnS ν k w p i n (Ts 0) = some (Ts n) ∧ (ptsS ν k w p v i n (Ts 0) ↔ ∃ j, j < n ∧ ptw ν (k (i + j)) (w (i + j)) (p (i + j)) (Ts j) = v)
  | 0, i, Ts, _ => ⟨rfl, ⟨fun h => h.elim, fun ⟨j, hj, _⟩ => by omega⟩⟩
  | n + 1, i, Ts, h => by
    have h0 : stp ν (k i) (w i) (p i) (Ts 0) = .inr (Ts 1) := h 0 (by omega)
    have ih := chain_run v n (i + 1) (fun j => Ts (j + 1)) (fun j hj => by
      have := h (j + 1) (by omega)
      rw [show i + (j + 1) = i + 1 + j by omega] at this
      exact this)
    unfold rnS ptsS
    rw [h0]
    refine ⟨ih.1, ⟨?_, ?_⟩⟩
    · rintro (q | q)
      · exact ⟨0, by omega, q⟩
      · obtain ⟨j, hj, q⟩ := ih.2.mp q
        rw [show i + 1 + j = i + (j + 1) by omega] at q
        exact ⟨j + 1, by omega, q⟩
    · rintro ⟨j, hj, q⟩
      cases j with
      | zero => exact Or.inl q
      | succ j =>
        rw [show i + (j + 1) = i + 1 + j by omega] at q
        exact Or.inr (ih.2.mpr ⟨j, by omega, q⟩)
theorem run_kept {ν ν' : Mem} (hf : FrQ ν ν') {k w p k' w' p' : Nat → Int} (h7 : ∀ f : Nat, (ν 7 f = 0 ∨ ν 7 f = 2) → (ν' 7 f = 0 ∨ ν' 7 f = 2)) : ∀ (n i : Nat) (T T' : List Int), (∀ j, i ≤ j → j < i + n → k' j = k j ∧ w' j = w j ∧ p' j = p j) → rnS ν k w p i n T = some T' → rnS ν' k' w' p' i n T = some T' ∧ ∀ v, ptsS ν' k' w' p' v i n T ↔ ptsS ν k w p v i n T
  | 0, i, T, T', _, h => ⟨h, fun _ => Iff.rfl⟩
  | n + 1, i, T, T', hj, h => by
    obtain ⟨a, b, c⟩ := hj i (by omega) (by omega)
    unfold rnS at h
    unfold rnS ptsS
    rw [a, b, c, frQ_ptw hf]
    cases hs : stp ν (k i) (w i) (p i) T with
    | inl x => rw [hs] at h; cases h
    | inr T1 =>
      rw [hs] at h
      rw [frQ_stpR hf hs (fun _ => h7 _)]
      obtain ⟨q1, q2⟩ := run_kept hf h7 n (i + 1) T1 T' (fun j a b => hj j (by omega) (by omega)) h
      exact ⟨q1, fun v => or_congr Iff.rfl (q2 v)⟩
/-- the reference when e is SHOWN -/
def telR (ν : Mem) (e m n : Nat) (k w p : Nat → Int) (z : Int) : Mem := fun c j =>
  if c = 14 ∧ m ≤ j ∧ j < m + n then k (j - m) else if c = 15 ∧ m ≤ j ∧ j < m + n then w (j - m) else if c = 16 ∧ m ≤ j ∧ j < m + n then p (j - m) else
  if c = 10 ∧ j = e then (m : Int) else if c = 11 ∧ j = e then (n : Int) else if c = 12 ∧ j = e then -4 else if c = 13 ∧ j = e then ν 0 15 else if c = 7 ∧ j = e then 2 else
  if c = 17 ∧ j = 1000 * e + (ν 0 22).toNat then 3 else if c = 0 ∧ j = 15 then ν 0 15 + 1 else if c = 0 ∧ j = 16 then ((m + n : Nat) : Int) else if c = 0 ∧ j = 45 then z else ν c j
/-- the class -/
def telC (μ : Mem) (e m n t : Nat) (k w p : Nat → Int) (d un pu : Int) : Mem := fun c j =>
  if c = 25 ∧ m ≤ j ∧ j < m + n then k (j - m) else if c = 26 ∧ m ≤ j ∧ j < m + n then w (j - m) else if c = 27 ∧ m ≤ j ∧ j < m + n then p (j - m) else
  if c = 31 + 5 * e ∧ j = 2 then 2 else if c = 31 + 5 * e ∧ j = 5 then (m : Int) else if c = 31 + 5 * e ∧ j = 6 then (n : Int) else if c = 31 + 5 * e ∧ j = 8 then μ 23 8 else if c = 31 + 5 * e ∧ j = 9 then un else if c = 31 + 5 * e ∧ j = 10 then pu else
  if c = 23 ∧ j = 7 then ((t + 1 : Nat) : Int) else if c = 23 ∧ j = 8 then μ 23 8 + 1 else if c = 23 ∧ j = 10 then ((m + n : Nat) : Int) else
  if c = 28 ∧ j = t then d else if c = 29 ∧ j = t then (e : Int) else if c = 30 ∧ j = t then 2 else μ c j
theorem asR_tel {ν ν' : Mem} {e D : Nat} {v : Int} (h17 : ∀ j, ν' 17 j = if j = 1000 * e + D then v + 1 else ν 17 j) (hv : 0 ≤ v) (hD : D < 1000) (hz : ∀ d : Nat, d < 1000 → D < d → ν 17 (1000 * e + d) = 0) (f : Nat) : ∀ d, d < 1000 → asR ν' f d = if f = e ∧ D ≤ d then v else asR ν f d
  | 0, _ => by
    unfold asR
    rw [h17]
    by_cases q : f = e ∧ D ≤ 0
    · rw [if_pos q, if_pos (show 1000 * f = 1000 * e + D by omega), if_neg (by omega)]
      omega
    · rw [if_neg q, if_neg (show ¬ 1000 * f = 1000 * e + D by omega)]
  | d + 1, hd => by
    unfold asR
    rw [h17, asR_tel h17 hv hD hz f d (by omega)]
    by_cases q : f = e ∧ D ≤ d + 1
    · obtain ⟨rfl, q⟩ := q
      rw [if_pos (show f = f ∧ D ≤ d + 1 from ⟨rfl, q⟩)]
      by_cases q2 : D = d + 1
      · rw [if_pos (show 1000 * f + (d + 1) = 1000 * f + D by omega), if_neg (by omega)]
        omega
      · rw [if_neg (show ¬ 1000 * f + (d + 1) = 1000 * f + D by omega), if_pos (hz (d + 1) hd (by omega)), if_pos (show f = f ∧ D ≤ d from ⟨rfl, by omega⟩)]
    · rw [if_neg q, if_neg (show ¬ 1000 * f + (d + 1) = 1000 * e + D by omega), if_neg (show ¬ (f = e ∧ D ≤ d) by omega)]
theorem asC_old {μ μ' : Mem} {f : Nat} {d st st' : Int} (hs : st' = 0 ↔ st = 0) : ∀ t : Nat, (∀ i, i < t → μ' 28 i = μ 28 i ∧ μ' 29 i = μ 29 i ∧ μ' 30 i = μ 30 i) → asC μ' f d st' t = asC μ f d st t
  | 0, _ => by
    unfold asC
    by_cases q : st = 0
    · rw [if_pos q, if_pos (hs.mpr q)]
    · rw [if_neg q, if_neg (fun z => q (hs.mp z))]
  | t + 1, h => by
    obtain ⟨a, b, c⟩ := h t (by omega)
    unfold asC
    rw [a, b, c, asC_old hs t (fun i hi => h i (by omega))]
/-- a TURN of a saying that is no ground -/
theorem RelD.turn {μ μ' ν ν' : Mem} {e t D : Nat} {v : Int} (h : RelD μ ν) (he : (e : Int) < ν 0 5) (h24 : ν 0 5 ≤ 24) (hd : ν 0 22 = (D : Int)) (hD : D < 1000) (ht : μ 23 7 = (t : Int)) (h0 : ν 7 e ≠ 0) (hv : v = 2 ∨ v = 3)
    (h7 : ∀ f, ν' 7 f = if f = e then v else ν 7 f) (h9 : ν' 9 = ν 9) (h5 : ν' 0 5 = ν 0 5) (h22 : ν' 0 22 = ν 0 22) (h17 : ∀ j, ν' 17 j = if j = 1000 * e + D then v + 1 else ν 17 j)
    (c7 : μ' 23 7 = ((t + 1 : Nat) : Int)) (c28 : ∀ i, μ' 28 i = if i = t then (D : Int) else μ 28 i) (c29 : ∀ i, μ' 29 i = if i = t then (e : Int) else μ 29 i) (c30 : ∀ i, μ' 30 i = if i = t then v else μ 30 i)
    (hc : (μ' 23 7 + (cnt (fun e => decide (ν' 7 e = 2 ∧ ν' 11 e ≠ 0)) (ν 0 5).toNat : Int) ≤ 2 * ν' 0 16 + (cnt (fun e => decide (ν' 7 e = 2 ∧ ν' 11 e = 0)) (ν 0 5).toNat : Int))) : RelD μ' ν' := by
  obtain ⟨a, b, c, d, g⟩ := h
  have he24 : e < 24 := by omega
  refine ⟨by omega, by rw [h5]; exact hc, fun i hi => ?_, fun f x hf hx => ?_, fun f hf => ?_⟩
  · rw [c7] at hi
    rw [c28, c29, h22, h5]
    by_cases q : i = t
    · rw [if_pos q, if_pos q]
      omega
    · rw [if_neg q, if_neg q]
      exact c i (by omega)
  · rw [h17, h22, h5]
    have := d f x hf hx
    by_cases q : 1000 * f + x = 1000 * e + D
    · rw [if_pos q]
      exact ⟨by omega, fun z => by omega⟩
    · rw [if_neg q]
      exact this
  · rw [h5] at hf
    obtain ⟨g1, g2, g3⟩ := g f hf
    rw [h9, h22]
    refine ⟨g1, g2, fun x hx => ?_⟩
    rw [asR_tel h17 (by omega) hD (fun y hy hz => (d e y he24 hy).2 (by omega)) f x hx, ← g3 x hx, h7, c7, show (((t + 1 : Nat) : Int)).toNat = t + 1 by omega, ht, show ((t : Int)).toNat = t by omega]
    have uA : ∀ st : Int, asC μ' f x st (t + 1) = if μ' 29 t = (f : Int) ∧ μ' 28 t ≤ (x : Int) then μ' 30 t else asC μ' f x st t := fun _ => rfl
    rw [uA, c28, c29, c30, if_pos rfl, if_pos rfl, if_pos rfl, asC_old (st := ν 7 f) (μ := μ) (by
      by_cases q : f = e
      · subst q
        rw [if_pos rfl]
        omega
      · rw [if_neg q]) t (fun i hi => by rw [c28, c29, c30, if_neg (by omega), if_neg (by omega), if_neg (by omega)]; exact ⟨rfl, rfl, rfl⟩)]
    by_cases q : f = e
    · subst q
      by_cases q2 : D ≤ x
      · rw [if_neg (by omega), if_pos (show (f : Int) = f ∧ (D : Int) ≤ x from ⟨rfl, by omega⟩), if_pos (show f = f ∧ D ≤ x from ⟨rfl, q2⟩)]
      · rw [if_neg (show ¬ ((f : Int) = f ∧ (D : Int) ≤ x) by omega), if_neg (show ¬ (f = f ∧ D ≤ x) by omega)]
    · rw [if_neg (show ¬ ((e : Int) = f ∧ (D : Int) ≤ x) by omega), if_neg (show ¬ (f = e ∧ D ≤ x) by omega)]
theorem TG_trans {R : Nat → Nat → Prop} {a b c : Nat} (h : Relation.TransGen R a b) (h2 : Relation.TransGen R b c) : Relation.TransGen R a c := by
  induction h2 with
  | single q => exact Relation.TransGen.tail h q
  | tail _ q ih => exact Relation.TransGen.tail ih q
/-- what is leaned on when e is shown, too -/
theorem TG_tel {R R' : Nat → Nat → Prop} {U : Nat → Prop} {e : Nat} (hR : ∀ f g, R' f g ↔ (f = e ∧ U g) ∨ (f ≠ e ∧ R f g)) (hn : ∀ f g, R f g → f ≠ e ∧ g ≠ e) (hU : ¬ U e) : (∀ f g, f ≠ e → (Relation.TransGen R' f g ↔ Relation.TransGen R f g)) ∧ ∀ g, Relation.TransGen R' e g ↔ (U g ∨ ∃ f, U f ∧ Relation.TransGen R f g) := by
  have one : ∀ f g, f ≠ e → (R' f g ↔ R f g) := fun f g hf => by
    rw [hR]
    exact ⟨fun z => z.elim (fun y => absurd y.1 hf) (fun y => y.2), fun z => Or.inr ⟨hf, z⟩⟩
  have ne : ∀ f g, Relation.TransGen R f g → g ≠ e := fun f g h => by
    cases h with
    | single q => exact (hn _ _ q).2
    | tail _ q => exact (hn _ _ q).2
  have A : ∀ f g, f ≠ e → (Relation.TransGen R' f g ↔ Relation.TransGen R f g) := fun f g hf => by
    constructor
    · intro h
      induction h with
      | single q => exact Relation.TransGen.single ((one _ _ hf).mp q)
      | tail _ q ih => exact Relation.TransGen.tail ih ((one _ _ (ne _ _ ih)).mp q)
    · intro h
      induction h with
      | single q => exact Relation.TransGen.single ((one _ _ hf).mpr q)
      | tail _ q ih => exact Relation.TransGen.tail ih ((one _ _ (hn _ _ q).1).mpr q)
  refine ⟨A, fun g => ⟨fun h => ?_, fun h => ?_⟩⟩
  · induction h with
    | single q => exact (((hR _ _).mp q).elim (fun y => Or.inl y.2) (fun y => absurd rfl y.1))
    | tail _ q ih =>
      rename_i b c _
      rcases ih with ih | ⟨f, hf, ih⟩
      · have hb : b ≠ e := fun z => hU (by rw [← z]; exact ih)
        exact Or.inr ⟨b, ih, Relation.TransGen.single ((one _ _ hb).mp q)⟩
      · exact Or.inr ⟨f, hf, Relation.TransGen.tail ih ((one _ _ (ne _ _ ih)).mp q)⟩
  · rcases h with h | ⟨f, hf, h⟩
    · exact Relation.TransGen.single ((hR _ _).mpr (Or.inl ⟨rfl, h⟩))
    · exact TG_trans (Relation.TransGen.single ((hR _ _).mpr (Or.inl ⟨rfl, hf⟩))) ((A f g (fun z => hU (by rw [← z]; exact hf))).mpr h)
theorem cnt_one {P Q : Nat → Bool} {e : Nat} : ∀ n, e < n → (∀ k, k < n → k ≠ e → P k = Q k) → P e = true → Q e = false → cnt P n = cnt Q n + 1
  | 0, he, _, _, _ => by omega
  | n + 1, he, h, hp, hq => by
    unfold cnt
    by_cases q : e = n
    · subst q
      rw [hp, hq, if_pos rfl, if_neg (by decide), cnt_congr e (fun k hk => h k (by omega) (by omega))]
    · rw [cnt_one n (by omega) (fun k hk => h k (by omega)) hp hq, h n (by omega) (fun z => q z.symm)]
      omega
