/-! text: WORDS and SAYINGS come behind the ones that are there -/
theorem tl_congr {a b : Int → Int} : ∀ (l : List Int) (n : Nat), (∀ x ∈ l, a x = b x) → tl a n l = tl b n l
  | _, 0, _ => by unfold tl; rfl
  | [], _ + 1, _ => by unfold tl; rfl
  | x :: xs, n + 1, h => by
    unfold tl
    rw [h x (List.mem_cons_self ..), tl_congr xs _ (fun y hy => h y (List.mem_cons_of_mem _ hy))]
theorem fit_congr {a b : Int → Int} : ∀ (ps s : List Int) (σ : Nat → Option (List Int)), (∀ x ∈ s, a x = b x) → fit a ps s σ = fit b ps s σ
  | [], [], _, _ => rfl
  | [], _ :: _, _, _ => rfl
  | _ :: _, [], _, _ => rfl
  | p :: ps, x :: s, σ, h => by
    have ht : tl a 1 (x :: s) = tl b 1 (x :: s) := tl_congr _ 1 h
    have hd : ∀ y ∈ (x :: s).drop (tl b 1 (x :: s)), a y = b y := fun y hy => h y (List.mem_of_mem_drop hy)
    have hs : ∀ y ∈ s, a y = b y := fun y hy => h y (List.mem_cons_of_mem _ hy)
    unfold fit
    rw [ht]
    by_cases q : 23 ≤ p
    · rw [if_pos q, if_pos q]
      cases σ (p - 23).toNat with
      | none => exact fit_congr ps _ _ hd
      | some u =>
        show (if u = _ then _ else none) = (if u = _ then _ else none)
        rw [fit_congr ps _ σ hd]
    · rw [if_neg q, if_neg q, fit_congr ps s σ hs]
theorem goP_congr {ν ν' : Mem} {pat ins T : List Int} {P : Nat} (h : ∀ x ∈ T, ar ν' x = ar ν x) : goP ν' pat ins T P = goP ν pat ins T P := by
  have h1 : tl (ar ν') 1 (T.drop P) = tl (ar ν) 1 (T.drop P) := tl_congr _ 1 (fun x hx => h x (List.mem_of_mem_drop hx))
  have h2 : fit (ar ν') pat ((T.drop P).take (tl (ar ν) 1 (T.drop P))) (fun _ => none) = fit (ar ν) pat ((T.drop P).take (tl (ar ν) 1 (T.drop P))) (fun _ => none) := fit_congr _ _ _ (fun x hx => h x (List.mem_of_mem_drop (List.mem_of_mem_take hx)))
  unfold goP
  rw [h1, h2]
def EXT (ν ν' : Mem) : Prop := (∀ w : Nat, (w : Int) < ν 0 0 → ν' 1 w = ν 1 w ∧ ν' 2 w = ν 2 w ∧ ν' 3 w = ν 3 w ∧ mL ν' w = mL ν w) ∧ (∀ c, wb ν c ≠ -4 → wb ν' c = wb ν c) ∧ ν 0 0 ≤ ν' 0 0 ∧ ν 0 5 ≤ ν' 0 5 ∧
  (∀ e : Nat, (e : Int) < ν 0 5 → (∀ k, k ≤ 1 → sL ν' e k = sL ν e k ∧ ν' 6 (2 * e + k) = ν 6 (2 * e + k)) ∧ ν' 7 e = ν 7 e ∧ ν' 8 e = ν 8 e ∧ ν' 9 e = ν 9 e ∧ ν' 10 e = ν 10 e ∧ ν' 11 e = ν 11 e ∧ ν' 12 e = ν 12 e ∧ ν' 13 e = ν 13 e) ∧
  ν' 14 = ν 14 ∧ ν' 15 = ν 15 ∧ ν' 16 = ν 16 ∧ ν' 0 15 = ν 0 15 ∧ ν' 0 16 = ν 0 16
section EX
variable {μ ν ν' : Mem}
theorem ext_ar (hW : RelW μ ν) (h : EXT ν ν') {c : Int} (hc : 0 ≤ ar ν c) : ar ν' c = ar ν c := by
  unfold ar at hc ⊢
  by_cases q : 23 ≤ c ∨ c = 14
  · rw [if_pos q, if_pos q]
  · rw [if_neg q] at hc ⊢
    rw [if_neg q]
    by_cases q2 : c = 12
    · rw [if_pos q2, if_pos q2]
    · rw [if_neg q2] at hc ⊢
      rw [if_neg q2]
      by_cases b : wb ν c = -4
      · rw [if_pos b] at hc; omega
      · rw [h.2.1 c b, if_neg b, if_neg b]
        rcases wb_range hW c with z | ⟨z1, z2, z3⟩
        · exact absurd z b
        · exact (h.1 (wb ν c).toNat (by omega)).2.1
theorem ext_isT (hW : RelW μ ν) (h : EXT ν ν') {l : List Int} {n : Nat} (hl : isT (ar ν) n l) : isT (ar ν') n l := isT_congr l n (fun x hx => (ext_ar hW h (isT_ar l n hl x hx)).symm) hl
theorem ext_okT (hW : RelW μ ν) (h : EXT ν ν') {T : List Int} (hT : okT ν T) : okT ν' T := ⟨ext_isT hW h hT.1, hT.2⟩
theorem ext_fcL (h : EXT ν ν') {w : Nat} (hw : (w : Int) < ν 0 0) : fcL ν' w = fcL ν w := by
  unfold fcL
  rw [(h.1 w hw).1, (h.1 w hw).2.1]
theorem ext_stp (hW : RelW μ ν) (h : EXT ν ν') {kind which place : Int} {T T' : List Int} (hT : okT ν T) (hs : stp ν kind which place T = .inr T') : stp ν' kind which place T = .inr T' ∧ ptw ν' kind which place T = ptw ν kind which place T := by
  have hs0 := hs
  have hg : ∀ pat ins P, goP ν' pat ins T P = goP ν pat ins T P := fun pat ins P => goP_congr (fun x hx => ext_ar hW h (isT_ar T 1 hT.1 x hx))
  unfold stp at hs ⊢
  unfold ptw
  by_cases q : place < 0 ∨ (T.length : Int) ≤ place
  · rw [if_pos q] at hs; cases hs
  · rw [if_neg q] at hs ⊢
    by_cases k1 : kind ≤ 1
    · have hw := stp_which k1 hs0
      rw [if_pos k1, if_neg (by omega)] at hs
      have he := h.2.2.2.2.1 which.toNat (by omega)
      have h5 := h.2.2.2.1
      rw [if_pos k1, he.2.1, if_neg (by omega), hg, hg, (he.1 0 (by omega)).1, (he.1 1 (by omega)).1, if_neg (show ¬ kind = 2 by omega), if_neg (show ¬ kind = 2 by omega), if_neg (show ¬ kind = 3 by omega)]
      exact ⟨hs, rfl⟩
    · rw [if_neg k1] at hs ⊢
      by_cases k2 : kind = 2
      · rw [if_pos k2] at hs
        rw [if_pos k2, if_pos k2, if_pos k2]
        by_cases b4 : wb ν (atL T place) = -4
        · rw [if_pos b4] at hs; cases hs
        · rw [if_neg b4] at hs
          rcases wb_range hW (atL T place) with z | ⟨z1, z2, z3⟩
          · exact absurd z b4
          · have hw := h.1 (wb ν (atL T place)).toNat (by omega)
            rw [h.2.1 _ b4, if_neg b4, hg, ext_fcL h (by omega), hw.2.2.2]
            exact ⟨hs, rfl⟩
      · rw [if_neg k2] at hs
        rw [if_neg k2, if_neg k2, if_neg k2]
        by_cases b4 : which < 0 ∨ ν 0 0 ≤ which
        · rw [if_pos b4] at hs; cases hs
        · rw [if_neg b4] at hs
          have h0 := h.2.2.1
          rw [if_neg (by omega), hg, ext_fcL h (by omega), (h.1 which.toNat (by omega)).2.2.2]
          refine ⟨hs, ?_⟩
          rfl
theorem ext_run (hW : RelW μ ν) (hS : RelS μ ν) (h : EXT ν ν') {k wh p : Nat → Int} : ∀ (n i : Nat) (T T' : List Int), okT ν T → (∀ j, i ≤ j → j < i + n → 0 ≤ k j ∧ k j ≤ 3) → rnS ν k wh p i n T = some T' → rnS ν' k wh p i n T = some T' ∧ ∀ v, ptsS ν' k wh p v i n T ↔ ptsS ν k wh p v i n T
  | 0, i, T, T', _, _, h1 => ⟨h1, fun _ => Iff.rfl⟩
  | n + 1, i, T, T', hT, hj, h1 => by
    unfold rnS at h1
    unfold rnS ptsS
    cases hs : stp ν (k i) (wh i) (p i) T with
    | inl x => rw [hs] at h1; cases h1
    | inr T1 =>
      rw [hs] at h1
      obtain ⟨e1, e2⟩ := ext_stp hW h hT hs
      rw [e1, e2]
      obtain ⟨q1, q2⟩ := ext_run hW hS h n (i + 1) T1 T' (stp_inr hW hS hT (hj i (by omega) (by omega)) hs) (fun j a b => hj j (by omega) (by omega)) h1
      exact ⟨q1, fun v => or_congr Iff.rfl (q2 v)⟩
theorem ext_USE (hS : RelS μ ν) (h : EXT ν ν') (hn : ∀ e : Nat, ν 0 5 ≤ (e : Int) → (e : Int) < ν' 0 5 → ν' 7 e ≠ 2) (e f : Nat) : USE ν' e f ↔ USE ν e f := by
  unfold USE
  rw [h.2.2.2.2.2.1, h.2.2.2.2.2.2.1]
  constructor
  · rintro ⟨a, b, c⟩
    have he : (e : Int) < ν 0 5 := by
      rcases (show (e : Int) < ν 0 5 ∨ ν 0 5 ≤ (e : Int) by omega) with z | z
      · exact z
      · exact absurd b (hn e z a)
    have q := h.2.2.2.2.1 e he
    rw [q.2.2.2.2.1, q.2.2.2.2.2.1] at c
    rw [q.2.1] at b
    exact ⟨he, b, c⟩
  · rintro ⟨a, b, c⟩
    have q := h.2.2.2.2.1 e a
    have h5 := h.2.2.2.1
    rw [q.2.1, q.2.2.2.2.1, q.2.2.2.2.2.1]
    exact ⟨by omega, b, c⟩
/-- what leans on what stands -/
theorem ext_RelL {μ' : Mem} (hW : RelW μ ν) (hS : RelS μ ν) (hP : RelP μ ν) (hL : RelL μ ν) (h : EXT ν ν') (hn : ∀ e : Nat, ν 0 5 ≤ (e : Int) → (e : Int) < ν' 0 5 → ν' 7 e ≠ 2) (hμ : ∀ e : Nat, (e : Int) < ν 0 5 → μ' (31 + 5 * e) = μ (31 + 5 * e)) : RelL μ' ν' := by
  have tg : ∀ e x, Relation.TransGen (USE ν') e x ↔ Relation.TransGen (USE ν) e x := fun e x => by
    have : USE ν' = USE ν := by funext a b; exact propext (ext_USE hS h hn a b)
    rw [this]
  intro e he h7
  have he0 : (e : Int) < ν 0 5 := by
    rcases (show (e : Int) < ν 0 5 ∨ ν 0 5 ≤ (e : Int) by omega) with z | z
    · exact z
    · exact absurd h7 (hn e z he)
  obtain ⟨q1, q2, q3, q4, q5, q6, q7, q8⟩ := h.2.2.2.2.1 e he0
  rw [q2] at h7
  obtain ⟨l1, l2, l3, l4, l5, l6, l7a, l7b, l7c⟩ := hL e he0 h7
  have hs2 := (hS.2.2.2.2.2.2.2.2 e he0).2.2.2.2.2.2.2.2.2.2.1 (by omega)
  have okT0 := okT_sL hS he0 (show 0 ≤ 1 by omega)
  have run := ext_run hW hS h (k := ν 14) (wh := ν 15) (p := ν 16) (ν 11 e).toNat (ν 10 e).toNat (sL ν e 0) (sL ν e 1) okT0 (fun j a b => by
    have := hP j (by omega)
    exact ⟨this.2.2.2.1, this.2.2.2.2.1⟩) l1
  rw [h.2.2.2.2.2.1, h.2.2.2.2.2.2.1, h.2.2.2.2.2.2.2.1, h.2.2.2.2.2.2.2.2.1, q8, q5, q6, (q1 0 (by omega)).1, (q1 1 (by omega)).1, hμ e he0]
  refine ⟨run.1, l2, l3, fun f hf f7 f13 => ?_, fun f uf => ?_, ⟨l6.1, l6.2.1, fun f hf => (l6.2.2 f hf).trans (tg e f).symm⟩, l7a, l7b, fun v hv => ?_⟩
  · have hf0 : (f : Int) < ν 0 5 := by
      rcases (show (f : Int) < ν 0 5 ∨ ν 0 5 ≤ (f : Int) by omega) with z | z
      · exact z
      · exact absurd f7 (hn f z hf)
    have qf := h.2.2.2.2.1 f hf0
    rw [qf.2.1] at f7
    rw [qf.2.2.2.2.2.2.2] at f13
    exact l4 f hf0 f7 f13
  · have u0 := (ext_USE hS h hn e f).mp uf
    have fl := USE_lt hS hP u0
    have qf := h.2.2.2.2.1 f fl
    rw [qf.2.1, qf.2.2.2.2.2.2.2]
    exact l5 f u0
  · exact (l7c v hv).trans (run.2 v).symm
end EX
