/-! widens of the reference -/
theorem wb12 {μ ν : Mem} (hW : RelW μ ν) {c : Int} (h : 0 ≤ ar ν c) : wb ν c = -4 ↔ (c = 12 ∨ ar ν c = 0) := by
  constructor
  · intro hw
    unfold ar at h ⊢
    by_cases q : 23 ≤ c ∨ c = 14
    · rw [if_pos q]; exact Or.inr rfl
    · rw [if_neg q] at h ⊢
      by_cases q2 : c = 12
      · exact Or.inl q2
      · rw [if_neg q2, if_pos hw] at h; omega
  · intro hc
    by_cases z : wb ν c = -4
    · exact z
    · have := wb_ar hW z
      omega
/-- WORDS are put in, n times at most; none: too long, or too often -/
def wdn (ν : Mem) : Nat → List Int → Option (List Int)
  | 0, T => if fwd ν T < T.length then none else some T
  | n + 1, T => if fwd ν T < T.length then (if (wiT ν T (fwd ν T)).length ≤ 200 then wdn ν n (wiT ν T (fwd ν T)) else none) else some T
theorem r_fw2 {μ ν X : Mem} {T : List Int} (hW : RelW μ ν) (hM : FrM ν X) (hR : RHL X 46 T) (h74 : X 0 74 = (T.length : Int)) (hT : isT (ar ν) 1 T) (hl : T.length ≤ 200) : ∀ (j i : Nat), i + j = fwd ν T → e_X12_firstWord_2 i X = some (some (vI (fwd ν T : Int)), X)
  | 0, i, hj => by
    obtain rfl : i = fwd ν T := by omega
    rw [q_X12_firstWord_2, h74]
    by_cases q : fwd ν T < T.length
    · have hx : T[fwd ν T]? = some T[fwd ν T] := List.getElem?_eq_getElem q
      have h0 : 0 ≤ ar ν T[fwd ν T] := isT_ar T 1 hT _ (List.getElem_mem q)
      have hw := fwd_at T _ hx
      have := wb12 hW h0
      have e1 : ¬ T[fwd ν T] = 12 := fun z => hw (this.mpr (Or.inl z))
      have e2 : ¬ ar ν T[fwd ν T] = 0 := fun z => hw (this.mpr (Or.inr z))
      rw [if_pos (by omega), gk (lnR 46) 200 rfl (by omega) (by omega), show ((fwd ν T : Int)).toNat = fwd ν T by omega, hR.get q, if_neg e1, gk (lnR 46) 200 rfl (by omega) (by omega), s_has (hW.RCa.kept hM).2.1, cI_t, frM_ar hM, if_neg e2]
    · rw [if_neg (by omega)]
  | j + 1, i, hj => by
    have hle := fwd_le ν T
    have q : i < T.length := by omega
    have hx : T[i]? = some T[i] := List.getElem?_eq_getElem q
    have h0 : 0 ≤ ar ν T[i] := isT_ar T 1 hT _ (List.getElem_mem q)
    have hw := fwd_lt (ν := ν) T i _ (by omega) hx
    have e := (wb12 hW h0).mp hw
    have ih := r_fw2 hW hM hR h74 hT hl j (i + 1) (by omega)
    rw [q_X12_firstWord_2, h74, if_pos (by omega), gk (lnR 46) 200 rfl (by omega) (by omega), show ((i : Int)).toNat = i by omega, hR.get q, w20c (by omega)]
    by_cases z : T[i] = 12
    · rw [if_pos z]; exact ih
    · rw [if_neg z, gk (lnR 46) 200 rfl (by omega) (by omega), s_has (hW.RCa.kept hM).2.1, cI_t, frM_ar hM, if_pos (by omega)]; exact ih
theorem r_fw {μ ν X : Mem} {T : List Int} (hW : RelW μ ν) (hM : FrM ν X) (hR : RHL X 46 T) (h74 : X 0 74 = (T.length : Int)) (hT : isT (ar ν) 1 T) (hl : T.length ≤ 200) : f_X12_firstWord [vR 12 0] X = some (some (vI (fwd ν T : Int)), X) := by
  rw [q_X12_firstWord]
  exact r_fw2 hW hM hR h74 hT hl (fwd ν T) 0 (by omega)
/-- what widens leaves -/
def WD (X : Mem) (k : Nat) (o : Option (List Int)) : Prop := match o with
  | none => 200 < X 45 k
  | some L => L.length ≤ 200 ∧ X 45 k = (L.length : Int) ∧ ∀ i x, L[i]? = some x → X 44 (200 * k + i) = x
def FrVd (k : Nat) (X X' : Mem) : Prop := (∀ c, c ≠ 44 → c ≠ 45 → c ≠ 46 → c ≠ 47 → c ≠ 0 → X' c = X c) ∧ (∀ q, q ≠ 74 → q ≠ 76 → X' 0 q = X 0 q) ∧ (∀ q, q ≠ k → X' 45 q = X 45 q) ∧ ∀ q, (q < 200 * k ∨ 200 * k + 200 ≤ q) → X' 44 q = X 44 q
theorem frVd_rf {k : Nat} {X : Mem} : FrVd k X X := ⟨fun _ _ _ _ _ _ => rfl, fun _ _ _ => rfl, fun _ _ => rfl, fun _ _ => rfl⟩
theorem frVd_trans {k : Nat} {X X1 X2 : Mem} (h : FrVd k X X1) (h2 : FrVd k X1 X2) : FrVd k X X2 := ⟨fun c a b d e f => (h2.1 c a b d e f).trans (h.1 c a b d e f), fun q a b => (h2.2.1 q a b).trans (h.2.1 q a b), fun q a => (h2.2.2.1 q a).trans (h.2.2.1 q a), fun q a => (h2.2.2.2 q a).trans (h.2.2.2 q a)⟩
theorem frWd_V {k : Nat} {X X' : Mem} (h : FrWd X X') : FrVd k X X' := ⟨fun c _ _ a b d => h.1 c a b d, h.2, fun q _ => by rw [h.1 45 (by omega) (by omega) (by omega)], fun q _ => by rw [h.1 44 (by omega) (by omega) (by omega)]⟩
theorem frVd_M {k : Nat} {X X' : Mem} (h : FrVd k X X') : FrM X X' := ⟨fun c _ _ => h.1 c (by omega) (by omega) (by omega) (by omega) (by omega), h.2.1 0 (by omega) (by omega), h.2.1 5 (by omega) (by omega), h.2.1 23 (by omega) (by omega)⟩
theorem WD.kept {X X' : Mem} {k k' : Nat} {o : Option (List Int)} (h : WD X k o) (hf : FrVd k' X X') (hk : k ≠ k') : WD X' k o := by
  cases o with
  | none => have h' : 200 < X 45 k := h; show 200 < X' 45 k; rw [hf.2.2.1 k hk]; exact h'
  | some L =>
    obtain ⟨a, b, c⟩ := h
    refine ⟨a, by rw [hf.2.2.1 k hk]; exact b, fun i x hx => ?_⟩
    have hi : i < L.length := by
      by_cases z : i < L.length
      · exact z
      · rw [List.getElem?_eq_none (by omega)] at hx; cases hx
    rw [hf.2.2.2 (200 * k + i) (by omega)]
    exact c i x hx
theorem w157 {k n : Nat} (hk : k < 4) {o2 o3 o4 : Option AV} : ∀ (j i : Nat) (X : Mem) (o5 : Option AV), i + j = min n 200 → X 0 74 = (n : Int) → n ≤ 9000 → ∃ X', e_X12_widens_157 k o2 o3 o4 o5 i X = some (none, X') ∧ (∀ c, c ≠ 44 → X' c = X c) ∧ (∀ q, (q < 200 * k ∨ 200 * k + 200 ≤ q) → X' 44 q = X 44 q) ∧ (∀ q, q < i → X' 44 (200 * k + q) = X 44 (200 * k + q)) ∧ ∀ q, i ≤ q → q < min n 200 → X' 44 (200 * k + q) = X 46 q
  | 0, i, X, o5, hj, h74, hn => by
    refine ⟨X, ?_, fun _ _ => rfl, fun _ _ => rfl, fun _ _ => rfl, fun q _ _ => by omega⟩
    rw [q_X12_widens_157, h74]
    by_cases z : n < 200
    · rw [if_neg (by omega)]
    · rw [if_neg (show ¬ (i : Int) < 200 by omega), ite_self]
  | j + 1, i, X, o5, hj, h74, hn => by
    rw [q_X12_widens_157, h74, if_pos (by omega), if_pos (by omega), gk (lnR 46) 200 rfl (by omega) (by omega), wr_eq (x := 200 * (k : Int)) (by omega) (by omega), wr_eq (x := 200 * (k : Int) + (i : Int)) (by omega) (by omega), gk (lnR 44) 800 rfl (by omega) (by omega), show ((i : Int)).toNat = i by omega, show (200 * (k : Int) + (i : Int)).toNat = 200 * k + i by omega, w20c (by omega)]
    obtain ⟨X', a1, a2, a3, a4, a5⟩ := w157 (n := n) hk (o2 := o2) (o3 := o3) (o4 := o4) j (i + 1) (up X 44 (200 * k + i) (X 46 i)) (kl o5) (by omega) (by rw [up_cell (by omega)]; exact h74) hn
    refine ⟨X', a1, fun c hc => by rw [a2 c hc, up_cell hc], fun q hq => by rw [a3 q hq, up_slot (by omega)], fun q hq => by rw [a4 q (by omega), up_slot (by omega)], fun q h1 h2 => ?_⟩
    by_cases z : q = i
    · rw [a4 q (by omega), z, up_same]
    · rw [a5 q (by omega) h2, up_cell (by omega)]
def W7 (X : Mem) (k m : Nat) (o : Option (List Int)) : Prop := match o with
  | none => 200 < X 45 k
  | some L => L.length ≤ 200 ∧ m = L.length ∧ X 45 k = (L.length : Int) ∧ RHL X 46 L
theorem frVd_45 {k : Nat} {X : Mem} {v : Int} : FrVd k X (up X 45 k v) := ⟨fun c _ a _ _ _ => up_cell a, fun q _ _ => by rw [up_cell (by omega)], fun q a => up_slot a, fun q _ => by rw [up_cell (by omega)]⟩
theorem w77 {μ ν : Mem} (hW : RelW μ ν) {k : Nat} (hk : k < 4) {o2 o3 : Option AV} : ∀ (n t : Nat) (X : Mem) (T : List Int) (o4 : Option AV), t + n = 400 → FrM ν X → RHL X 46 T → X 0 74 = (T.length : Int) → isT (ar ν) 1 T → LT T → T.length ≤ 200 → ∃ (X' : Mem) (o4' o5 : Option AV) (m : Nat), e_X12_widens_77 k o2 o3 o4 (fwd ν T) t X = e_X12_widens_157 k o2 o3 o4' o5 0 X' ∧ FrVd k X X' ∧ m ≤ 9000 ∧ X' 0 74 = (m : Int) ∧ W7 X' k m (wdn ν n T)
  | 0, t, X, T, o4, ht, hM, hR, h74, hT, hL, hl => by
    rw [q_X12_widens_77, if_neg (by omega), h74, gk (lnR 45) 4 rfl (by omega) (by omega), gk (lnR 45) 4 rfl (by omega) (by omega), show ((k : Int)).toNat = k by omega]
    have e : wdn ν 0 T = if fwd ν T < T.length then none else some T := rfl
    by_cases q : fwd ν T < T.length
    · rw [if_pos (by omega), e, if_pos q]
      exact ⟨_, _, _, T.length, rfl, frVd_45, by omega, by rw [up_cell (by omega)]; exact h74, by show 200 < _; rw [up_same]; omega⟩
    · rw [if_neg (by omega), e, if_neg q]
      exact ⟨_, _, _, T.length, rfl, frVd_45, by omega, by rw [up_cell (by omega)]; exact h74, hl, rfl, by rw [up_same], hR.kept (up_cell (by omega))⟩
  | n + 1, t, X, T, o4, ht, hM, hR, h74, hT, hL, hl => by
    have e : wdn ν (n + 1) T = if fwd ν T < T.length then (if (wiT ν T (fwd ν T)).length ≤ 200 then wdn ν n (wiT ν T (fwd ν T)) else none) else some T := rfl
    by_cases q : fwd ν T < T.length
    · have hx : T[fwd ν T]? = some T[fwd ν T] := List.getElem?_eq_getElem q
      have hw := fwd_at T _ hx
      obtain ⟨X1, a1, a2, a3, a4, a5⟩ := r_putsIn hW hM hR h74 hT hl q hw
      have hok := wi_ok hW hT hL q hw
      have hM1 := frM_trans hM (frWd_M a2)
      rw [q_X12_widens_77, if_pos (by omega), h74, if_pos (by omega), a1, cV_t, e, if_pos q]
      by_cases z : (wiT ν T (fwd ν T)).length ≤ 200
      · have hR1 : RHL X1 46 (wiT ν T (fwd ν T)) := ⟨z, fun i x hx => a5 i x (by
          by_cases y : i < (wiT ν T (fwd ν T)).length
          · omega
          · rw [List.getElem?_eq_none (by omega)] at hx; cases hx) hx⟩
        rw [if_pos (by omega), r_fw hW hM1 hR1 a4 hok.1 z, cI_t, w20c (by omega), if_pos z]
        obtain ⟨X2, p4, p5, m, b1, b2, b3⟩ := w77 hW hk (o2 := o2) (o3 := o3) n (t + 1) X1 _ (kl o4) (by omega) hM1 hR1 a4 hok.1 hok.2 z
        exact ⟨X2, p4, p5, m, b1, frVd_trans (frWd_V a2) b2, b3⟩
      · rw [if_neg (by omega), if_neg z, q_X12_widens_77]
        simp only [Int.lt_irrefl, if_false, ite_self]
        rw [gk (lnR 45) 4 rfl (by omega) (by omega), show ((k : Int)).toNat = k by omega]
        exact ⟨_, _, _, (wiT ν T (fwd ν T)).length, rfl, frVd_trans (frWd_V a2) frVd_45, a3, by rw [up_cell (by omega)]; exact a4, by show 200 < _; rw [up_same, a4]; omega⟩
    · have hle := fwd_le ν T
      rw [q_X12_widens_77, h74, e, if_neg q, show ((fwd ν T : Int)) = (T.length : Int) by omega]
      simp only [Int.lt_irrefl, if_false, ite_self]
      rw [gk (lnR 45) 4 rfl (by omega) (by omega), show ((k : Int)).toNat = k by omega]
      exact ⟨_, _, _, T.length, rfl, frVd_45, by omega, by rw [up_cell (by omega)]; exact h74, hl, rfl, by rw [up_same], hR.kept (up_cell (by omega))⟩
theorem w17 {S : List Int} {e k : Nat} (he : e < 24) (hk : k < 2) (hS : S.length ≤ 20) {v1 v4 : Int} {o6 : Option AV} : ∀ (j i : Nat) (X : Mem), i + j = S.length → X 0 74 = (S.length : Int) → (∀ i x, S[i]? = some x → X 5 (40 * e + 20 * k + i) = x) → (∀ q x, q < i → S[q]? = some x → X 46 q = x) → ∃ X', e_X12_widens_17 v1 e k v4 i o6 X = e_X12_widens_17 v1 e k v4 S.length o6 X' ∧ (∀ c, c ≠ 46 → X' c = X c) ∧ RHL X' 46 S
  | 0, i, X, hj, h74, h5, h => by
    obtain rfl : i = S.length := by omega
    exact ⟨X, rfl, fun _ _ => rfl, show S.length ≤ 200 by omega, fun q x hx => h q x (by
      by_cases y : q < S.length
      · exact y
      · rw [List.getElem?_eq_none (by omega)] at hx; cases hx) hx⟩
  | j + 1, i, X, hj, h74, h5, h => by
    have hi : i < S.length := by omega
    have e5 := h5 i _ (List.getElem?_eq_getElem hi)
    rw [q_X12_widens_17, h74, if_pos (by omega), wr_eq (x := 40 * (e : Int)) (by omega) (by omega), wr_eq (x := 20 * (k : Int)) (by omega) (by omega), wr_eq (x := 40 * (e : Int) + 20 * (k : Int)) (by omega) (by omega), wr_eq (x := 40 * (e : Int) + 20 * (k : Int) + (i : Int)) (by omega) (by omega), gk (lnR 5) 960 rfl (by omega) (by omega), gk (lnR 46) 200 rfl (by omega) (by omega), show (40 * (e : Int) + 20 * (k : Int) + (i : Int)).toNat = 40 * e + 20 * k + i by omega, show ((i : Int)).toNat = i by omega, e5, w20c (by omega)]
    obtain ⟨X', a1, a2, a3⟩ := w17 he hk hS (v1 := v1) (v4 := v4) (o6 := o6) j (i + 1) (up X 46 i S[i]) (by omega) (by rw [up_cell (by omega)]; exact h74) (by rw [up_cell (by omega)]; exact h5) (fun q x hq hx => by
      rw [up_if]
      by_cases z : q = i
      · rw [if_pos z]; subst z; rw [List.getElem?_eq_getElem hi] at hx; exact Option.some.inj hx
      · rw [if_neg z]; exact h q x (by omega) hx)
    exact ⟨X', a1, fun c hc => by rw [a2 c hc, up_cell hc], a3⟩
/-- a side, widened if so told -/
def wd (ν : Mem) (all : Prop) [Decidable all] (T : List Int) : Option (List Int) := if all then wdn ν 400 T else some T
theorem r_widens {μ ν X : Mem} {e w k : Nat} (hW : RelW μ ν) (hM : FrM ν X) (he : e < 24) (hw : w < 2) (hk : k < 4) (hS : okS ν e w) {v4 : Int} (hv : v4 = 0 ∨ v4 = 1) : ∃ X', f_X12_widens [vR 12 0, vI k, vI e, vI w, vI v4] X = some (none, X') ∧ FrVd k X X' ∧ WD X' k (wd ν (v4 = 1) (sL ν e w)) := by
  obtain ⟨s1, s2, s3, s4⟩ := hS
  have hlen : (sL ν e w).length = (ν 6 (2 * e + w)).toNat := sg_len ..
  have hl20 : (sL ν e w).length ≤ 20 := by omega
  have e6 : X 6 (2 * e + w) = ((sL ν e w).length : Int) := by rw [frM_c hM (by omega)]; omega
  rw [q_X12_widens, wr_eq (x := 2 * (e : Int)) (by omega) (by omega), wr_eq (x := 2 * (e : Int) + (w : Int)) (by omega) (by omega), gk (lnR 6) 48 rfl (by omega) (by omega), show (2 * (e : Int) + (w : Int)).toNat = 2 * e + w by omega, e6]
  obtain ⟨X1, a1, a2, a3⟩ := w17 (S := sL ν e w) he hw hl20 (v1 := k) (v4 := v4) (o6 := none) (sL ν e w).length 0 (up X 0 74 ((sL ν e w).length : Int)) (by omega) (by rw [up_same]) (fun i x hx => by
    rw [up_cell (by omega), frM_c hM (by omega)]
    have hi : i < (ν 6 (2 * e + w)).toNat := by
      by_cases y : i < (sL ν e w).length
      · omega
      · rw [List.getElem?_eq_none (by omega)] at hx; cases hx
    have hx' : (sL ν e w)[i]? = some (ν 5 (40 * e + 20 * w + i)) := sg_get hi
    rw [hx'] at hx
    exact Option.some.inj hx) (fun q x hq _ => by omega)
  have a1' : e_X12_widens_17 k e w v4 0 none (up X 0 74 ((sL ν e w).length : Int)) = _ := a1
  have fV : FrVd k X X1 := ⟨fun c _ _ p _ r => by rw [a2 c p, up_cell r], fun q p _ => by rw [a2 0 (by omega), up_slot p], fun q _ => by rw [a2 45 (by omega), up_cell (by omega)], fun q _ => by rw [a2 44 (by omega), up_cell (by omega)]⟩
  have hM1 := frM_trans hM (frVd_M fV)
  have h74 : X1 0 74 = ((sL ν e w).length : Int) := by rw [a2 0 (by omega), up_same]
  have fin : ∀ (X2 : Mem) (o2 o3 o4 o5 : Option AV) (m : Nat) (o : Option (List Int)), FrVd k X X2 → m ≤ 9000 → X2 0 74 = (m : Int) → W7 X2 k m o → ∃ X', e_X12_widens_157 k o2 o3 o4 o5 0 X2 = some (none, X') ∧ FrVd k X X' ∧ WD X' k o := fun X2 o2 o3 o4 o5 m o f hm h h7 => by
    obtain ⟨X3, b1, b2, b3, b4, b5⟩ := w157 (n := m) hk (o2 := o2) (o3 := o3) (o4 := o4) (min m 200) 0 X2 o5 (by omega) h hm
    refine ⟨X3, b1, frVd_trans f ⟨fun c p _ _ _ _ => b2 c p, fun q _ _ => by rw [b2 0 (by omega)], fun q _ => by rw [b2 45 (by omega)], b3⟩, ?_⟩
    cases o with
    | none => show 200 < X3 45 k; rw [b2 45 (by omega)]; exact h7
    | some L =>
      obtain ⟨c1, c2, c3, c4⟩ := h7
      refine ⟨c1, by rw [b2 45 (by omega)]; exact c3, fun i x hx => ?_⟩
      have hi : i < L.length := by
        by_cases z : i < L.length
        · exact z
        · rw [List.getElem?_eq_none (by omega)] at hx; cases hx
      rw [b5 i (by omega) (by omega)]
      exact c4.2 i x hx
  rw [a1', q_X12_widens_17, h74, if_neg (by omega)]
  unfold wd
  rcases hv with hv | hv
  · rw [if_pos hv, hv, if_neg (by decide), q_X12_widens_77, h74]
    simp only [Int.lt_irrefl, if_false, ite_self]
    rw [gk (lnR 45) 4 rfl (by omega) (by omega), show ((k : Int)).toNat = k by omega]
    exact fin _ _ _ _ _ (sL ν e w).length _ (frVd_trans fV frVd_45) (by omega) (by rw [up_cell (by omega)]; exact h74) ⟨by omega, rfl, by rw [up_same], a3.kept (up_cell (by omega))⟩
  · rw [if_neg (by omega), r_fw hW hM1 a3 h74 s4 (by omega), cI_t, if_pos hv]
    obtain ⟨X2, p4, p5, m, b1, b2, b3, b4, b5⟩ := w77 hW hk (o2 := some (vI e)) (o3 := some (vI w)) 400 0 X1 (sL ν e w) (some (vI v4)) (by omega) hM1 a3 h74 s4 s3 (by omega)
    have b1' : e_X12_widens_77 k (some (vI e)) (some (vI w)) (some (vI v4)) (fwd ν (sL ν e w)) 0 X1 = _ := b1
    rw [b1']
    exact fin X2 _ _ _ _ m _ (frVd_trans fV b2) b3 b4 b5
