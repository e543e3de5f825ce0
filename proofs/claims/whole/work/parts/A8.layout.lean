/-! take: the way back from what was found -/
def pq (X : Mem) (q : Nat) : Nat → Nat
  | 0 => q
  | i + 1 => (X 32 (pq X q i)).toNat
section TK
variable {μ0 ν : Mem} {e n s m : Nat} {Tm : Nat → List Int}
theorem pq_spec {μ X : Mem} (hI : SI μ X ν e n s m Tm) {k D : Nat} (hk : k < m) (hD : X 33 k = (D : Int)) : ∀ i, i ≤ D → pq X k i < m ∧ X 33 (pq X k i) = (D : Int) - (i : Int)
  | 0, _ => ⟨hk, by show X 33 k = _; omega⟩
  | i + 1, hi => by
    obtain ⟨a, b⟩ := pq_spec hI hk hD i (by omega)
    have h1 : 1 ≤ pq X k i := by
      rcases Nat.eq_zero_or_pos (pq X k i) with z | z
      · rw [z, hI.2.2.1.2.2] at b; omega
      · exact z
    obtain ⟨p, p1, _, p3, _, _, _, _, _, _, p10⟩ := hI.2.2.2.2.1 (pq X k i) h1 a
    have e1 : pq X k (i + 1) = p := by show (X 32 (pq X k i)).toNat = p; omega
    rw [e1]
    exact ⟨by omega, by omega⟩
theorem pq_pos {μ X : Mem} (hI : SI μ X ν e n s m Tm) {k D : Nat} (hk : k < m) (hD : X 33 k = (D : Int)) {i : Nat} (hi : i < D) : 1 ≤ pq X k i := by
  obtain ⟨a, b⟩ := pq_spec hI hk hD i (by omega)
  rcases Nat.eq_zero_or_pos (pq X k i) with z | z
  · rw [z, hI.2.2.1.2.2] at b; omega
  · exact z
theorem pq_last {μ X : Mem} (hI : SI μ X ν e n s m Tm) {k D : Nat} (hk : k < m) (hD : X 33 k = (D : Int)) : pq X k D = 0 := by
  obtain ⟨a, b⟩ := pq_spec hI hk hD D (by omega)
  rcases Nat.eq_zero_or_pos (pq X k D) with z | z
  · exact z
  · obtain ⟨p, p1, _, _, _, _, _, _, _, _, p10⟩ := hI.2.2.2.2.1 (pq X k D) z a
    have := (hI.2.2.2.1 p (by omega)).2.2.1
    omega
theorem pq_step {μ X : Mem} (hI : SI μ X ν e n s m Tm) {k D : Nat} (hk : k < m) (hD : X 33 k = (D : Int)) {i : Nat} (hi : i < D) : X 32 (pq X k i) = (pq X k (i + 1) : Int) ∧ μ 261 (pq X k i) = (pq X k (i + 1) : Int) ∧ μ 262 (pq X k i) = X 34 (pq X k i) ∧ μ 263 (pq X k i) = X 35 (pq X k i) ∧ μ 264 (pq X k i) = X 36 (pq X k i) ∧ (0 ≤ X 34 (pq X k i) ∧ X 34 (pq X k i) ≤ 3) ∧ (X 34 (pq X k i) = 2 → X 35 (pq X k i) = -4) ∧ stp ν (X 34 (pq X k i)) (X 35 (pq X k i)) (X 36 (pq X k i)) (Tm (pq X k (i + 1))) = .inr (Tm (pq X k i)) := by
  obtain ⟨a, b⟩ := pq_spec hI hk hD i (by omega)
  obtain ⟨p, p1, p2, p3, p4, p5, p6, p7, p8, p9, p10⟩ := hI.2.2.2.2.1 (pq X k i) (pq_pos hI hk hD hi) a
  have e1 : pq X k (i + 1) = p := by show (X 32 (pq X k i)).toNat = p; omega
  rw [e1]
  exact ⟨p3, p2, p4, p5, p6, p7, p8, p9⟩
theorem c_lay8 {X : Mem} {k D : Nat} {q : Nat → Nat} (hD : D ≤ 20) (hq : ∀ i, i < D → 1 ≤ q i ∧ q i < 250) (hq0 : q D = 0) : ∀ (j i : Nat) (μ : Mem) (o5 o6 : Option AV), i + j = D → (∀ i, i < D → μ 261 (q i) = (q (i + 1) : Int)) → (∀ a, a < i → μ 268 a = (q a : Int)) → ∃ μ' o6', e_X4_layOut_8 e 211 i (q i) o5 o6 μ = cV (f_X1_begin [vR 1 211, vI e] μ') (fun μ1 => e_X4_layOut_60 (some (vI (e : Int))) 211 (some (vI (D : Int))) (some (vI 0)) ((D : Int) - 1) o6' μ1) ∧ (∀ c, c ≠ 268 → μ' c = μ c) ∧ ∀ a, a < D → μ' 268 a = (q a : Int)
  | 0, i, μ, o5, o6, hj, h61, hp => by
    obtain rfl : i = D := by omega
    refine ⟨μ, o6, ?_, fun _ _ => rfl, hp⟩
    rw [q_X4_layOut_8, hq0, if_pos (by decide), wr_eq (by omega) (by omega)]
    rfl
  | j + 1, i, μ, o5, o6, hj, h61, hp => by
    have := hq i (by omega)
    have s1 : e_X4_layOut_8 e 211 i (q i) o5 o6 μ = e_X4_layOut_8 e 211 ((i + 1 : Nat) : Int) (q (i + 1)) o5 o6 (up μ 268 i (q i : Int)) := by
      rw [q_X4_layOut_8, if_neg (by omega), if_pos (by omega), if_pos (by omega), gk (lnC 268) 20 rfl (by omega) (by omega), gk (lnC 261) 250 rfl (by omega) (by omega), show ((i : Int)).toNat = i by omega, show ((q i : Int)).toNat = q i by omega, up_cell (c := 268) (c' := 261) (by omega), h61 i (by omega), w20c (by omega)]
    obtain ⟨μ', p6, a1, a2, a3⟩ := c_lay8 (X := X) (k := k) hD hq hq0 j (i + 1) (up μ 268 i (q i : Int)) o5 o6 (by omega) (fun a ha => by rw [up_cell (by omega)]; exact h61 a ha) (fun a ha => by
      rw [up_if]
      by_cases z : a = i
      · rw [if_pos z, z]
      · rw [if_neg z]; exact hp a (by omega))
    exact ⟨μ', p6, s1.trans a1, fun c hc => by rw [a2 c hc, up_cell hc], a3⟩
theorem exT_id {Ts : Nat → List Int} {n : Nat} {T : List Int} (h : Ts n = T) : exT Ts n T = Ts := by
  funext i
  unfold exT
  by_cases q : i = n
  · rw [if_pos q, q, h]
  · rw [if_neg q]
theorem c_lay60 {X : Mem} {D : Nat} {q : Nat → Nat} (h : Rel μ0 ν) (he : (e : Int) < ν 0 5) (hop : ν 7 e = 1 ∨ ν 7 e = 3) (hD : D ≤ 20) (hq : ∀ i, i < D → q i < 250) (hst : ∀ i, i < D → (0 ≤ X 34 (q i) ∧ X 34 (q i) ≤ 3) ∧ (X 34 (q i) = 2 → X 35 (q i) = -4) ∧ stp ν (X 34 (q i)) (X 35 (q i)) (X 36 (q i)) (Tm (q (i + 1))) = .inr (Tm (q i))) {o1 o3 : Option AV} : ∀ (j i : Nat) (μ : Mem) (o4 o6 : Option AV), i + j = D → Fr μ0 μ scr → (∀ i, i < D → μ 268 i = (q i : Int) ∧ μ 262 (q i) = X 34 (q i) ∧ μ 263 (q i) = X 35 (q i) ∧ μ 264 (q i) = X 36 (q i)) → RwK μ ν 211 e i (fun a => Tm (q (D - a))) → (∀ a, a < i → μ (211 + 1) a = X 34 (q (D - 1 - a)) ∧ μ (211 + 2) a = X 35 (q (D - 1 - a)) ∧ μ (211 + 3) a = X 36 (q (D - 1 - a))) → ∃ μ', e_X4_layOut_60 o1 211 o3 o4 ((j : Int) - 1) o6 μ = some (none, μ') ∧ Fr μ0 μ' scr ∧ RwK μ' ν 211 e D (fun a => Tm (q (D - a))) ∧ ∀ a, a < D → μ' (211 + 1) a = X 34 (q (D - 1 - a)) ∧ μ' (211 + 2) a = X 35 (q (D - 1 - a)) ∧ μ' (211 + 3) a = X 36 (q (D - 1 - a))
  | 0, i, μ, o4, o6, hj, F, hm, hR, hr => by
    obtain rfl : i = D := by omega
    rw [q_X4_layOut_60, if_pos (by omega)]
    exact ⟨μ, rfl, F, hR, hr⟩
  | j + 1, i, μ, o4, o6, hj, F, hm, hR, hr => by
    have hrl := rel_scr h F
    obtain ⟨m1, m2, m3, m4⟩ := hm j (by omega)
    have hqj := hq j (by omega)
    obtain ⟨s1, s2, s3⟩ := hst j (by omega)
    have eD : D - i = j + 1 := by omega
    have eD2 : D - (i + 1) = j := by omega
    have eD3 : D - 1 - i = j := by omega
    obtain ⟨r, μ1, a1, a2, a3⟩ := rwK_go (kind := X 34 (q j)) (which := X 35 (q j)) (place := X 36 (q j)) (Or.inr rfl) hrl.2.2.1 hrl.2.2.2.1 hR (by omega) s1 (fun _ y => by
      rw [y, show ((e : Int)).toNat = e by omega]
      omega)
    rw [eD, s3] at a3
    rcases a3 with ⟨_, z⟩ | ⟨T', z1, z2, z3, z4, z5, z6, z7⟩
    · cases z
    · injection z2 with z2
      rw [exT_id (by show Tm (q (D - (i + 1))) = T'; rw [eD2]; exact z2)] at z3
      have F1 : Fr μ0 μ1 scr := F.trans (a2.mono (fun c hc => by unfold rwF at hc; unfold scr; omega))
      have k1 : ∀ c, 259 ≤ c → μ1 c = μ c := fun c hc => a2 c (by unfold rwF; omega)
      obtain ⟨μ', b1, b2⟩ := c_lay60 (X := X) h he hop hD hq hst (o1 := o1) (o3 := o3) j (i + 1) μ1 (kl o4) (some (vI (q j : Int))) (by omega) F1 (fun a ha => by rw [k1 268 (by omega), k1 262 (by omega), k1 263 (by omega), k1 264 (by omega)]; exact hm a ha) z3 (fun a ha => by
        by_cases y : a = i
        · rw [y, eD3, z4, z5, z6]
          refine ⟨rfl, ?_, rfl⟩
          by_cases w : X 34 (q j) = 2
          · rw [if_pos w, s2 w]
          · rw [if_neg w]
        · rw [(z7 a (by omega)).1, (z7 a (by omega)).2.1, (z7 a (by omega)).2.2]
          exact hr a (by omega))
      refine ⟨μ', ?_, b2⟩
      rw [show ((j + 1 : Nat) : Int) - 1 = (j : Int) by omega, q_X4_layOut_60, if_neg (by omega), gk (lnC 268) 20 rfl (by omega) (by omega), show ((j : Int)).toNat = j by omega, m1, gk (lnC 262) 250 rfl (by omega) (by omega), gk (lnC 263) 250 rfl (by omega) (by omega), gk (lnC 264) 250 rfl (by omega) (by omega), show ((q j : Int)).toNat = q j by omega, m2, m3, m4, a1, cI_t, wr_eq (x := (j : Int) + (-1)) (by omega) (by omega), show (j : Int) + (-1) = (j : Int) - 1 by omega]
      exact b1
end TK
