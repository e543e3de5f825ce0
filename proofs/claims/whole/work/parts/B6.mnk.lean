/-! the building machine: a row of four rows -/
theorem pK_app2 {G : Wp} : ∀ (h l : List KC) (n : Nat), pK G n (h ++ l) = pK G n h ++ pK G (n + h.length) l
  | [], l, n => rfl
  | y :: h, l, n => by
    show (G.1 + n, kE G y) :: pK G (n + 1) (h ++ l) = (G.1 + n, kE G y) :: (pK G (n + 1) h ++ pK G (n + (h.length + 1)) l)
    rw [pK_app2 h l (n + 1), show n + 1 + h.length = n + (h.length + 1) by omega]
def mnW (n : Nat) : List (Nat × Int) := [(3, ((n + 4 : Nat) : Int)), (2, ((n + 3 : Nat) : Int)), (1, ((n + 2 : Nat) : Int)), (0, ((n + 1 : Nat) : Int))]
def k_mna (n N Z : Nat) : KI := fun ls st h k => match st with
  | .inl x :: .inl y :: st => if y = 4 ∧ 0 ≤ x ∧ x ≤ 1000 ∧ h.2.1 + 5 ≤ N ∧ h.2.2 + (4 + 4 * x.toNat) ≤ Z then k n ls (vR 26 h.2.1 :: st) (.inr (20, x.toNat, []) :: .inr (20, x.toNat, []) :: .inr (20, x.toNat, []) :: .inr (20, x.toNat, []) :: .inr (26, 4, mnW h.2.1) :: h.1, h.2.1 + 5, h.2.2 + (4 + 4 * x.toNat)) else none
  | _ => none
def mnL (n K : Nat) : List KC := [.inr (26, 4, mnW n), .inr (20, K, []), .inr (20, K, []), .inr (20, K, []), .inr (20, K, [])]
theorem rs_mn {h : List KC} {K z : Nat} : rs (h ++ mnL h.length K) z = (.inr (20, K, []) :: .inr (20, K, []) :: .inr (20, K, []) :: .inr (20, K, []) :: .inr (26, 4, mnW h.length) :: h.reverse, h.length + 5, z) := by
  unfold rs mnL
  rw [List.reverse_append, List.length_append]
  rfl
theorem mn_out {G : Wp} {n : Nat} : (fun j => va_rf (if j < 4 then some (G.1 + n + 1 + j) else none)) = fun j => va_rf (if lkz (-1) j (mnW n) < 0 then none else some (G.1 + (lkz (-1) j (mnW n)).toNat)) := by
  funext j
  have h0 : lkz (-1) 0 (mnW n) = ((n + 1 : Nat) : Int) := rfl
  have h1 : lkz (-1) 1 (mnW n) = ((n + 2 : Nat) : Int) := rfl
  have h2 : lkz (-1) 2 (mnW n) = ((n + 3 : Nat) : Int) := rfl
  have h3 : lkz (-1) 3 (mnW n) = ((n + 4 : Nat) : Int) := rfl
  rcases j with _ | _ | _ | _ | j
  · rw [h0, if_pos (by omega), if_neg (by omega), Int.toNat_natCast]; congr 2
  · rw [h1, if_pos (by omega), if_neg (by omega), Int.toNat_natCast]; congr 2
  · rw [h2, if_pos (by omega), if_neg (by omega), Int.toNat_natCast]; congr 2
  · rw [h3, if_pos (by omega), if_neg (by omega), Int.toNat_natCast]; congr 2
  · have h4 : lkz (-1) (j + 4) (mnW n) = -1 := by
      show (if j + 4 = 3 then _ else if j + 4 = 2 then _ else if j + 4 = 1 then _ else if j + 4 = 0 then _ else (-1 : Int)) = -1
      rw [if_neg (by omega), if_neg (by omega), if_neg (by omega), if_neg (by omega)]
    rw [show j + 1 + 1 + 1 + 1 = j + 4 by omega, h4, if_neg (by omega), if_pos (by omega)]
section SNK4
variable {G : Wp} {l : Launch} {own : String} {cc : ByteArray} {nL fr lo n0 z0 N Z : Nat} {pc : Nat}
theorem ks_mna {idx : Nat} (hd : decode cc pc = .ok (.multianewarray idx 2, 4)) (hcl : Cond.classLink own idx "[[I" ∈ gtb) : SdK G l own cc nL fr lo n0 z0 N Z pc (k_mna (pc + 4) N Z) := by
  intro p e s m args below meth c hC r k ls st h0 z H locs la hl hs hw hn hz hi hk
  obtain ⟨hx, hb, hml, hown, hts, hlk, hrt, hK, hmn, hG, hX⟩ := hC
  unfold k_mna at hi
  split at hi
  · rename_i x y st'
    split at hi
    · rename_i q
      obtain ⟨q1, q2, q3, q4, q5⟩ := q
      have q4' : h0.length + 5 ≤ N := q4
      have q5' : z + (4 + 4 * x.toNat) ≤ Z := q5
      subst q1
      have hi2 : k (pc + 4) ls (vR 26 h0.length :: st') (rs (h0 ++ mnL h0.length x.toNat) (z + (4 + 4 * x.toNat))) = some r := by rw [rs_mn]; exact hi
      obtain ⟨y1, y2⟩ := q32_nat (x := x) ⟨q2, by omega⟩
      have hHs := hw.2.2
      have e4 : (q32 4 : Int32) = 4 := by decide +kernel
      show W p l e _ s m args below meth c H locs _ _ _ (F0 m pc la (.int (q32 x) :: .int (q32 4) :: st'.map (cv G)))
      rw [e4]
      refine w_mna (K := x.toNat) (cA := G.2.1 26) (cI := G.2.1 20) hx hb hown (hts _ hcl) hX.2.2.2 hd y1 y2 (by omega) (show _ ≤ N - n0 by omega) (show _ ≤ Z - z0 by omega) fun H1 locs1 hA hL => ?_
      obtain ⟨a1, a2, a3, a4⟩ := hA
      have hkp : ∀ (k : Nat) (q : Nat × va_E), (pK G 0 h0)[k]? = some q → H1[q.1]? = H[q.1]? := fun k q hq => by
        have := pK_at hq
        exact a2 q.1 (by omega)
      have hin : ∀ j, j < 4 → va_at G.2.2.1 vwCl (G.1 + (h0.length + (j + 1)), kE G (.inr (20, x.toNat, []))) H1 := fun j hj => by
        rw [kE_num (by omega)]
        show H1[G.1 + (h0.length + (j + 1))]? = some (vp_cell _ _)
        have := a4 j hj
        rw [show H.size + 1 + j = G.1 + (h0.length + (j + 1)) by omega] at this
        rw [this, vp_cell_i]
        rfl
      have hwk : WoK G s (h0 ++ mnL h0.length x.toNat) H1 locs1 := by
        refine ⟨?_, ⟨by have := hw.2.1.1; omega, fun q h1 h2 => ?_, fun q hq => ?_⟩, by rw [a1, List.length_append]; show H.size + 1 + 4 = G.1 + (h0.length + 5); omega⟩
        · rw [pK_app2]
          refine (hw.1.kept hkp).app (fun k q hq => ?_)
          rw [Nat.zero_add] at hq
          have hz : k < 5 := (List.getElem?_eq_some_iff.mp hq).1
          rcases k with _ | _ | _ | _ | _ | k
          · cases hq
            rw [kE_ref (by omega)]
            show H1[G.1 + h0.length]? = some (vp_cell _ _)
            rw [vp_cell_q, ← mn_out, ← hHs]
            exact a3
          · cases hq
            exact hin 0 (by omega)
          · cases hq
            exact hin 1 (by omega)
          · cases hq
            exact hin 2 (by omega)
          · cases hq
            exact hin 3 (by omega)
          · omega
        · have := hw.2.1.1
          rw [a2 q (by omega)]
          exact hw.2.1.2.1 q h1 h2
        · rcases hL q hq with h | h
          · exact hw.2.1.2.2 q h
          · show G.1 ≤ q.base
            rw [h]
            omega
      have := hk (pc + 4) ls (vR 26 h0.length :: st') _ (z + (4 + 4 * x.toNat)) H1 locs1 la hl (stK_cons.mpr ⟨trivial, (stK_cons.mp (stK_cons.mp hs).2).2⟩) hwk (by rw [List.length_append]; omega) (by omega) hi2
      rw [List.length_append, show h0.length + (mnL h0.length x.toNat).length - n0 = h0.length - n0 + 5 by show h0.length + 5 - n0 = _; omega, show z + (4 + 4 * x.toNat) - z0 = z - z0 + (4 + 4 * x.toNat) by omega] at this
      have ea : cv G (vR 26 h0.length) = .ref H.size := by show Value.ref (ad G 26 h0.length) = _; rw [ad_lt (by omega), hHs]
      rw [List.map_cons, ea] at this
      exact this
    · exact nnK hi
  · exact nnK hi
end SNK4
