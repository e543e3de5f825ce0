/-! the building machine: soundness of the plain instructions -/
theorem nnK {P : Prop} {r : KS} (h : (none : Option KS) = some r) : P := by cases h
theorem LsK.has {G : Wp} {nL : Nat} {ls : Lc} {la : Array Slot} (h : LsK G nL ls la) : lv_has la nL (toL G ls) := by
  refine ⟨h.1, h.2.2.1, ?_⟩
  rintro ⟨i, x⟩ hq
  obtain ⟨v, hv, rfl⟩ := mem_toL hq
  exact (h.2.2.2 i v hv).2
theorem LsK.store {G : Wp} {nL j : Nat} {ls : Lc} {la la' : Array Slot} {v : AV} (h : LsK G nL ls la) (hv : okK v)
    (h' : lv_has la' nL ((j, cv G v) :: (toL G ls).filter (fun q => !(q.1 == j) && !(q.1 + 1 == j && q.2.category == 2)))) : LsK G nL (lset ls j v) la' := by
  refine ⟨h'.1, by rw [lset_len]; exact h.2.1, h'.2.1, ?_⟩
  intro i u hu
  rcases lset_get hu with ⟨rfl, rfl⟩ | ⟨e, hu2, e2⟩
  · exact ⟨hv, h'.2.2 _ List.mem_cons_self⟩
  · refine ⟨(h.2.2.2 i u hu2).1, h'.2.2 (i, cv G u) (List.mem_cons_of_mem _ (List.mem_filter.mpr ⟨toL_mem hu2, ?_⟩))⟩
    simp only [Bool.and_eq_true, Bool.not_eq_true', beq_eq_false_iff_ne, Bool.and_eq_false_imp, beq_iff_eq]
    refine ⟨e, fun q => ?_⟩
    intro hc
    obtain ⟨x, rfl⟩ := cv_cat2 hc
    exact e2 q x rfl
section SNK
variable {G : Wp} {l : Launch} {own : String} {cc : ByteArray} {nL fr lo n0 z0 N Z : Nat} {pc : Nat}
theorem ks_iconst {n v : Int} (hd : decode cc pc = .ok (.iconst n, 1)) (hv : Int32.ofInt n = q32 v) (hr : in32 v) : SdK G l own cc nL fr lo n0 z0 N Z pc (k_push (pc + 1) (.inl v)) := by
  intro p e s m args below meth c hC r k ls st h0 z H locs la hl hs hw hn hz hi hk
  obtain ⟨hx, hb, hml, hown, hts, hlk, hrt, hK, hnm, hG, hX⟩ := hC
  refine lv_iconst hx hb hd hv ?_
  exact hk (pc + 1) ls (.inl v :: st) h0 z H locs la hl (stK_cons.mpr ⟨hr, hs⟩) hw hn hz hi
theorem ks_bipush {n v : Int} (hd : decode cc pc = .ok (.bipush n, 2)) (hv : (Int8.ofInt n).toInt32 = q32 v) (hr : in32 v) : SdK G l own cc nL fr lo n0 z0 N Z pc (k_push (pc + 2) (.inl v)) := by
  intro p e s m args below meth c hC r k ls st h0 z H locs la hl hs hw hn hz hi hk
  obtain ⟨hx, hb, hml, hown, hts, hlk, hrt, hK, hnm, hG, hX⟩ := hC
  refine lv_bipush hx hb hd hv ?_
  exact hk (pc + 2) ls (.inl v :: st) h0 z H locs la hl (stK_cons.mpr ⟨hr, hs⟩) hw hn hz hi
theorem ks_sipush {n v : Int} (hd : decode cc pc = .ok (.sipush n, 3)) (hv : (Int16.ofInt n).toInt32 = q32 v) (hr : in32 v) : SdK G l own cc nL fr lo n0 z0 N Z pc (k_push (pc + 3) (.inl v)) := by
  intro p e s m args below meth c hC r k ls st h0 z H locs la hl hs hw hn hz hi hk
  obtain ⟨hx, hb, hml, hown, hts, hlk, hrt, hK, hnm, hG, hX⟩ := hC
  refine lv_sipush hx hb hd hv ?_
  exact hk (pc + 3) ls (.inl v :: st) h0 z H locs la hl (stK_cons.mpr ⟨hr, hs⟩) hw hn hz hi
theorem ks_iload_n {kf : Fin 4} {j : Nat} (hd : decode cc pc = .ok (.iload_n kf, 1)) (hj : (kf : Nat) = j) : SdK G l own cc nL fr lo n0 z0 N Z pc (k_iload (pc + 1) j) := by
  intro p e s m args below meth c hC r k ls st h0 z H locs la hl hs hw hn hz hi hk
  obtain ⟨hx, hb, hml, hown, hts, hlk, hrt, hK, hnm, hG, hX⟩ := hC
  unfold k_iload at hi
  split at hi
  · rename_i x h
    obtain ⟨h1, h2⟩ := hl.2.2.2 _ _ h
    refine lv_iload_n hx hb hd hj h2 ?_
    exact hk (pc + 1) ls (.inl x :: st) h0 z H locs la hl (stK_cons.mpr ⟨h1, hs⟩) hw hn hz hi
  · exact nnK hi
theorem ks_iload {j : Nat} (hd : decode cc pc = .ok (.iload j, 2)) : SdK G l own cc nL fr lo n0 z0 N Z pc (k_iload (pc + 2) j) := by
  intro p e s m args below meth c hC r k ls st h0 z H locs la hl hs hw hn hz hi hk
  obtain ⟨hx, hb, hml, hown, hts, hlk, hrt, hK, hnm, hG, hX⟩ := hC
  unfold k_iload at hi
  split at hi
  · rename_i x h
    obtain ⟨h1, h2⟩ := hl.2.2.2 _ _ h
    refine lv_iload hx hb hd h2 ?_
    exact hk (pc + 2) ls (.inl x :: st) h0 z H locs la hl (stK_cons.mpr ⟨h1, hs⟩) hw hn hz hi
  · exact nnK hi
theorem ks_aload_n {kf : Fin 4} {j : Nat} (hd : decode cc pc = .ok (.aload_n kf, 1)) (hj : (kf : Nat) = j) : SdK G l own cc nL fr lo n0 z0 N Z pc (k_aload (pc + 1) j) := by
  intro p e s m args below meth c hC r k ls st h0 z H locs la hl hs hw hn hz hi hk
  obtain ⟨hx, hb, hml, hown, hts, hlk, hrt, hK, hnm, hG, hX⟩ := hC
  unfold k_aload at hi
  split at hi
  · rename_i x h
    obtain ⟨h1, h2⟩ := hl.2.2.2 _ _ h
    rcases x with _ | ⟨t, c0⟩
    · refine lv_aload_nN hx hb hd hj h2 ?_
      exact hk (pc + 1) ls (.inr (.inr none) :: st) h0 z H locs la hl (stK_cons.mpr ⟨h1, hs⟩) hw hn hz hi
    · refine lv_aload_n hx hb hd hj h2 ?_
      exact hk (pc + 1) ls (.inr (.inr (some (t, c0))) :: st) h0 z H locs la hl (stK_cons.mpr ⟨h1, hs⟩) hw hn hz hi
  · exact nnK hi
theorem ks_istore_n {kf : Fin 4} {j : Nat} (hd : decode cc pc = .ok (.istore_n kf, 1)) (hj : (kf : Nat) = j) (hlt : j < nL) : SdK G l own cc nL fr lo n0 z0 N Z pc (k_istore (pc + 1) j) := by
  intro p e s m args below meth c hC r k ls st h0 z H locs la hl hs hw hn hz hi hk
  obtain ⟨hx, hb, hml, hown, hts, hlk, hrt, hK, hnm, hG, hX⟩ := hC
  rcases st with _ | ⟨x | x | _ | ⟨t1, c1⟩, st⟩
  all_goals first | exact nnK hi | skip
  obtain ⟨h1, h2⟩ := stK_cons.mp hs
  refine lv_istore_n hx hb hd hj hl.has hlt rfl (fun la' hl' => ?_)
  exact hk (pc + 1) _ st h0 z H locs la' (hl.store (v := .inl x) h1 hl') h2 hw hn hz hi
theorem ks_astore_n {kf : Fin 4} {j : Nat} (hd : decode cc pc = .ok (.astore_n kf, 1)) (hj : (kf : Nat) = j) (hlt : j < nL) : SdK G l own cc nL fr lo n0 z0 N Z pc (k_astore (pc + 1) j) := by
  intro p e s m args below meth c hC r k ls st h0 z H locs la hl hs hw hn hz hi hk
  obtain ⟨hx, hb, hml, hown, hts, hlk, hrt, hK, hnm, hG, hX⟩ := hC
  rcases st with _ | ⟨x | x | _ | ⟨t1, c1⟩, st⟩
  all_goals first | exact nnK hi | skip
  · obtain ⟨h1, h2⟩ := stK_cons.mp hs
    refine lv_astore_nN hx hb hd hj hl.has hlt rfl (fun la' hl' => ?_)
    exact hk (pc + 1) _ st h0 z H locs la' (hl.store (v := .inr (.inr none)) h1 hl') h2 hw hn hz hi
  · obtain ⟨h1, h2⟩ := stK_cons.mp hs
    refine lv_astore_n hx hb hd hj hl.has hlt rfl (fun la' hl' => ?_)
    exact hk (pc + 1) _ st h0 z H locs la' (hl.store (v := .inr (.inr (some (t1, c1)))) h1 hl') h2 hw hn hz hi
theorem ks_istore {j : Nat} (hd : decode cc pc = .ok (.istore j, 2)) (hlt : j < nL) : SdK G l own cc nL fr lo n0 z0 N Z pc (k_istore (pc + 2) j) := by
  intro p e s m args below meth c hC r k ls st h0 z H locs la hl hs hw hn hz hi hk
  obtain ⟨hx, hb, hml, hown, hts, hlk, hrt, hK, hnm, hG, hX⟩ := hC
  rcases st with _ | ⟨x | x | _ | ⟨t1, c1⟩, st⟩
  all_goals first | exact nnK hi | skip
  obtain ⟨h1, h2⟩ := stK_cons.mp hs
  refine lv_istore hx hb hd hl.has hlt rfl (fun la' hl' => ?_)
  exact hk (pc + 2) _ st h0 z H locs la' (hl.store (v := .inl x) h1 hl') h2 hw hn hz hi
theorem ks_iinc {j : Nat} {d : Int} (hd : decode cc pc = .ok (.iinc j d, 3)) (hlt : j < nL) : SdK G l own cc nL fr lo n0 z0 N Z pc (k_iinc (pc + 3) j d) := by
  intro p e s m args below meth c hC r k ls st h0 z H locs la hl hs hw hn hz hi hk
  obtain ⟨hx, hb, hml, hown, hts, hlk, hrt, hK, hnm, hG, hX⟩ := hC
  unfold k_iinc at hi
  split at hi
  · rename_i x h
    obtain ⟨h1, h2⟩ := hl.2.2.2 _ _ h
    obtain ⟨kk, hkk⟩ := List.mem_iff_getElem?.mp (toL_mem (G := G) h)
    refine lv_iinc (v := q32 (wr (x + d))) hx hb hd hl.has hkk (q32_add x d) hlt rfl (fun la' hl' => ?_)
    exact hk (pc + 3) _ st h0 z H locs la' (hl.store (v := .inl (wr (x + d))) (wr_in _) hl') hs hw hn hz hi
  · exact nnK hi
theorem ks_dup (hd : decode cc pc = .ok (.dup, 1)) : SdK G l own cc nL fr lo n0 z0 N Z pc (k_dup (pc + 1)) := by
  intro p e s m args below meth c hC r k ls st h0 z H locs la hl hs hw hn hz hi hk
  obtain ⟨hx, hb, hml, hown, hts, hlk, hrt, hK, hnm, hG, hX⟩ := hC
  rcases st with _ | ⟨x | x | _ | ⟨t1, c1⟩, st⟩
  all_goals first | exact nnK hi | skip
  · obtain ⟨h1, h2⟩ := stK_cons.mp hs
    refine lv_dup hx hb hd rfl ?_
    exact hk (pc + 1) ls (.inr (.inr none) :: .inr (.inr none) :: st) h0 z H locs la hl (stK_cons.mpr ⟨h1, hs⟩) hw hn hz hi
  · obtain ⟨h1, h2⟩ := stK_cons.mp hs
    refine lv_dup hx hb hd rfl ?_
    exact hk (pc + 1) ls (.inr (.inr (some (t1, c1))) :: .inr (.inr (some (t1, c1))) :: st) h0 z H locs la hl (stK_cons.mpr ⟨h1, hs⟩) hw hn hz hi
theorem ks_goto {off : Int} {tgt : Nat} (hd : decode cc pc = .ok (.goto off, 3)) (ht : (pc : Int) + off = (tgt : Int)) : SdK G l own cc nL fr lo n0 z0 N Z pc (k_goto tgt) := by
  intro p e s m args below meth c hC r k ls st h0 z H locs la hl hs hw hn hz hi hk
  obtain ⟨hx, hb, hml, hown, hts, hlk, hrt, hK, hnm, hG, hX⟩ := hC
  refine lv_goto hx hb hd ht ?_
  exact hk tgt ls st h0 z H locs la hl hs hw hn hz hi
theorem ks_cmpge {off : Int} {tgt : Nat} (hd : decode cc pc = .ok (.if_icmp .ge off, 3)) (ht : (pc : Int) + off = (tgt : Int)) : SdK G l own cc nL fr lo n0 z0 N Z pc (k_cmpge (pc + 3) tgt) := by
  intro p e s m args below meth c hC r k ls st h0 z H locs la hl hs hw hn hz hi hk
  obtain ⟨hx, hb, hml, hown, hts, hlk, hrt, hK, hnm, hG, hX⟩ := hC
  rcases st with _ | ⟨y | y | _ | ⟨t1, c1⟩, _ | ⟨x | x | _ | ⟨t2, c2⟩, st⟩⟩
  all_goals first | exact nnK hi | skip
  obtain ⟨h1, h2⟩ := stK_cons.mp hs
  obtain ⟨h3, h4⟩ := stK_cons.mp h2
  have h5 : (if x < y then k (pc + 3) ls st (rs h0 z) else k tgt ls st (rs h0 z)) = some r := hi
  refine lv_icmp_ge hx hb hd ht (fun q => ?_) (fun q => ?_)
  all_goals
    (try rw [q32_inj h3 h1] at q)
    (try rw [q32_lt h3 h1] at q)
    (try rw [q32_le h3 h1] at q)
    (try rw [q32_lt h1 h3] at q)
    (try rw [q32_le h1 h3] at q)
  · rw [if_neg (by omega)] at h5
    exact hk tgt ls st h0 z H locs la hl h4 hw hn hz h5
  · rw [if_pos (by omega)] at h5
    exact hk (pc + 3) ls st h0 z H locs la hl h4 hw hn hz h5
theorem ks_cmpgt {off : Int} {tgt : Nat} (hd : decode cc pc = .ok (.if_icmp .gt off, 3)) (ht : (pc : Int) + off = (tgt : Int)) : SdK G l own cc nL fr lo n0 z0 N Z pc (k_cmpgt (pc + 3) tgt) := by
  intro p e s m args below meth c hC r k ls st h0 z H locs la hl hs hw hn hz hi hk
  obtain ⟨hx, hb, hml, hown, hts, hlk, hrt, hK, hnm, hG, hX⟩ := hC
  rcases st with _ | ⟨y | y | _ | ⟨t1, c1⟩, _ | ⟨x | x | _ | ⟨t2, c2⟩, st⟩⟩
  all_goals first | exact nnK hi | skip
  obtain ⟨h1, h2⟩ := stK_cons.mp hs
  obtain ⟨h3, h4⟩ := stK_cons.mp h2
  have h5 : (if x ≤ y then k (pc + 3) ls st (rs h0 z) else k tgt ls st (rs h0 z)) = some r := hi
  refine lv_icmp_gt hx hb hd ht (fun q => ?_) (fun q => ?_)
  all_goals
    (try rw [q32_inj h3 h1] at q)
    (try rw [q32_lt h3 h1] at q)
    (try rw [q32_le h3 h1] at q)
    (try rw [q32_lt h1 h3] at q)
    (try rw [q32_le h1 h3] at q)
  · rw [if_neg (by omega)] at h5
    exact hk tgt ls st h0 z H locs la hl h4 hw hn hz h5
  · rw [if_pos (by omega)] at h5
    exact hk (pc + 3) ls st h0 z H locs la hl h4 hw hn hz h5
end SNK
