/-! SOUNDNESS: an instruction of the abstract machine, where it goes through, is what the machine does -/
theorem nn {r : Rs} {P : Prop} (h : (none : Option Rs) = some r) : P := by cases h
def toL (G : Wp) (ls : Lc) : List (Nat × Value) := (List.range ls.length).filterMap (fun i => match ls[i]? with
  | some (some v) => some (i, cv G v)
  | _ => none)
theorem mem_toL {G : Wp} {ls : Lc} {i : Nat} {x : Value} (h : (i, x) ∈ toL G ls) : ∃ v, ls[i]? = some (some v) ∧ x = cv G v := by
  obtain ⟨j, -, hj⟩ := List.mem_filterMap.mp h
  split at hj
  · rename_i v hv
    cases hj
    exact ⟨v, hv, rfl⟩
  · cases hj
theorem toL_mem {G : Wp} {ls : Lc} {i : Nat} {v : AV} (h : ls[i]? = some (some v)) : (i, cv G v) ∈ toL G ls := by
  refine List.mem_filterMap.mpr ⟨i, List.mem_range.mpr (List.getElem?_eq_some_iff.mp h).1, ?_⟩
  rw [h]
theorem LsOk.has {L : Lo} {G : Wp} {nL : Nat} {ls : Lc} {la : Array Slot} (h : LsOk L G nL ls la) : lv_has la nL (toL G ls) := by
  refine ⟨h.1, h.2.2.1, ?_⟩
  rintro ⟨i, x⟩ hq
  obtain ⟨v, hv, rfl⟩ := mem_toL hq
  exact (h.2.2.2 i v hv).2
theorem cv_cat2 {G : Wp} {v : AV} (h : (cv G v).category = 2) : ∃ x, v = .inr (.inl x) := by
  rcases v with x | x | _ | ⟨t, c⟩
  · cases h
  · exact ⟨x, rfl⟩
  · cases h
  · cases h
theorem lset_len : ∀ (ls : Lc) (j : Nat) (v : AV), (lset ls j v).length = ls.length
  | [], _, _ => rfl
  | _ :: t, 0, v => rfl
  | o :: [], 1, v => rfl
  | o :: a :: t, 1, v => rfl
  | o :: t, j + 2, v => by
    show (lset t (j + 1) v).length + 1 = t.length + 1
    rw [lset_len t (j + 1) v]
theorem kl_spec {o : Option AV} {u : AV} (h : kl o = some u) : o = some u ∧ ∀ x, u ≠ .inr (.inl x) := by
  rcases o with _ | x | x | x
  · cases h
  · cases h; exact ⟨rfl, fun _ q => by cases q⟩
  · cases h
  · cases h; exact ⟨rfl, fun _ q => by cases q⟩
theorem lset_get : ∀ {ls : Lc} {j : Nat} {v : AV} {i : Nat} {u : AV}, (lset ls j v)[i]? = some (some u) → (i = j ∧ u = v) ∨ (i ≠ j ∧ ls[i]? = some (some u) ∧ (i + 1 = j → ∀ x, u ≠ .inr (.inl x)))
  | [], _, _, _, _, h => by simp [lset] at h
  | _ :: t, 0, v, 0, u, h => by
    have h2 : some (some v) = some (some u) := h
    cases h2
    exact Or.inl ⟨rfl, rfl⟩
  | _ :: t, 0, v, i + 1, u, h => Or.inr ⟨by omega, h, fun q => by omega⟩
  | o :: t, 1, v, 0, u, h => by
    have h2 : some (kl o) = some (some u) := h
    obtain ⟨h3, h4⟩ := kl_spec (Option.some.inj h2)
    exact Or.inr ⟨by omega, by rw [h3]; rfl, fun _ => h4⟩
  | o :: t, 1, v, i + 1, u, h => by
    have h2 : (lset t 0 v)[i]? = some (some u) := h
    rcases lset_get h2 with ⟨h3, h4⟩ | ⟨h3, h4, h5⟩
    · exact Or.inl ⟨by omega, h4⟩
    · exact Or.inr ⟨by omega, h4, fun q => by omega⟩
  | o :: t, j + 2, v, 0, u, h => Or.inr ⟨by omega, h, fun q => by omega⟩
  | o :: t, j + 2, v, i + 1, u, h => by
    have h2 : (lset t (j + 1) v)[i]? = some (some u) := h
    rcases lset_get h2 with ⟨h3, h4⟩ | ⟨h3, h4, h5⟩
    · exact Or.inl ⟨by omega, h4⟩
    · exact Or.inr ⟨by omega, h4, fun q => h5 (by omega)⟩
theorem LsOk.store {L : Lo} {G : Wp} {nL j : Nat} {ls : Lc} {la la' : Array Slot} {v : AV} (h : LsOk L G nL ls la) (hv : okV L v)
    (h' : lv_has la' nL ((j, cv G v) :: (toL G ls).filter (fun q => !(q.1 == j) && !(q.1 + 1 == j && q.2.category == 2)))) : LsOk L G nL (lset ls j v) la' := by
  refine ⟨h'.1, by rw [lset_len]; exact h.2.1, h'.2.1, ?_⟩
  intro i u hu
  rcases lset_get hu with ⟨rfl, rfl⟩ | ⟨e, hu2, e2⟩
  · exact ⟨hv, h'.2.2 _ List.mem_cons_self⟩
  · refine ⟨(h.2.2.2 i u hu2).1, h'.2.2 (i, cv G u) (List.mem_cons_of_mem _ (List.mem_filter.mpr ⟨toL_mem hu2, ?_⟩))⟩
    simp only [Bool.and_eq_true, Bool.not_eq_true', beq_eq_false_iff_ne, Bool.and_eq_false_imp, beq_iff_eq]
    refine ⟨e, fun q => ?_⟩
    intro hc
    obtain ⟨x, rfl⟩ := cv_cat2 hc
    exact e2 q x rfl
theorem lcmp_q {x y : Int} (hx : in64 x) (hy : in64 y) : lg_cmp (q64 x) (q64 y) = q32 (if x < y then -1 else if x = y then 0 else 1) := by
  unfold lg_cmp
  have e1 : (q64 x > q64 y) ↔ y < x := q64_lt hy hx
  have e2 : (q64 x = q64 y) ↔ x = y := q64_inj hx hy
  rcases Int.lt_trichotomy x y with h | h | h
  · rw [if_neg (fun q => by have := e1.mp q; omega), if_neg (fun q => by have := e2.mp q; omega), if_pos h]; decide +kernel
  · rw [if_neg (fun q => by have := e1.mp q; omega), if_pos (e2.mpr h), if_neg (by omega), if_pos h]; decide +kernel
  · rw [if_pos (e1.mpr h), if_neg (by omega), if_neg (by omega)]; decide +kernel
section SND
variable {L : Lo} {G : Wp} {l : Launch} {own : String} {cc : ByteArray} {nL : Nat} {ret : Option FieldType} {R : Room} {pc : Nat}
theorem s_iconst {n v : Int} (hd : decode cc pc = .ok (.iconst n, 1)) (hv : Int32.ofInt n = q32 v) (hr : in32 v) : Snd L G l own cc nL ret R pc (i_push (pc + 1) (.inl v)) := by
  intro p e s m args below meth c hC r k ls st μ H locs la hl hs hw hi hk
  obtain ⟨hx, hb, hml, hown, hts, hlk, hrt, hK, hZ, hN⟩ := hC
  refine lv_iconst hx hb hd hv ?_
  exact hk (pc + 1) ls (.inl v :: st) μ H locs la hl (stOk_cons.mpr ⟨hr, hs⟩) hw hi
theorem s_bipush {n v : Int} (hd : decode cc pc = .ok (.bipush n, 2)) (hv : (Int8.ofInt n).toInt32 = q32 v) (hr : in32 v) : Snd L G l own cc nL ret R pc (i_push (pc + 2) (.inl v)) := by
  intro p e s m args below meth c hC r k ls st μ H locs la hl hs hw hi hk
  obtain ⟨hx, hb, hml, hown, hts, hlk, hrt, hK, hZ, hN⟩ := hC
  refine lv_bipush hx hb hd hv ?_
  exact hk (pc + 2) ls (.inl v :: st) μ H locs la hl (stOk_cons.mpr ⟨hr, hs⟩) hw hi
theorem s_sipush {n v : Int} (hd : decode cc pc = .ok (.sipush n, 3)) (hv : (Int16.ofInt n).toInt32 = q32 v) (hr : in32 v) : Snd L G l own cc nL ret R pc (i_push (pc + 3) (.inl v)) := by
  intro p e s m args below meth c hC r k ls st μ H locs la hl hs hw hi hk
  obtain ⟨hx, hb, hml, hown, hts, hlk, hrt, hK, hZ, hN⟩ := hC
  refine lv_sipush hx hb hd hv ?_
  exact hk (pc + 3) ls (.inl v :: st) μ H locs la hl (stOk_cons.mpr ⟨hr, hs⟩) hw hi
theorem s_lconst {n : Fin 2} {v : Int} (hd : decode cc pc = .ok (.lconst n, 1)) (hv : Int64.ofNat (n : Nat) = q64 v) (hr : in64 v) : Snd L G l own cc nL ret R pc (i_push (pc + 1) (.inr (.inl v))) := by
  intro p e s m args below meth c hC r k ls st μ H locs la hl hs hw hi hk
  obtain ⟨hx, hb, hml, hown, hts, hlk, hrt, hK, hZ, hN⟩ := hC
  refine lv_lconst hx hb hd hv ?_
  exact hk (pc + 1) ls (.inr (.inl v) :: st) μ H locs la hl (stOk_cons.mpr ⟨hr, hs⟩) hw hi
theorem s_ldcw {idx : Nat} {v : Int} (hd : decode cc pc = .ok (.ldc_w idx, 3)) (hm : Cond.constant own idx (q32 v) ∈ gtb) (hr : in32 v) : Snd L G l own cc nL ret R pc (i_push (pc + 3) (.inl v)) := by
  intro p e s m args below meth c hC r k ls st μ H locs la hl hs hw hi hk
  obtain ⟨hx, hb, hml, hown, hts, hlk, hrt, hK, hZ, hN⟩ := hC
  refine lv_ldcw hx hb hown (hts _ hm) hd ?_
  exact hk (pc + 3) ls (.inl v :: st) μ H locs la hl (stOk_cons.mpr ⟨hr, hs⟩) hw hi
theorem s_ldc2 {idx : Nat} {v : Int} (hd : decode cc pc = .ok (.ldc2_w idx, 3)) (hm : Cond.constantLong own idx (q64 v) ∈ gtb) (hr : in64 v) : Snd L G l own cc nL ret R pc (i_push (pc + 3) (.inr (.inl v))) := by
  intro p e s m args below meth c hC r k ls st μ H locs la hl hs hw hi hk
  obtain ⟨hx, hb, hml, hown, hts, hlk, hrt, hK, hZ, hN⟩ := hC
  refine lv_ldc2 hx hb hown (hts _ hm) hd ?_
  exact hk (pc + 3) ls (.inr (.inl v) :: st) μ H locs la hl (stOk_cons.mpr ⟨hr, hs⟩) hw hi
theorem s_null (hd : decode cc pc = .ok (.aconst_null, 1)) : Snd L G l own cc nL ret R pc (i_push (pc + 1) (.inr (.inr none))) := by
  intro p e s m args below meth c hC r k ls st μ H locs la hl hs hw hi hk
  obtain ⟨hx, hb, hml, hown, hts, hlk, hrt, hK, hZ, hN⟩ := hC
  refine lv_null hx hb hd ?_
  exact hk (pc + 1) ls (.inr (.inr none) :: st) μ H locs la hl (stOk_cons.mpr ⟨trivial, hs⟩) hw hi
theorem s_iload_n {kf : Fin 4} {j : Nat} (hd : decode cc pc = .ok (.iload_n kf, 1)) (hj : (kf : Nat) = j) : Snd L G l own cc nL ret R pc (i_iload (pc + 1) j) := by
  intro p e s m args below meth c hC r k ls st μ H locs la hl hs hw hi hk
  obtain ⟨hx, hb, hml, hown, hts, hlk, hrt, hK, hZ, hN⟩ := hC
  unfold i_iload at hi
  split at hi
  · rename_i x h
    obtain ⟨h1, h2⟩ := hl.2.2.2 _ _ h
    refine lv_iload_n hx hb hd hj h2 ?_
    exact hk (pc + 1) ls (.inl x :: st) μ H locs la hl (stOk_cons.mpr ⟨h1, hs⟩) hw hi
  · exact nn hi
theorem s_iload {j : Nat} (hd : decode cc pc = .ok (.iload j, 2)) : Snd L G l own cc nL ret R pc (i_iload (pc + 2) j) := by
  intro p e s m args below meth c hC r k ls st μ H locs la hl hs hw hi hk
  obtain ⟨hx, hb, hml, hown, hts, hlk, hrt, hK, hZ, hN⟩ := hC
  unfold i_iload at hi
  split at hi
  · rename_i x h
    obtain ⟨h1, h2⟩ := hl.2.2.2 _ _ h
    refine lv_iload hx hb hd h2 ?_
    exact hk (pc + 2) ls (.inl x :: st) μ H locs la hl (stOk_cons.mpr ⟨h1, hs⟩) hw hi
  · exact nn hi
theorem s_lload_n {kf : Fin 4} {j : Nat} (hd : decode cc pc = .ok (.lload_n kf, 1)) (hj : (kf : Nat) = j) : Snd L G l own cc nL ret R pc (i_lload (pc + 1) j) := by
  intro p e s m args below meth c hC r k ls st μ H locs la hl hs hw hi hk
  obtain ⟨hx, hb, hml, hown, hts, hlk, hrt, hK, hZ, hN⟩ := hC
  unfold i_lload at hi
  split at hi
  · rename_i x h
    obtain ⟨h1, h2⟩ := hl.2.2.2 _ _ h
    refine lv_lload_n hx hb hd hj h2 ?_
    exact hk (pc + 1) ls (.inr (.inl x) :: st) μ H locs la hl (stOk_cons.mpr ⟨h1, hs⟩) hw hi
  · exact nn hi
theorem s_lload {j : Nat} (hd : decode cc pc = .ok (.lload j, 2)) : Snd L G l own cc nL ret R pc (i_lload (pc + 2) j) := by
  intro p e s m args below meth c hC r k ls st μ H locs la hl hs hw hi hk
  obtain ⟨hx, hb, hml, hown, hts, hlk, hrt, hK, hZ, hN⟩ := hC
  unfold i_lload at hi
  split at hi
  · rename_i x h
    obtain ⟨h1, h2⟩ := hl.2.2.2 _ _ h
    refine lv_lload hx hb hd h2 ?_
    exact hk (pc + 2) ls (.inr (.inl x) :: st) μ H locs la hl (stOk_cons.mpr ⟨h1, hs⟩) hw hi
  · exact nn hi
theorem s_aload_n {kf : Fin 4} {j : Nat} (hd : decode cc pc = .ok (.aload_n kf, 1)) (hj : (kf : Nat) = j) : Snd L G l own cc nL ret R pc (i_aload (pc + 1) j) := by
  intro p e s m args below meth c hC r k ls st μ H locs la hl hs hw hi hk
  obtain ⟨hx, hb, hml, hown, hts, hlk, hrt, hK, hZ, hN⟩ := hC
  unfold i_aload at hi
  split at hi
  · rename_i x h
    obtain ⟨h1, h2⟩ := hl.2.2.2 _ _ h
    rcases x with _ | ⟨t, c0⟩
    · refine lv_aload_nN hx hb hd hj h2 ?_
      exact hk (pc + 1) ls (.inr (.inr none) :: st) μ H locs la hl (stOk_cons.mpr ⟨h1, hs⟩) hw hi
    · refine lv_aload_n hx hb hd hj h2 ?_
      exact hk (pc + 1) ls (.inr (.inr (some (t, c0))) :: st) μ H locs la hl (stOk_cons.mpr ⟨h1, hs⟩) hw hi
  · exact nn hi
theorem s_aload {j : Nat} (hd : decode cc pc = .ok (.aload j, 2)) : Snd L G l own cc nL ret R pc (i_aload (pc + 2) j) := by
  intro p e s m args below meth c hC r k ls st μ H locs la hl hs hw hi hk
  obtain ⟨hx, hb, hml, hown, hts, hlk, hrt, hK, hZ, hN⟩ := hC
  unfold i_aload at hi
  split at hi
  · rename_i x h
    obtain ⟨h1, h2⟩ := hl.2.2.2 _ _ h
    rcases x with _ | ⟨t, c0⟩
    · refine lv_aloadN hx hb hd h2 ?_
      exact hk (pc + 2) ls (.inr (.inr none) :: st) μ H locs la hl (stOk_cons.mpr ⟨h1, hs⟩) hw hi
    · refine lv_aload hx hb hd h2 ?_
      exact hk (pc + 2) ls (.inr (.inr (some (t, c0))) :: st) μ H locs la hl (stOk_cons.mpr ⟨h1, hs⟩) hw hi
  · exact nn hi
theorem s_istore_n {kf : Fin 4} {j : Nat} (hd : decode cc pc = .ok (.istore_n kf, 1)) (hj : (kf : Nat) = j) (hlt : j < nL) : Snd L G l own cc nL ret R pc (i_istore (pc + 1) j) := by
  intro p e s m args below meth c hC r k ls st μ H locs la hl hs hw hi hk
  obtain ⟨hx, hb, hml, hown, hts, hlk, hrt, hK, hZ, hN⟩ := hC
  rcases st with _ | ⟨x | x | _ | ⟨t1, c1⟩, st⟩
  all_goals first | exact nn hi | skip
  obtain ⟨h1, h2⟩ := stOk_cons.mp hs
  refine lv_istore_n hx hb hd hj hl.has hlt rfl (fun la' hl' => ?_)
  exact hk (pc + 1) _ st μ H locs la' (hl.store (v := .inl x) h1 hl') h2 hw hi
theorem s_astore_n {kf : Fin 4} {j : Nat} (hd : decode cc pc = .ok (.astore_n kf, 1)) (hj : (kf : Nat) = j) (hlt : j < nL) : Snd L G l own cc nL ret R pc (i_astore (pc + 1) j) := by
  intro p e s m args below meth c hC r k ls st μ H locs la hl hs hw hi hk
  obtain ⟨hx, hb, hml, hown, hts, hlk, hrt, hK, hZ, hN⟩ := hC
  rcases st with _ | ⟨x | x | _ | ⟨t1, c1⟩, st⟩
  all_goals first | exact nn hi | skip
  · obtain ⟨h1, h2⟩ := stOk_cons.mp hs
    refine lv_astore_nN hx hb hd hj hl.has hlt rfl (fun la' hl' => ?_)
    exact hk (pc + 1) _ st μ H locs la' (hl.store (v := .inr (.inr none)) h1 hl') h2 hw hi
  · obtain ⟨h1, h2⟩ := stOk_cons.mp hs
    refine lv_astore_n hx hb hd hj hl.has hlt rfl (fun la' hl' => ?_)
    exact hk (pc + 1) _ st μ H locs la' (hl.store (v := .inr (.inr (some (t1, c1)))) h1 hl') h2 hw hi
theorem s_istore {j : Nat} (hd : decode cc pc = .ok (.istore j, 2)) (hlt : j < nL) : Snd L G l own cc nL ret R pc (i_istore (pc + 2) j) := by
  intro p e s m args below meth c hC r k ls st μ H locs la hl hs hw hi hk
  obtain ⟨hx, hb, hml, hown, hts, hlk, hrt, hK, hZ, hN⟩ := hC
  rcases st with _ | ⟨x | x | _ | ⟨t1, c1⟩, st⟩
  all_goals first | exact nn hi | skip
  obtain ⟨h1, h2⟩ := stOk_cons.mp hs
  refine lv_istore hx hb hd hl.has hlt rfl (fun la' hl' => ?_)
  exact hk (pc + 2) _ st μ H locs la' (hl.store (v := .inl x) h1 hl') h2 hw hi
theorem s_astore {j : Nat} (hd : decode cc pc = .ok (.astore j, 2)) (hlt : j < nL) : Snd L G l own cc nL ret R pc (i_astore (pc + 2) j) := by
  intro p e s m args below meth c hC r k ls st μ H locs la hl hs hw hi hk
  obtain ⟨hx, hb, hml, hown, hts, hlk, hrt, hK, hZ, hN⟩ := hC
  rcases st with _ | ⟨x | x | _ | ⟨t1, c1⟩, st⟩
  all_goals first | exact nn hi | skip
  · obtain ⟨h1, h2⟩ := stOk_cons.mp hs
    refine lv_astoreN hx hb hd hl.has hlt rfl (fun la' hl' => ?_)
    exact hk (pc + 2) _ st μ H locs la' (hl.store (v := .inr (.inr none)) h1 hl') h2 hw hi
  · obtain ⟨h1, h2⟩ := stOk_cons.mp hs
    refine lv_astore hx hb hd hl.has hlt rfl (fun la' hl' => ?_)
    exact hk (pc + 2) _ st μ H locs la' (hl.store (v := .inr (.inr (some (t1, c1)))) h1 hl') h2 hw hi
theorem s_iinc {j : Nat} {d : Int} (hd : decode cc pc = .ok (.iinc j d, 3)) (hlt : j < nL) : Snd L G l own cc nL ret R pc (i_iinc (pc + 3) j d) := by
  intro p e s m args below meth c hC r k ls st μ H locs la hl hs hw hi hk
  obtain ⟨hx, hb, hml, hown, hts, hlk, hrt, hK, hZ, hN⟩ := hC
  unfold i_iinc at hi
  split at hi
  · rename_i x h
    obtain ⟨h1, h2⟩ := hl.2.2.2 _ _ h
    obtain ⟨kk, hkk⟩ := List.mem_iff_getElem?.mp (toL_mem (G := G) h)
    refine lv_iinc (v := q32 (wr (x + d))) hx hb hd hl.has hkk (q32_add x d) hlt rfl (fun la' hl' => ?_)
    exact hk (pc + 3) _ st μ H locs la' (hl.store (v := .inl (wr (x + d))) (wr_in _) hl') hs hw hi
  · exact nn hi
theorem s_iadd (hd : decode cc pc = .ok (.iadd, 1)) : Snd L G l own cc nL ret R pc (i_bin (pc + 1) (fun x y => wr (x + y))) := by
  intro p e s m args below meth c hC r k ls st μ H locs la hl hs hw hi hk
  obtain ⟨hx, hb, hml, hown, hts, hlk, hrt, hK, hZ, hN⟩ := hC
  rcases st with _ | ⟨y | y | _ | ⟨t1, c1⟩, _ | ⟨x | x | _ | ⟨t2, c2⟩, st⟩⟩
  all_goals first | exact nn hi | skip
  obtain ⟨h1, h2⟩ := stOk_cons.mp hs
  obtain ⟨h3, h4⟩ := stOk_cons.mp h2
  refine lv_iadd hx hb hd ?_
  rw [q32_add]
  exact hk (pc + 1) ls (.inl (wr (x + y)) :: st) μ H locs la hl (stOk_cons.mpr ⟨wr_in _, h4⟩) hw hi
theorem s_isub (hd : decode cc pc = .ok (.isub, 1)) : Snd L G l own cc nL ret R pc (i_bin (pc + 1) (fun x y => wr (x - y))) := by
  intro p e s m args below meth c hC r k ls st μ H locs la hl hs hw hi hk
  obtain ⟨hx, hb, hml, hown, hts, hlk, hrt, hK, hZ, hN⟩ := hC
  rcases st with _ | ⟨y | y | _ | ⟨t1, c1⟩, _ | ⟨x | x | _ | ⟨t2, c2⟩, st⟩⟩
  all_goals first | exact nn hi | skip
  obtain ⟨h1, h2⟩ := stOk_cons.mp hs
  obtain ⟨h3, h4⟩ := stOk_cons.mp h2
  refine lv_isub hx hb hd ?_
  rw [q32_sub]
  exact hk (pc + 1) ls (.inl (wr (x - y)) :: st) μ H locs la hl (stOk_cons.mpr ⟨wr_in _, h4⟩) hw hi
theorem s_imul (hd : decode cc pc = .ok (.imul, 1)) : Snd L G l own cc nL ret R pc (i_bin (pc + 1) (fun x y => wr (x * y))) := by
  intro p e s m args below meth c hC r k ls st μ H locs la hl hs hw hi hk
  obtain ⟨hx, hb, hml, hown, hts, hlk, hrt, hK, hZ, hN⟩ := hC
  rcases st with _ | ⟨y | y | _ | ⟨t1, c1⟩, _ | ⟨x | x | _ | ⟨t2, c2⟩, st⟩⟩
  all_goals first | exact nn hi | skip
  obtain ⟨h1, h2⟩ := stOk_cons.mp hs
  obtain ⟨h3, h4⟩ := stOk_cons.mp h2
  refine lv_imul hx hb hd ?_
  rw [q32_mul]
  exact hk (pc + 1) ls (.inl (wr (x * y)) :: st) μ H locs la hl (stOk_cons.mpr ⟨wr_in _, h4⟩) hw hi
theorem s_iand (hd : decode cc pc = .ok (.iand, 1)) : Snd L G l own cc nL ret R pc (i_bin (pc + 1) bAnd) := by
  intro p e s m args below meth c hC r k ls st μ H locs la hl hs hw hi hk
  obtain ⟨hx, hb, hml, hown, hts, hlk, hrt, hK, hZ, hN⟩ := hC
  rcases st with _ | ⟨y | y | _ | ⟨t1, c1⟩, _ | ⟨x | x | _ | ⟨t2, c2⟩, st⟩⟩
  all_goals first | exact nn hi | skip
  obtain ⟨h1, h2⟩ := stOk_cons.mp hs
  obtain ⟨h3, h4⟩ := stOk_cons.mp h2
  refine lv_iand hx hb hd ?_
  rw [show (q32 x &&& q32 y) = q32 (bAnd x y) from (q32_of _).symm]
  exact hk (pc + 1) ls (.inl (bAnd x y) :: st) μ H locs la hl (stOk_cons.mpr ⟨i32_in _, h4⟩) hw hi
theorem s_ior (hd : decode cc pc = .ok (.ior, 1)) : Snd L G l own cc nL ret R pc (i_bin (pc + 1) bOr) := by
  intro p e s m args below meth c hC r k ls st μ H locs la hl hs hw hi hk
  obtain ⟨hx, hb, hml, hown, hts, hlk, hrt, hK, hZ, hN⟩ := hC
  rcases st with _ | ⟨y | y | _ | ⟨t1, c1⟩, _ | ⟨x | x | _ | ⟨t2, c2⟩, st⟩⟩
  all_goals first | exact nn hi | skip
  obtain ⟨h1, h2⟩ := stOk_cons.mp hs
  obtain ⟨h3, h4⟩ := stOk_cons.mp h2
  refine lv_ior hx hb hd ?_
  rw [show (q32 x ||| q32 y) = q32 (bOr x y) from (q32_of _).symm]
  exact hk (pc + 1) ls (.inl (bOr x y) :: st) μ H locs la hl (stOk_cons.mpr ⟨i32_in _, h4⟩) hw hi
theorem s_ixor (hd : decode cc pc = .ok (.ixor, 1)) : Snd L G l own cc nL ret R pc (i_bin (pc + 1) bXor) := by
  intro p e s m args below meth c hC r k ls st μ H locs la hl hs hw hi hk
  obtain ⟨hx, hb, hml, hown, hts, hlk, hrt, hK, hZ, hN⟩ := hC
  rcases st with _ | ⟨y | y | _ | ⟨t1, c1⟩, _ | ⟨x | x | _ | ⟨t2, c2⟩, st⟩⟩
  all_goals first | exact nn hi | skip
  obtain ⟨h1, h2⟩ := stOk_cons.mp hs
  obtain ⟨h3, h4⟩ := stOk_cons.mp h2
  refine lv_ixor hx hb hd ?_
  rw [show (q32 x ^^^ q32 y) = q32 (bXor x y) from (q32_of _).symm]
  exact hk (pc + 1) ls (.inl (bXor x y) :: st) μ H locs la hl (stOk_cons.mpr ⟨i32_in _, h4⟩) hw hi
theorem s_ishl (hd : decode cc pc = .ok (.ishl, 1)) : Snd L G l own cc nL ret R pc (i_bin (pc + 1) bShl) := by
  intro p e s m args below meth c hC r k ls st μ H locs la hl hs hw hi hk
  obtain ⟨hx, hb, hml, hown, hts, hlk, hrt, hK, hZ, hN⟩ := hC
  rcases st with _ | ⟨y | y | _ | ⟨t1, c1⟩, _ | ⟨x | x | _ | ⟨t2, c2⟩, st⟩⟩
  all_goals first | exact nn hi | skip
  obtain ⟨h1, h2⟩ := stOk_cons.mp hs
  obtain ⟨h3, h4⟩ := stOk_cons.mp h2
  refine lv_ishl hx hb hd ?_
  rw [show (q32 x <<< (q32 y &&& 31)) = q32 (bShl x y) from (q32_of _).symm]
  exact hk (pc + 1) ls (.inl (bShl x y) :: st) μ H locs la hl (stOk_cons.mpr ⟨i32_in _, h4⟩) hw hi
theorem s_ishr (hd : decode cc pc = .ok (.ishr, 1)) : Snd L G l own cc nL ret R pc (i_bin (pc + 1) bShr) := by
  intro p e s m args below meth c hC r k ls st μ H locs la hl hs hw hi hk
  obtain ⟨hx, hb, hml, hown, hts, hlk, hrt, hK, hZ, hN⟩ := hC
  rcases st with _ | ⟨y | y | _ | ⟨t1, c1⟩, _ | ⟨x | x | _ | ⟨t2, c2⟩, st⟩⟩
  all_goals first | exact nn hi | skip
  obtain ⟨h1, h2⟩ := stOk_cons.mp hs
  obtain ⟨h3, h4⟩ := stOk_cons.mp h2
  refine lv_ishr hx hb hd ?_
  rw [show (q32 x >>> (q32 y &&& 31)) = q32 (bShr x y) from (q32_of _).symm]
  exact hk (pc + 1) ls (.inl (bShr x y) :: st) μ H locs la hl (stOk_cons.mpr ⟨i32_in _, h4⟩) hw hi
theorem s_iushr (hd : decode cc pc = .ok (.iushr, 1)) : Snd L G l own cc nL ret R pc (i_bin (pc + 1) bUshr) := by
  intro p e s m args below meth c hC r k ls st μ H locs la hl hs hw hi hk
  obtain ⟨hx, hb, hml, hown, hts, hlk, hrt, hK, hZ, hN⟩ := hC
  rcases st with _ | ⟨y | y | _ | ⟨t1, c1⟩, _ | ⟨x | x | _ | ⟨t2, c2⟩, st⟩⟩
  all_goals first | exact nn hi | skip
  obtain ⟨h1, h2⟩ := stOk_cons.mp hs
  obtain ⟨h3, h4⟩ := stOk_cons.mp h2
  refine lv_iushr (v := q32 (bUshr x y)) hx hb hd (q32_of _).symm ?_
  exact hk (pc + 1) ls (.inl (bUshr x y) :: st) μ H locs la hl (stOk_cons.mpr ⟨i32_in _, h4⟩) hw hi
theorem s_idiv (hd : decode cc pc = .ok (.idiv, 1)) : Snd L G l own cc nL ret R pc (i_div (pc + 1) bDiv) := by
  intro p e s m args below meth c hC r k ls st μ H locs la hl hs hw hi hk
  obtain ⟨hx, hb, hml, hown, hts, hlk, hrt, hK, hZ, hN⟩ := hC
  rcases st with _ | ⟨y | y | _ | ⟨t1, c1⟩, _ | ⟨x | x | _ | ⟨t2, c2⟩, st⟩⟩
  all_goals first | exact nn hi | skip
  obtain ⟨h1, h2⟩ := stOk_cons.mp hs
  obtain ⟨h3, h4⟩ := stOk_cons.mp h2
  have h5 : (if ¬ y = 0 then k (pc + 1) ls (.inl (bDiv x y) :: st) μ else none) = some r := hi
  by_cases hy : y = 0
  · rw [if_neg (fun q => q hy)] at h5
    exact nn h5
  · rw [if_pos hy] at h5
    refine lv_idiv hx hb hd (fun q => hy ((q32_inj h1 in32_0).mp (by rw [q32_0]; exact q))) ?_
    rw [show (q32 x / q32 y) = q32 (bDiv x y) from (q32_of _).symm]
    exact hk (pc + 1) ls (.inl (bDiv x y) :: st) μ H locs la hl (stOk_cons.mpr ⟨i32_in _, h4⟩) hw h5
theorem s_irem (hd : decode cc pc = .ok (.irem, 1)) : Snd L G l own cc nL ret R pc (i_div (pc + 1) bRem) := by
  intro p e s m args below meth c hC r k ls st μ H locs la hl hs hw hi hk
  obtain ⟨hx, hb, hml, hown, hts, hlk, hrt, hK, hZ, hN⟩ := hC
  rcases st with _ | ⟨y | y | _ | ⟨t1, c1⟩, _ | ⟨x | x | _ | ⟨t2, c2⟩, st⟩⟩
  all_goals first | exact nn hi | skip
  obtain ⟨h1, h2⟩ := stOk_cons.mp hs
  obtain ⟨h3, h4⟩ := stOk_cons.mp h2
  have h5 : (if ¬ y = 0 then k (pc + 1) ls (.inl (bRem x y) :: st) μ else none) = some r := hi
  by_cases hy : y = 0
  · rw [if_neg (fun q => q hy)] at h5
    exact nn h5
  · rw [if_pos hy] at h5
    refine lv_irem hx hb hd (fun q => hy ((q32_inj h1 in32_0).mp (by rw [q32_0]; exact q))) ?_
    rw [show (q32 x - q32 x / q32 y * q32 y) = q32 (bRem x y) from (q32_of _).symm]
    exact hk (pc + 1) ls (.inl (bRem x y) :: st) μ H locs la hl (stOk_cons.mpr ⟨i32_in _, h4⟩) hw h5
theorem s_i2b (hd : decode cc pc = .ok (.i2b, 1)) : Snd L G l own cc nL ret R pc (i_un (pc + 1) wrB) := by
  intro p e s m args below meth c hC r k ls st μ H locs la hl hs hw hi hk
  obtain ⟨hx, hb, hml, hown, hts, hlk, hrt, hK, hZ, hN⟩ := hC
  rcases st with _ | ⟨x | x | _ | ⟨t1, c1⟩, st⟩
  all_goals first | exact nn hi | skip
  obtain ⟨h1, h2⟩ := stOk_cons.mp hs
  refine lv_i2b hx hb hd (q32_i2b x) ?_
  exact hk (pc + 1) ls (.inl (wrB x) :: st) μ H locs la hl (stOk_cons.mpr ⟨wrB_in _, h2⟩) hw hi
theorem s_i2s (hd : decode cc pc = .ok (.i2s, 1)) : Snd L G l own cc nL ret R pc (i_un (pc + 1) wrS) := by
  intro p e s m args below meth c hC r k ls st μ H locs la hl hs hw hi hk
  obtain ⟨hx, hb, hml, hown, hts, hlk, hrt, hK, hZ, hN⟩ := hC
  rcases st with _ | ⟨x | x | _ | ⟨t1, c1⟩, st⟩
  all_goals first | exact nn hi | skip
  obtain ⟨h1, h2⟩ := stOk_cons.mp hs
  refine lv_i2s hx hb hd (q32_i2s x) ?_
  exact hk (pc + 1) ls (.inl (wrS x) :: st) μ H locs la hl (stOk_cons.mpr ⟨wrS_in _, h2⟩) hw hi
theorem s_i2l (hd : decode cc pc = .ok (.i2l, 1)) : Snd L G l own cc nL ret R pc (i_i2l (pc + 1)) := by
  intro p e s m args below meth c hC r k ls st μ H locs la hl hs hw hi hk
  obtain ⟨hx, hb, hml, hown, hts, hlk, hrt, hK, hZ, hN⟩ := hC
  rcases st with _ | ⟨x | x | _ | ⟨t1, c1⟩, st⟩
  all_goals first | exact nn hi | skip
  obtain ⟨h1, h2⟩ := stOk_cons.mp hs
  refine lv_i2l hx hb hd (q32_i2l h1) ?_
  exact hk (pc + 1) ls (.inr (.inl x) :: st) μ H locs la hl (stOk_cons.mpr ⟨in64_of h1, h2⟩) hw hi
theorem s_l2i (hd : decode cc pc = .ok (.l2i, 1)) : Snd L G l own cc nL ret R pc (i_l2i (pc + 1)) := by
  intro p e s m args below meth c hC r k ls st μ H locs la hl hs hw hi hk
  obtain ⟨hx, hb, hml, hown, hts, hlk, hrt, hK, hZ, hN⟩ := hC
  rcases st with _ | ⟨x | x | _ | ⟨t1, c1⟩, st⟩
  all_goals first | exact nn hi | skip
  obtain ⟨h1, h2⟩ := stOk_cons.mp hs
  refine lv_l2i hx hb hd (q64_l2i x) ?_
  exact hk (pc + 1) ls (.inl (wr x) :: st) μ H locs la hl (stOk_cons.mpr ⟨wr_in _, h2⟩) hw hi
theorem s_land (hd : decode cc pc = .ok (.land, 1)) : Snd L G l own cc nL ret R pc (i_lbin (pc + 1) lAnd) := by
  intro p e s m args below meth c hC r k ls st μ H locs la hl hs hw hi hk
  obtain ⟨hx, hb, hml, hown, hts, hlk, hrt, hK, hZ, hN⟩ := hC
  rcases st with _ | ⟨y | y | _ | ⟨t1, c1⟩, _ | ⟨x | x | _ | ⟨t2, c2⟩, st⟩⟩
  all_goals first | exact nn hi | skip
  obtain ⟨h1, h2⟩ := stOk_cons.mp hs
  obtain ⟨h3, h4⟩ := stOk_cons.mp h2
  refine lv_land hx hb hd ?_
  rw [show (q64 x &&& q64 y) = q64 (lAnd x y) from (q64_of _).symm]
  exact hk (pc + 1) ls (.inr (.inl (lAnd x y)) :: st) μ H locs la hl (stOk_cons.mpr ⟨i64_in _, h4⟩) hw hi
theorem s_lor (hd : decode cc pc = .ok (.lor, 1)) : Snd L G l own cc nL ret R pc (i_lbin (pc + 1) lOr) := by
  intro p e s m args below meth c hC r k ls st μ H locs la hl hs hw hi hk
  obtain ⟨hx, hb, hml, hown, hts, hlk, hrt, hK, hZ, hN⟩ := hC
  rcases st with _ | ⟨y | y | _ | ⟨t1, c1⟩, _ | ⟨x | x | _ | ⟨t2, c2⟩, st⟩⟩
  all_goals first | exact nn hi | skip
  obtain ⟨h1, h2⟩ := stOk_cons.mp hs
  obtain ⟨h3, h4⟩ := stOk_cons.mp h2
  refine lv_lor hx hb hd ?_
  rw [show (q64 x ||| q64 y) = q64 (lOr x y) from (q64_of _).symm]
  exact hk (pc + 1) ls (.inr (.inl (lOr x y)) :: st) μ H locs la hl (stOk_cons.mpr ⟨i64_in _, h4⟩) hw hi
theorem s_ladd (hd : decode cc pc = .ok (.ladd, 1)) : Snd L G l own cc nL ret R pc (i_lbin (pc + 1) lAdd) := by
  intro p e s m args below meth c hC r k ls st μ H locs la hl hs hw hi hk
  obtain ⟨hx, hb, hml, hown, hts, hlk, hrt, hK, hZ, hN⟩ := hC
  rcases st with _ | ⟨y | y | _ | ⟨t1, c1⟩, _ | ⟨x | x | _ | ⟨t2, c2⟩, st⟩⟩
  all_goals first | exact nn hi | skip
  obtain ⟨h1, h2⟩ := stOk_cons.mp hs
  obtain ⟨h3, h4⟩ := stOk_cons.mp h2
  refine lv_ladd hx hb hd ?_
  rw [show (q64 x + q64 y) = q64 (lAdd x y) from (q64_of _).symm]
  exact hk (pc + 1) ls (.inr (.inl (lAdd x y)) :: st) μ H locs la hl (stOk_cons.mpr ⟨i64_in _, h4⟩) hw hi
theorem s_lshl (hd : decode cc pc = .ok (.lshl, 1)) : Snd L G l own cc nL ret R pc (i_lsh (pc + 1) lShl) := by
  intro p e s m args below meth c hC r k ls st μ H locs la hl hs hw hi hk
  obtain ⟨hx, hb, hml, hown, hts, hlk, hrt, hK, hZ, hN⟩ := hC
  rcases st with _ | ⟨y | y | _ | ⟨t1, c1⟩, _ | ⟨x | x | _ | ⟨t2, c2⟩, st⟩⟩
  all_goals first | exact nn hi | skip
  obtain ⟨h1, h2⟩ := stOk_cons.mp hs
  obtain ⟨h3, h4⟩ := stOk_cons.mp h2
  refine lv_lshl (v := q64 (lShl x y)) hx hb hd (q64_of _).symm ?_
  exact hk (pc + 1) ls (.inr (.inl (lShl x y)) :: st) μ H locs la hl (stOk_cons.mpr ⟨i64_in _, h4⟩) hw hi
theorem s_lshr (hd : decode cc pc = .ok (.lshr, 1)) : Snd L G l own cc nL ret R pc (i_lsh (pc + 1) lShr) := by
  intro p e s m args below meth c hC r k ls st μ H locs la hl hs hw hi hk
  obtain ⟨hx, hb, hml, hown, hts, hlk, hrt, hK, hZ, hN⟩ := hC
  rcases st with _ | ⟨y | y | _ | ⟨t1, c1⟩, _ | ⟨x | x | _ | ⟨t2, c2⟩, st⟩⟩
  all_goals first | exact nn hi | skip
  obtain ⟨h1, h2⟩ := stOk_cons.mp hs
  obtain ⟨h3, h4⟩ := stOk_cons.mp h2
  refine lv_lshr (v := q64 (lShr x y)) hx hb hd (q64_of _).symm ?_
  exact hk (pc + 1) ls (.inr (.inl (lShr x y)) :: st) μ H locs la hl (stOk_cons.mpr ⟨i64_in _, h4⟩) hw hi
theorem s_lcmp (hd : decode cc pc = .ok (.lcmp, 1)) : Snd L G l own cc nL ret R pc (i_lcmp (pc + 1)) := by
  intro p e s m args below meth c hC r k ls st μ H locs la hl hs hw hi hk
  obtain ⟨hx, hb, hml, hown, hts, hlk, hrt, hK, hZ, hN⟩ := hC
  rcases st with _ | ⟨y | y | _ | ⟨t1, c1⟩, _ | ⟨x | x | _ | ⟨t2, c2⟩, st⟩⟩
  all_goals first | exact nn hi | skip
  obtain ⟨h1, h2⟩ := stOk_cons.mp hs
  obtain ⟨h3, h4⟩ := stOk_cons.mp h2
  refine W.lcmp hx hb hd ?_
  have e1 : lg_cmp (q64 x) (q64 y) = q32 (if x < y then -1 else if x = y then 0 else 1) := lcmp_q h3 h1
  rw [e1]
  exact hk (pc + 1) ls (.inl (if x < y then -1 else if x = y then 0 else 1) :: st) μ H locs la hl (stOk_cons.mpr ⟨(by show in32 _; unfold in32; split <;> (try split) <;> omega), h4⟩) hw hi
theorem s_dup (hd : decode cc pc = .ok (.dup, 1)) : Snd L G l own cc nL ret R pc (i_dup (pc + 1)) := by
  intro p e s m args below meth c hC r k ls st μ H locs la hl hs hw hi hk
  obtain ⟨hx, hb, hml, hown, hts, hlk, hrt, hK, hZ, hN⟩ := hC
  rcases st with _ | ⟨x | x | _ | ⟨t1, c1⟩, st⟩
  all_goals first | exact nn hi | skip
  · obtain ⟨h1, h2⟩ := stOk_cons.mp hs
    refine lv_dup hx hb hd rfl ?_
    exact hk (pc + 1) ls (.inl x :: .inl x :: st) μ H locs la hl (stOk_cons.mpr ⟨h1, hs⟩) hw hi
  · obtain ⟨h1, h2⟩ := stOk_cons.mp hs
    refine lv_dup hx hb hd rfl ?_
    exact hk (pc + 1) ls (.inr (.inr none) :: .inr (.inr none) :: st) μ H locs la hl (stOk_cons.mpr ⟨h1, hs⟩) hw hi
  · obtain ⟨h1, h2⟩ := stOk_cons.mp hs
    refine lv_dup hx hb hd rfl ?_
    exact hk (pc + 1) ls (.inr (.inr (some (t1, c1))) :: .inr (.inr (some (t1, c1))) :: st) μ H locs la hl (stOk_cons.mpr ⟨h1, hs⟩) hw hi
theorem s_pop (hd : decode cc pc = .ok (.pop, 1)) : Snd L G l own cc nL ret R pc (i_pop (pc + 1)) := by
  intro p e s m args below meth c hC r k ls st μ H locs la hl hs hw hi hk
  obtain ⟨hx, hb, hml, hown, hts, hlk, hrt, hK, hZ, hN⟩ := hC
  rcases st with _ | ⟨x | x | _ | ⟨t1, c1⟩, st⟩
  all_goals first | exact nn hi | skip
  all_goals
    refine lv_pop hx hb hd rfl ?_
    exact hk (pc + 1) ls st μ H locs la hl (stOk_cons.mp hs).2 hw hi
theorem s_goto {off : Int} {tgt : Nat} (hd : decode cc pc = .ok (.goto off, 3)) (ht : (pc : Int) + off = (tgt : Int)) : Snd L G l own cc nL ret R pc (i_goto tgt) := by
  intro p e s m args below meth c hC r k ls st μ H locs la hl hs hw hi hk
  obtain ⟨hx, hb, hml, hown, hts, hlk, hrt, hK, hZ, hN⟩ := hC
  refine lv_goto hx hb hd ht ?_
  exact hk tgt ls st μ H locs la hl hs hw hi
theorem s_ifeq {off : Int} {tgt : Nat} (hd : decode cc pc = .ok (.ifCond .eq off, 3)) (ht : (pc : Int) + off = (tgt : Int)) : Snd L G l own cc nL ret R pc (i_ifeq (pc + 3) tgt) := by
  intro p e s m args below meth c hC r k ls st μ H locs la hl hs hw hi hk
  obtain ⟨hx, hb, hml, hown, hts, hlk, hrt, hK, hZ, hN⟩ := hC
  rcases st with _ | ⟨x | x | _ | ⟨t1, c1⟩, st⟩
  all_goals first | exact nn hi | skip
  obtain ⟨h1, h2⟩ := stOk_cons.mp hs
  have h5 : (if x = 0 then k tgt ls st μ else k (pc + 3) ls st μ) = some r := hi
  have z0 : (q32 0 : Int32) = 0 := q32_0
  refine lv_if_eq hx hb hd ht (fun q => ?_) (fun q => ?_)
  all_goals
    (try rw [← z0] at q)
    (try rw [q32_inj h1 in32_0] at q)
    (try rw [q32_lt h1 in32_0] at q)
    (try rw [q32_le h1 in32_0] at q)
    (try rw [q32_lt in32_0 h1] at q)
    (try rw [q32_le in32_0 h1] at q)
  · rw [if_pos (by omega)] at h5
    exact hk tgt ls st μ H locs la hl h2 hw h5
  · rw [if_neg (by omega)] at h5
    exact hk (pc + 3) ls st μ H locs la hl h2 hw h5
theorem s_ifne {off : Int} {tgt : Nat} (hd : decode cc pc = .ok (.ifCond .ne off, 3)) (ht : (pc : Int) + off = (tgt : Int)) : Snd L G l own cc nL ret R pc (i_ifne (pc + 3) tgt) := by
  intro p e s m args below meth c hC r k ls st μ H locs la hl hs hw hi hk
  obtain ⟨hx, hb, hml, hown, hts, hlk, hrt, hK, hZ, hN⟩ := hC
  rcases st with _ | ⟨x | x | _ | ⟨t1, c1⟩, st⟩
  all_goals first | exact nn hi | skip
  obtain ⟨h1, h2⟩ := stOk_cons.mp hs
  have h5 : (if x = 0 then k (pc + 3) ls st μ else k tgt ls st μ) = some r := hi
  have z0 : (q32 0 : Int32) = 0 := q32_0
  refine lv_if_ne hx hb hd ht (fun q => ?_) (fun q => ?_)
  all_goals
    (try rw [← z0] at q)
    (try rw [q32_inj h1 in32_0] at q)
    (try rw [q32_lt h1 in32_0] at q)
    (try rw [q32_le h1 in32_0] at q)
    (try rw [q32_lt in32_0 h1] at q)
    (try rw [q32_le in32_0 h1] at q)
  · rw [if_neg (by omega)] at h5
    exact hk tgt ls st μ H locs la hl h2 hw h5
  · rw [if_pos (by omega)] at h5
    exact hk (pc + 3) ls st μ H locs la hl h2 hw h5
theorem s_iflt {off : Int} {tgt : Nat} (hd : decode cc pc = .ok (.ifCond .lt off, 3)) (ht : (pc : Int) + off = (tgt : Int)) : Snd L G l own cc nL ret R pc (i_iflt (pc + 3) tgt) := by
  intro p e s m args below meth c hC r k ls st μ H locs la hl hs hw hi hk
  obtain ⟨hx, hb, hml, hown, hts, hlk, hrt, hK, hZ, hN⟩ := hC
  rcases st with _ | ⟨x | x | _ | ⟨t1, c1⟩, st⟩
  all_goals first | exact nn hi | skip
  obtain ⟨h1, h2⟩ := stOk_cons.mp hs
  have h5 : (if x < 0 then k tgt ls st μ else k (pc + 3) ls st μ) = some r := hi
  have z0 : (q32 0 : Int32) = 0 := q32_0
  refine lv_if_lt hx hb hd ht (fun q => ?_) (fun q => ?_)
  all_goals
    (try rw [← z0] at q)
    (try rw [q32_inj h1 in32_0] at q)
    (try rw [q32_lt h1 in32_0] at q)
    (try rw [q32_le h1 in32_0] at q)
    (try rw [q32_lt in32_0 h1] at q)
    (try rw [q32_le in32_0 h1] at q)
  · rw [if_pos (by omega)] at h5
    exact hk tgt ls st μ H locs la hl h2 hw h5
  · rw [if_neg (by omega)] at h5
    exact hk (pc + 3) ls st μ H locs la hl h2 hw h5
theorem s_ifge {off : Int} {tgt : Nat} (hd : decode cc pc = .ok (.ifCond .ge off, 3)) (ht : (pc : Int) + off = (tgt : Int)) : Snd L G l own cc nL ret R pc (i_ifge (pc + 3) tgt) := by
  intro p e s m args below meth c hC r k ls st μ H locs la hl hs hw hi hk
  obtain ⟨hx, hb, hml, hown, hts, hlk, hrt, hK, hZ, hN⟩ := hC
  rcases st with _ | ⟨x | x | _ | ⟨t1, c1⟩, st⟩
  all_goals first | exact nn hi | skip
  obtain ⟨h1, h2⟩ := stOk_cons.mp hs
  have h5 : (if x < 0 then k (pc + 3) ls st μ else k tgt ls st μ) = some r := hi
  have z0 : (q32 0 : Int32) = 0 := q32_0
  refine lv_if_ge hx hb hd ht (fun q => ?_) (fun q => ?_)
  all_goals
    (try rw [← z0] at q)
    (try rw [q32_inj h1 in32_0] at q)
    (try rw [q32_lt h1 in32_0] at q)
    (try rw [q32_le h1 in32_0] at q)
    (try rw [q32_lt in32_0 h1] at q)
    (try rw [q32_le in32_0 h1] at q)
  · rw [if_neg (by omega)] at h5
    exact hk tgt ls st μ H locs la hl h2 hw h5
  · rw [if_pos (by omega)] at h5
    exact hk (pc + 3) ls st μ H locs la hl h2 hw h5
theorem s_ifgt {off : Int} {tgt : Nat} (hd : decode cc pc = .ok (.ifCond .gt off, 3)) (ht : (pc : Int) + off = (tgt : Int)) : Snd L G l own cc nL ret R pc (i_ifgt (pc + 3) tgt) := by
  intro p e s m args below meth c hC r k ls st μ H locs la hl hs hw hi hk
  obtain ⟨hx, hb, hml, hown, hts, hlk, hrt, hK, hZ, hN⟩ := hC
  rcases st with _ | ⟨x | x | _ | ⟨t1, c1⟩, st⟩
  all_goals first | exact nn hi | skip
  obtain ⟨h1, h2⟩ := stOk_cons.mp hs
  have h5 : (if x ≤ 0 then k (pc + 3) ls st μ else k tgt ls st μ) = some r := hi
  have z0 : (q32 0 : Int32) = 0 := q32_0
  refine lv_if_gt hx hb hd ht (fun q => ?_) (fun q => ?_)
  all_goals
    (try rw [← z0] at q)
    (try rw [q32_inj h1 in32_0] at q)
    (try rw [q32_lt h1 in32_0] at q)
    (try rw [q32_le h1 in32_0] at q)
    (try rw [q32_lt in32_0 h1] at q)
    (try rw [q32_le in32_0 h1] at q)
  · rw [if_neg (by omega)] at h5
    exact hk tgt ls st μ H locs la hl h2 hw h5
  · rw [if_pos (by omega)] at h5
    exact hk (pc + 3) ls st μ H locs la hl h2 hw h5
theorem s_ifle {off : Int} {tgt : Nat} (hd : decode cc pc = .ok (.ifCond .le off, 3)) (ht : (pc : Int) + off = (tgt : Int)) : Snd L G l own cc nL ret R pc (i_ifle (pc + 3) tgt) := by
  intro p e s m args below meth c hC r k ls st μ H locs la hl hs hw hi hk
  obtain ⟨hx, hb, hml, hown, hts, hlk, hrt, hK, hZ, hN⟩ := hC
  rcases st with _ | ⟨x | x | _ | ⟨t1, c1⟩, st⟩
  all_goals first | exact nn hi | skip
  obtain ⟨h1, h2⟩ := stOk_cons.mp hs
  have h5 : (if x ≤ 0 then k tgt ls st μ else k (pc + 3) ls st μ) = some r := hi
  have z0 : (q32 0 : Int32) = 0 := q32_0
  refine lv_if_le hx hb hd ht (fun q => ?_) (fun q => ?_)
  all_goals
    (try rw [← z0] at q)
    (try rw [q32_inj h1 in32_0] at q)
    (try rw [q32_lt h1 in32_0] at q)
    (try rw [q32_le h1 in32_0] at q)
    (try rw [q32_lt in32_0 h1] at q)
    (try rw [q32_le in32_0 h1] at q)
  · rw [if_pos (by omega)] at h5
    exact hk tgt ls st μ H locs la hl h2 hw h5
  · rw [if_neg (by omega)] at h5
    exact hk (pc + 3) ls st μ H locs la hl h2 hw h5
theorem s_cmpeq {off : Int} {tgt : Nat} (hd : decode cc pc = .ok (.if_icmp .eq off, 3)) (ht : (pc : Int) + off = (tgt : Int)) : Snd L G l own cc nL ret R pc (i_cmpeq (pc + 3) tgt) := by
  intro p e s m args below meth c hC r k ls st μ H locs la hl hs hw hi hk
  obtain ⟨hx, hb, hml, hown, hts, hlk, hrt, hK, hZ, hN⟩ := hC
  rcases st with _ | ⟨y | y | _ | ⟨t1, c1⟩, _ | ⟨x | x | _ | ⟨t2, c2⟩, st⟩⟩
  all_goals first | exact nn hi | skip
  obtain ⟨h1, h2⟩ := stOk_cons.mp hs
  obtain ⟨h3, h4⟩ := stOk_cons.mp h2
  have h5 : (if x = y then k tgt ls st μ else k (pc + 3) ls st μ) = some r := hi
  refine lv_icmp_eq hx hb hd ht (fun q => ?_) (fun q => ?_)
  all_goals
    (try rw [q32_inj h3 h1] at q)
    (try rw [q32_lt h3 h1] at q)
    (try rw [q32_le h3 h1] at q)
    (try rw [q32_lt h1 h3] at q)
    (try rw [q32_le h1 h3] at q)
  · rw [if_pos (by omega)] at h5
    exact hk tgt ls st μ H locs la hl h4 hw h5
  · rw [if_neg (by omega)] at h5
    exact hk (pc + 3) ls st μ H locs la hl h4 hw h5
theorem s_cmpne {off : Int} {tgt : Nat} (hd : decode cc pc = .ok (.if_icmp .ne off, 3)) (ht : (pc : Int) + off = (tgt : Int)) : Snd L G l own cc nL ret R pc (i_cmpne (pc + 3) tgt) := by
  intro p e s m args below meth c hC r k ls st μ H locs la hl hs hw hi hk
  obtain ⟨hx, hb, hml, hown, hts, hlk, hrt, hK, hZ, hN⟩ := hC
  rcases st with _ | ⟨y | y | _ | ⟨t1, c1⟩, _ | ⟨x | x | _ | ⟨t2, c2⟩, st⟩⟩
  all_goals first | exact nn hi | skip
  obtain ⟨h1, h2⟩ := stOk_cons.mp hs
  obtain ⟨h3, h4⟩ := stOk_cons.mp h2
  have h5 : (if x = y then k (pc + 3) ls st μ else k tgt ls st μ) = some r := hi
  refine lv_icmp_ne hx hb hd ht (fun q => ?_) (fun q => ?_)
  all_goals
    (try rw [q32_inj h3 h1] at q)
    (try rw [q32_lt h3 h1] at q)
    (try rw [q32_le h3 h1] at q)
    (try rw [q32_lt h1 h3] at q)
    (try rw [q32_le h1 h3] at q)
  · rw [if_neg (by omega)] at h5
    exact hk tgt ls st μ H locs la hl h4 hw h5
  · rw [if_pos (by omega)] at h5
    exact hk (pc + 3) ls st μ H locs la hl h4 hw h5
theorem s_cmplt {off : Int} {tgt : Nat} (hd : decode cc pc = .ok (.if_icmp .lt off, 3)) (ht : (pc : Int) + off = (tgt : Int)) : Snd L G l own cc nL ret R pc (i_cmplt (pc + 3) tgt) := by
  intro p e s m args below meth c hC r k ls st μ H locs la hl hs hw hi hk
  obtain ⟨hx, hb, hml, hown, hts, hlk, hrt, hK, hZ, hN⟩ := hC
  rcases st with _ | ⟨y | y | _ | ⟨t1, c1⟩, _ | ⟨x | x | _ | ⟨t2, c2⟩, st⟩⟩
  all_goals first | exact nn hi | skip
  obtain ⟨h1, h2⟩ := stOk_cons.mp hs
  obtain ⟨h3, h4⟩ := stOk_cons.mp h2
  have h5 : (if x < y then k tgt ls st μ else k (pc + 3) ls st μ) = some r := hi
  refine lv_icmp_lt hx hb hd ht (fun q => ?_) (fun q => ?_)
  all_goals
    (try rw [q32_inj h3 h1] at q)
    (try rw [q32_lt h3 h1] at q)
    (try rw [q32_le h3 h1] at q)
    (try rw [q32_lt h1 h3] at q)
    (try rw [q32_le h1 h3] at q)
  · rw [if_pos (by omega)] at h5
    exact hk tgt ls st μ H locs la hl h4 hw h5
  · rw [if_neg (by omega)] at h5
    exact hk (pc + 3) ls st μ H locs la hl h4 hw h5
theorem s_cmpge {off : Int} {tgt : Nat} (hd : decode cc pc = .ok (.if_icmp .ge off, 3)) (ht : (pc : Int) + off = (tgt : Int)) : Snd L G l own cc nL ret R pc (i_cmpge (pc + 3) tgt) := by
  intro p e s m args below meth c hC r k ls st μ H locs la hl hs hw hi hk
  obtain ⟨hx, hb, hml, hown, hts, hlk, hrt, hK, hZ, hN⟩ := hC
  rcases st with _ | ⟨y | y | _ | ⟨t1, c1⟩, _ | ⟨x | x | _ | ⟨t2, c2⟩, st⟩⟩
  all_goals first | exact nn hi | skip
  obtain ⟨h1, h2⟩ := stOk_cons.mp hs
  obtain ⟨h3, h4⟩ := stOk_cons.mp h2
  have h5 : (if x < y then k (pc + 3) ls st μ else k tgt ls st μ) = some r := hi
  refine lv_icmp_ge hx hb hd ht (fun q => ?_) (fun q => ?_)
  all_goals
    (try rw [q32_inj h3 h1] at q)
    (try rw [q32_lt h3 h1] at q)
    (try rw [q32_le h3 h1] at q)
    (try rw [q32_lt h1 h3] at q)
    (try rw [q32_le h1 h3] at q)
  · rw [if_neg (by omega)] at h5
    exact hk tgt ls st μ H locs la hl h4 hw h5
  · rw [if_pos (by omega)] at h5
    exact hk (pc + 3) ls st μ H locs la hl h4 hw h5
theorem s_cmpgt {off : Int} {tgt : Nat} (hd : decode cc pc = .ok (.if_icmp .gt off, 3)) (ht : (pc : Int) + off = (tgt : Int)) : Snd L G l own cc nL ret R pc (i_cmpgt (pc + 3) tgt) := by
  intro p e s m args below meth c hC r k ls st μ H locs la hl hs hw hi hk
  obtain ⟨hx, hb, hml, hown, hts, hlk, hrt, hK, hZ, hN⟩ := hC
  rcases st with _ | ⟨y | y | _ | ⟨t1, c1⟩, _ | ⟨x | x | _ | ⟨t2, c2⟩, st⟩⟩
  all_goals first | exact nn hi | skip
  obtain ⟨h1, h2⟩ := stOk_cons.mp hs
  obtain ⟨h3, h4⟩ := stOk_cons.mp h2
  have h5 : (if x ≤ y then k (pc + 3) ls st μ else k tgt ls st μ) = some r := hi
  refine lv_icmp_gt hx hb hd ht (fun q => ?_) (fun q => ?_)
  all_goals
    (try rw [q32_inj h3 h1] at q)
    (try rw [q32_lt h3 h1] at q)
    (try rw [q32_le h3 h1] at q)
    (try rw [q32_lt h1 h3] at q)
    (try rw [q32_le h1 h3] at q)
  · rw [if_neg (by omega)] at h5
    exact hk tgt ls st μ H locs la hl h4 hw h5
  · rw [if_pos (by omega)] at h5
    exact hk (pc + 3) ls st μ H locs la hl h4 hw h5
theorem s_cmple {off : Int} {tgt : Nat} (hd : decode cc pc = .ok (.if_icmp .le off, 3)) (ht : (pc : Int) + off = (tgt : Int)) : Snd L G l own cc nL ret R pc (i_cmple (pc + 3) tgt) := by
  intro p e s m args below meth c hC r k ls st μ H locs la hl hs hw hi hk
  obtain ⟨hx, hb, hml, hown, hts, hlk, hrt, hK, hZ, hN⟩ := hC
  rcases st with _ | ⟨y | y | _ | ⟨t1, c1⟩, _ | ⟨x | x | _ | ⟨t2, c2⟩, st⟩⟩
  all_goals first | exact nn hi | skip
  obtain ⟨h1, h2⟩ := stOk_cons.mp hs
  obtain ⟨h3, h4⟩ := stOk_cons.mp h2
  have h5 : (if x ≤ y then k tgt ls st μ else k (pc + 3) ls st μ) = some r := hi
  refine lv_icmp_le hx hb hd ht (fun q => ?_) (fun q => ?_)
  all_goals
    (try rw [q32_inj h3 h1] at q)
    (try rw [q32_lt h3 h1] at q)
    (try rw [q32_le h3 h1] at q)
    (try rw [q32_lt h1 h3] at q)
    (try rw [q32_le h1 h3] at q)
  · rw [if_pos (by omega)] at h5
    exact hk tgt ls st μ H locs la hl h4 hw h5
  · rw [if_neg (by omega)] at h5
    exact hk (pc + 3) ls st μ H locs la hl h4 hw h5
theorem s_ifnull {off : Int} {tgt : Nat} (hd : decode cc pc = .ok (.ifnull off, 3)) (ht : (pc : Int) + off = (tgt : Int)) : Snd L G l own cc nL ret R pc (i_ifnull (pc + 3) tgt) := by
  intro p e s m args below meth c hC r k ls st μ H locs la hl hs hw hi hk
  obtain ⟨hx, hb, hml, hown, hts, hlk, hrt, hK, hZ, hN⟩ := hC
  rcases st with _ | ⟨x | x | _ | ⟨t1, c1⟩, st⟩
  all_goals first | exact nn hi | skip
  · obtain ⟨h1, h2⟩ := stOk_cons.mp hs
    refine lv_ifnullN hx hb hd ht ?_
    exact hk tgt ls st μ H locs la hl h2 hw hi
  · obtain ⟨h1, h2⟩ := stOk_cons.mp hs
    refine lv_ifnull hx hb hd ?_
    exact hk (pc + 3) ls st μ H locs la hl h2 hw hi
theorem s_ifnonnull {off : Int} {tgt : Nat} (hd : decode cc pc = .ok (.ifnonnull off, 3)) (ht : (pc : Int) + off = (tgt : Int)) : Snd L G l own cc nL ret R pc (i_ifnonnull (pc + 3) tgt) := by
  intro p e s m args below meth c hC r k ls st μ H locs la hl hs hw hi hk
  obtain ⟨hx, hb, hml, hown, hts, hlk, hrt, hK, hZ, hN⟩ := hC
  rcases st with _ | ⟨x | x | _ | ⟨t1, c1⟩, st⟩
  all_goals first | exact nn hi | skip
  · obtain ⟨h1, h2⟩ := stOk_cons.mp hs
    refine lv_ifnonnullN hx hb hd ?_
    exact hk (pc + 3) ls st μ H locs la hl h2 hw hi
  · obtain ⟨h1, h2⟩ := stOk_cons.mp hs
    refine lv_ifnonnull hx hb hd ht ?_
    exact hk tgt ls st μ H locs la hl h2 hw hi
theorem s_iret (hd : decode cc pc = .ok (.ireturn, 1)) (hr : ret = some .int) : Snd L G l own cc nL ret R pc (i_iret) := by
  intro p e s m args below meth c hC r k ls st μ H locs la hl hs hw hi hk
  obtain ⟨hx, hb, hml, hown, hts, hlk, hrt, hK, hZ, hN⟩ := hC
  rcases st with _ | ⟨x | x | _ | ⟨t1, c1⟩, _ | ⟨y, st⟩⟩
  all_goals first | exact nn hi | skip
  obtain ⟨h1, h2⟩ := stOk_cons.mp hs
  obtain rfl : (some (.inl x), μ) = r := Option.some.inj hi
  exact W.iret hx hb (hrt.trans hr) (fun t ht _ => ⟨rfl, (fun v hv => by cases hv; exact h1), hw.2.2, by rw [ht]; exact hw.1, hw.2.1.F ht⟩) hw.2.1.2.2 hd
theorem s_zret (hd : decode cc pc = .ok (.ireturn, 1)) (hr : ret = some .boolean) : Snd L G l own cc nL ret R pc (i_zret) := by
  intro p e s m args below meth c hC r k ls st μ H locs la hl hs hw hi hk
  obtain ⟨hx, hb, hml, hown, hts, hlk, hrt, hK, hZ, hN⟩ := hC
  rcases st with _ | ⟨x | x | _ | ⟨t1, c1⟩, _ | ⟨y, st⟩⟩
  all_goals first | exact nn hi | skip
  obtain ⟨h1, h2⟩ := stOk_cons.mp hs
  have h5 : (if x = 0 ∨ x = 1 then some (some (.inl x), μ) else none) = some r := hi
  by_cases hx1 : x = 0 ∨ x = 1
  · rw [if_pos hx1] at h5
    obtain rfl : (some (.inl x), μ) = r := Option.some.inj h5
    exact W.zret hx hb (hrt.trans hr) (by rcases hx1 with rfl | rfl <;> decide +kernel) (fun t ht _ => ⟨rfl, (fun v hv => by cases hv; exact h1), hw.2.2, by rw [ht]; exact hw.1, hw.2.1.F ht⟩) hw.2.1.2.2 hd
  · rw [if_neg hx1] at h5
    exact nn h5
theorem s_vret (hd : decode cc pc = .ok (.return_, 1)) (hr : ret = none) : Snd L G l own cc nL ret R pc (i_vret) := by
  intro p e s m args below meth c hC r k ls st μ H locs la hl hs hw hi hk
  obtain ⟨hx, hb, hml, hown, hts, hlk, hrt, hK, hZ, hN⟩ := hC
  rcases st with _ | ⟨x, st⟩
  · obtain rfl : (none, μ) = r := Option.some.inj hi
    exact W.vret hx hb (hrt.trans hr) (fun t ht _ => ⟨rfl, (fun v hv => by cases hv), hw.2.2, by rw [ht]; exact hw.1, hw.2.1.F ht⟩) hw.2.1.2.2 hd
  · exact nn hi
theorem s_aret {rt : FieldType} (hd : decode cc pc = .ok (.areturn, 1)) (hr : ret = some rt) (hn : (∃ n, rt = .object n) ∨ ∃ t, rt = .array t) : Snd L G l own cc nL ret R pc (i_aret) := by
  intro p e s m args below meth c hC r k ls st μ H locs la hl hs hw hi hk
  obtain ⟨hx, hb, hml, hown, hts, hlk, hrt, hK, hZ, hN⟩ := hC
  rcases st with _ | ⟨x | x | _ | ⟨t1, c1⟩, _ | ⟨y, st⟩⟩
  all_goals first | exact nn hi | skip
  · obtain ⟨h1, h2⟩ := stOk_cons.mp hs
    obtain rfl : (some (.inr (.inr none)), μ) = r := Option.some.inj hi
    exact W.aret (v := .null) hx hb (hrt.trans hr) hn (Or.inl rfl) (fun t ht _ => ⟨rfl, (fun v hv => by cases hv; exact h1), hw.2.2, by rw [ht]; exact hw.1, hw.2.1.F ht⟩) hw.2.1.2.2 hd
  · obtain ⟨h1, h2⟩ := stOk_cons.mp hs
    obtain rfl : (some (.inr (.inr (some (t1, c1)))), μ) = r := Option.some.inj hi
    exact W.aret (v := .ref (ad G t1 c1)) hx hb (hrt.trans hr) hn (Or.inr ⟨_, rfl⟩) (fun t ht _ => ⟨rfl, (fun v hv => by cases hv; exact h1), hw.2.2, by rw [ht]; exact hw.1, hw.2.1.F ht⟩) hw.2.1.2.2 hd
end SND
