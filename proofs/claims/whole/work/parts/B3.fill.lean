/-! the building machine: soundness of fields, elements, rows of references -/
theorem kE_num {G : Wp} {t n : Nat} {ws : List (Nat × Int)} (h : t < 24) : kE G (.inr (t, n, ws)) = .inl (G.2.1 t, n, .inl (fun i => q32 (lkz 0 i ws))) := if_pos h
theorem kE_ref {G : Wp} {t n : Nat} {ws : List (Nat × Int)} (h : 24 ≤ t) : kE G (.inr (t, n, ws)) = .inl (G.2.1 t, n, .inr (.inr (.inr (.inr (fun i => if lkz (-1) i ws < 0 then none else some (G.1 + (lkz (-1) i ws).toNat)))))) := if_neg (by omega)
theorem lkz_upd {i : Nat} {x : Int} {ws : List (Nat × Int)} : (fun j => q32 (lkz 0 j ((i, x) :: ws))) = upd (fun j => q32 (lkz 0 j ws)) i (q32 x) := by
  funext j
  show q32 (if j = i then x else lkz 0 j ws) = if j = i then q32 x else q32 (lkz 0 j ws)
  split <;> rfl
theorem lkz_up {G : Wp} {i d : Nat} {ws : List (Nat × Int)} : (fun j => if lkz (-1) j ((i, (d : Int)) :: ws) < 0 then none else some (G.1 + (lkz (-1) j ((i, (d : Int)) :: ws)).toNat)) = va_up (fun j => if lkz (-1) j ws < 0 then none else some (G.1 + (lkz (-1) j ws).toNat)) i (some (G.1 + d)) := by
  funext j
  show (if (if j = i then (d : Int) else lkz (-1) j ws) < 0 then none else some (G.1 + (if j = i then (d : Int) else lkz (-1) j ws).toNat)) = if j = i then some (G.1 + d) else _
  by_cases e : j = i
  · rw [if_pos e, if_pos e, if_neg (by omega)]
    rfl
  · rw [if_neg e, if_neg e]
theorem fI_int {G : Wp} : ∀ v, isI v = true → narrow .int (cv G v) = cv G v ∧ fits .int (cv G v) = true := by
  intro v h
  rcases v with x | x | _ | ⟨t, c⟩
  · exact ⟨rfl, rfl⟩
  all_goals cases h
theorem fR_obj {G : Wp} {C : String} : ∀ v, isR v = true → narrow (.object C) (cv G v) = cv G v ∧ fits (.object C) (cv G v) = true := by
  intro v h
  rcases v with x | x | _ | ⟨t, c⟩
  all_goals first | (cases h; done) | exact ⟨rfl, rfl⟩
theorem fR_arr {G : Wp} {T : FieldType} : ∀ v, isR v = true → narrow (.array T) (cv G v) = cv G v ∧ fits (.array T) (cv G v) = true := by
  intro v h
  rcases v with x | x | _ | ⟨t, c⟩
  all_goals first | (cases h; done) | exact ⟨rfl, rfl⟩
section SNK3
variable {G : Wp} {l : Launch} {own : String} {cc : ByteArray} {nL fr lo n0 z0 N Z : Nat} {pc : Nat}
theorem wk_sz {p : Program} {e : Env} {R : Room} {s : State} {m : MethodId} {args : Array Value} {below : List Frame} {meth : Method} {c : Code} {H : Heap} {locs : List Loc} {slots : Nat} {Q : State → Prop} {g : JFrame} {h : List KC} (hG : s.heap.size = G.1 + n0) (hn : n0 ≤ h.length) (k : H.size ≤ G.1 + h.length → W p l e R s m args below meth c H locs (h.length - n0) slots Q g) : W p l e R s m args below meth c H locs (h.length - n0) slots Q g := fun T hT X => k (by have := X.heapSize; rw [hT] at this; omega) T hT X
theorem wk_S0 {s : State} {h : List KC} {H : Heap} {locs : List Loc} (hw : WoK G s h H locs) : va_S (Af G) H H locs := ⟨Nat.le_refl _, fun _ _ _ => rfl, hw.2.1.2.2⟩
theorem wk_put {s : State} {h : List KC} {H H1 : Heap} {locs locs1 : List Loc} {c : Nat} {x : KC} (hw : WoK G s h H locs) (hP1 : va_P G.2.2.1 vwCl ((pK G 0 h).set c (G.1 + c, kE G x)) H1) (hS1 : va_S (Af G) H H1 locs1) (hz : H1.size ≤ G.1 + h.length) : WoK G s (h.set c x) H1 locs1 := by
  have h1 := hw.2.1.1
  have h2 := hS1.1
  have h3 := hw.2.2
  refine wk_set hw hP1 ⟨by omega, fun q q1 q2 => ?_, hS1.2.2⟩ (by omega)
  rw [hS1.2.1 q (by omega) q2]
  exact hw.2.1.2.1 q q1 q2
theorem pK_obj {h : List KC} {c t : Nat} {fs : List AV} (hc : h[c]? = some (.inl (t, fs))) : (pK G 0 h)[c]? = some (G.1 + c, .inr (t, fs.map (cv G))) := by
  have := pK_get (G := G) h 0 c _ hc
  rw [Nat.zero_add] at this
  exact this
theorem pK_arr {h : List KC} {c : Nat} {x : Nat × Nat × List (Nat × Int)} (hc : h[c]? = some (.inr x)) : (pK G 0 h)[c]? = some (G.1 + c, kE G (.inr x)) := by
  have := pK_get (G := G) h 0 c _ hc
  rw [Nat.zero_add] at this
  exact this
theorem ks_get {ci f idx NF : Nat} {C : String} {T : u_T} (hd : decode cc pc = .ok (.getfield idx, 3)) (hc : vwCl[ci]? = some (C, T, NF)) (h20 : ci < 20) (hin : ∀ w ∈ u_ws C T NF, w ∈ gtb) (hf : f < NF) (hlk2 : Cond.fieldLink own idx (T f).1 (T f).2.1 (T f).2.2.1 ∈ gtb) : SdK G l own cc nL fr lo n0 z0 N Z pc (k_get (pc + 3) ci f) := by
  intro p e s m args below meth c hC r k ls st h0 z H locs la hl hs hw hn hz hi hk
  obtain ⟨hx, hb, hml, hown, hts, hlk, hrt, hK, hmn, hG, hX⟩ := hC
  unfold k_get at hi
  split at hi
  · rename_i t1 c1 st'
    split at hi
    · rename_i et1
      split at hi
      · rename_i t' fs hcell
        rw [gtR_rs] at hcell
        split at hi
        · rename_i et2
          split at hi
          · rename_i v hv
            subst et1
            subst et2
            show W p l e _ s m args below meth c H locs _ _ _ (F0 m pc la (.ref (ad G _ c1) :: st'.map (cv G)))
            rw [ad_lt (by omega)]
            refine va_get (v := cv G (.inr (.inr (some v)))) hx hb hts hin hown hK hw.1 c1 (pK_obj hcell) hc f hf (hts _ hlk2) (fun _ q => q) (by rw [List.getElem?_map, hv]; rfl) hd ?_
            exact hk (pc + 3) ls (.inr (.inr (some v)) :: st') h0 z H locs la hl (stK_cons.mpr ⟨trivial, (stK_cons.mp hs).2⟩) hw hn hz hi
          · exact nnK hi
        · exact nnK hi
      · exact nnK hi
    · exact nnK hi
  · exact nnK hi
theorem ks_put {ci f idx NF : Nat} {C : String} {T : u_T} {chk : AV → Bool} {ty : FieldType} (hd : decode cc pc = .ok (.putfield idx, 3)) (hc : vwCl[ci]? = some (C, T, NF)) (h20 : ci < 20) (hin : ∀ w ∈ u_ws C T NF, w ∈ gtb) (hf : f < NF) (hlk2 : Cond.fieldLink own idx (T f).1 (T f).2.1 (T f).2.2.1 ∈ gtb) (ty0 : Nat → FieldType) (hty : ∀ k, k < NF → parseFieldDescriptor (T k).2.2.1 = some (ty0 k)) (hnm : ∀ a, a < NF → ∀ b, b < NF → a ≠ b → (T a).2.1 ≠ (T b).2.1) (hdecl : (T f).1 = own) (hpd : parseFieldDescriptor (T f).2.2.1 = some ty) (hval : ∀ v, chk v = true → narrow ty (cv G v) = cv G v ∧ fits ty (cv G v) = true) : SdK G l own cc nL fr lo n0 z0 N Z pc (k_put (pc + 3) ci f chk) := by
  intro p e s m args below meth c hC r k ls st h0 z H locs la hl hs hw hn hz hi hk
  obtain ⟨hx, hb, hml, hown, hts, hlk, hrt, hK, hmn, hG, hX⟩ := hC
  unfold k_put at hi
  split at hi
  · rename_i v t1 c1 st'
    split at hi
    · rename_i et1
      split at hi
      · rename_i t' fs hcell
        rw [gtR_rs] at hcell
        split at hi
        · rename_i et2
          rw [stR_rs (gt_lt hcell)] at hi
          obtain ⟨e1, e2⟩ := et1
          obtain ⟨e3, e4⟩ := et2
          subst e1
          subst e3
          obtain ⟨s1, s2⟩ := stK_cons.mp hs
          obtain ⟨s3, s4⟩ := stK_cons.mp s2
          obtain ⟨v1, v2⟩ := hval v e2
          show W p l e _ s m args below meth c H locs _ _ _ (F0 m pc la (cv G v :: .ref (ad G _ c1) :: st'.map (cv G)))
          rw [ad_lt (by omega)]
          cases hfin : (T f).2.2.2 with
          | false =>
            refine va_put hx hb hts hin ty0 hty hnm hown hK hw.1 (pK_D G h0) (wk_S0 hw) c1 (pK_obj hcell) hc f hf (hts _ hlk2) (fun _ q => q) hfin hpd v1 v2 (by rw [List.length_map]; exact e4) hd (fun H1 locs1 hP1 _ hS1 => ?_)
            refine wk_sz hG hn fun hz1 => ?_
            rw [← List.map_set] at hP1
            have := hk (pc + 3) ls st' _ z H1 locs1 la hl s4 (wk_put (x := .inl (_, fs.set f v)) hw hP1 hS1 hz1) (by rw [List.length_set]; exact hn) hz hi
            rw [List.length_set] at this
            exact this
          | true =>
            refine va_putF hx hb hts hin ty0 hty hnm hown hK hw.1 (pK_D G h0) (wk_S0 hw) c1 (pK_obj hcell) hc f hf (hts _ hlk2) (fun _ q => q) hfin hmn hdecl hpd v1 v2 (by rw [List.length_map]; exact e4) hd (fun H1 locs1 hP1 _ hS1 => ?_)
            refine wk_sz hG hn fun hz1 => ?_
            rw [← List.map_set] at hP1
            have := hk (pc + 3) ls st' _ z H1 locs1 la hl s4 (wk_put (x := .inl (_, fs.set f v)) hw hP1 hS1 hz1) (by rw [List.length_set]; exact hn) hz hi
            rw [List.length_set] at this
            exact this
        · exact nnK hi
      · exact nnK hi
    · exact nnK hi
  · exact nnK hi
theorem ks_iast (hd : decode cc pc = .ok (.iastore, 1)) : SdK G l own cc nL fr lo n0 z0 N Z pc (k_iast (pc + 1)) := by
  intro p e s m args below meth c hC r k ls st h0 z H locs la hl hs hw hn hz hi hk
  obtain ⟨hx, hb, hml, hown, hts, hlk, hrt, hK, hmn, hG, hX⟩ := hC
  unfold k_iast at hi
  split at hi
  · rename_i x i t1 c1 st'
    split at hi
    · rename_i et1
      split at hi
      · rename_i t' m' ws hcell
        rw [gtR_rs] at hcell
        split at hi
        · rename_i et2
          rw [stR_rs (gt_lt hcell)] at hi
          obtain ⟨e1, e2⟩ := et1
          obtain ⟨e3, e4, e5⟩ := et2
          subst e1
          subst e3
          obtain ⟨s1, s2⟩ := stK_cons.mp hs
          obtain ⟨s3, s4⟩ := stK_cons.mp s2
          obtain ⟨s5, s6⟩ := stK_cons.mp s4
          have hcl : (q32 i).toNatClampNeg = i.toNat := q32_clamp e2 s3
          show W p l e _ s m args below meth c H locs _ _ _ (F0 m pc la (.int (q32 x) :: .int (q32 i) :: .ref (ad G _ c1) :: st'.map (cv G)))
          rw [ad_lt (by omega)]
          refine va_iast hx hb hK hw.1 (pK_D G h0) (wk_S0 hw) c1 (20 - 20) ((pK_arr hcell).trans (by rw [kE_num (by omega)])) (tys_get (by omega) (by omega)) (q32_vp s3 ⟨e2, e4⟩) hd (fun H1 locs1 hP1 _ hS1 => ?_)
          refine wk_sz hG hn fun hz1 => ?_
          rw [hcl, ← lkz_upd, ← kE_num (t := 20) (by omega)] at hP1
          have := hk (pc + 1) ls st' _ z H1 locs1 la hl s6 (wk_put hw hP1 hS1 hz1) (by rw [List.length_set]; exact hn) hz hi
          rw [List.length_set] at this
          exact this
        · exact nnK hi
      · exact nnK hi
    · exact nnK hi
  · exact nnK hi
theorem ks_aast {tA ci NF : Nat} {C : String} {T : u_T} (hd : decode cc pc = .ok (.aastore, 1)) (hc : vwCl[ci]? = some (C, T, NF)) (h20 : ci < 20) (hA : 24 ≤ tA ∧ tA < 30) (het : et tA = .object C) : SdK G l own cc nL fr lo n0 z0 N Z pc (k_aast (pc + 1) tA ci) := by
  intro p e s m args below meth c hC r k ls st h0 z H locs la hl hs hw hn hz hi hk
  obtain ⟨hx, hb, hml, hown, hts, hlk, hrt, hK, hmn, hG, hX⟩ := hC
  unfold k_aast at hi
  split at hi
  · rename_i t1 d1 i t2 c1 st'
    split at hi
    · rename_i et1
      split at hi
      · rename_i t' m' ws t3 fs hcell hcd
        rw [gtR_rs] at hcell hcd
        split at hi
        · rename_i et2
          rw [stR_rs (gt_lt hcell)] at hi
          obtain ⟨e1, e2, e3⟩ := et1
          obtain ⟨e4, e5, e6, e7⟩ := et2
          subst e1
          subst e2
          subst e4
          subst e5
          obtain ⟨s1, s2⟩ := stK_cons.mp hs
          obtain ⟨s3, s4⟩ := stK_cons.mp s2
          obtain ⟨s5, s6⟩ := stK_cons.mp s4
          have hcl : (q32 i).toNatClampNeg = i.toNat := q32_clamp e3 s3
          show W p l e _ s m args below meth c H locs _ _ _ (F0 m pc la (.ref (ad G _ d1) :: .int (q32 i) :: .ref (ad G _ c1) :: st'.map (cv G)))
          rw [ad_lt (by omega), ad_lt (by omega)]
          refine va_astq (r := (C, T, NF)) hx hb hK hw.1 (pK_D G h0) (wk_S0 hw) c1 (t' - 20) d1 t3 ((pK_arr hcell).trans (by rw [kE_ref hA.1])) (by rw [tys_get (by omega) hA.2, het]) (pK_obj hcd) hc (q32_vp s3 ⟨e3, e6⟩) hd (fun H1 locs1 hP1 _ hS1 => ?_)
          refine wk_sz hG hn fun hz1 => ?_
          rw [hcl, ← lkz_up, ← kE_ref (t := t') hA.1] at hP1
          have := hk (pc + 1) ls st' _ z H1 locs1 la hl s6 (wk_put hw hP1 hS1 hz1) (by rw [List.length_set]; exact hn) hz hi
          rw [List.length_set] at this
          exact this
        · exact nnK hi
      · exact nnK hi
    · exact nnK hi
  · exact nnK hi
theorem ks_obj {idx : Nat} (hd : decode cc pc = .ok (.invokespecial idx, 3)) (w1 : Cond.methodLink own idx Lib.objectInit ∈ gtb) (w2 : Cond.instanceMethod Lib.objectInit ∈ gtb) (w3 : Cond.code Lib.objectInit ⟨#[0xb1]⟩ 1 none ∈ gtb) (hf : 1 ≤ fr) (hlo : 20 ≤ lo) : SdK G l own cc nL fr lo n0 z0 N Z pc (k_obj (pc + 3)) := by
  intro p e s m args below meth c hC r k ls st h0 z H locs la hl hs hw hn hz hi hk
  obtain ⟨hx, hb, hml, hown, hts, hlk, hrt, hK, hmn, hG, hX⟩ := hC
  unfold k_obj at hi
  split at hi
  · rename_i t1 c1 st'
    split at hi
    · rename_i hle
      have h4 := Nat.le_of_ble_eq_true hle
      have hcs := catsum (st'.map (cv G))
      rw [List.length_map] at hcs
      refine W.objInit (a := ad G t1 c1) (rest := st'.map (cv G)) hx hb hown (hts _ w1) (hts _ w2) (hts _ w3) rfl (by rw [hml]; exact hl.1) rfl hd hf (by show 2 * 0 + _ + 12 ≤ lo; omega) ?_
      exact hk (pc + 3) ls st' h0 z H locs la hl (stK_cons.mp hs).2 hw hn hz hi
    · exact nnK hi
  · exact nnK hi
theorem ks_newr {t idx : Nat} {C : String} (hd : decode cc pc = .ok (.anewarray idx, 3)) (ht : 24 ≤ t ∧ t < 30) (hcl : Cond.classLink own idx C ∈ gtb) (het : et t = .object C) (hao : ∀ U, XW G U → va_AO C U) : SdK G l own cc nL fr lo n0 z0 N Z pc (k_newa (pc + 3) t N Z) := by
  intro p e s m args below meth c hC r k ls st h0 z H locs la hl hs hw hn hz hi hk
  obtain ⟨hx, hb, hml, hown, hts, hlk, hrt, hK, hmn, hG, hX⟩ := hC
  rcases st with _ | ⟨x | x | _ | ⟨t1, c1⟩, st⟩
  all_goals first | exact nnK hi | skip
  by_cases q : h0.length + 1 ≤ N ∧ z + x.toNat ≤ Z ∧ 0 ≤ x ∧ x ≤ 100000
  · have hi2 : k (pc + 3) ls (vR t h0.length :: st) (rs (h0 ++ [.inr (t, x.toNat, [])]) (z + x.toNat)) = some r := by rw [rs_app]; exact (if_pos q).symm.trans hi
    obtain ⟨y1, y2⟩ := q32_nat q.2.2
    refine W.anew (n := q32 x) hx hb hown (hts _ hcl) (va_AO.use (hao s hX)) rfl hd rfl y1 (by rw [y2]; omega) (show _ ≤ N - n0 by omega) (show _ ≤ Z - z0 by rw [y2]; omega) fun cA kA comp f1 f2 f3 f4 => ?_
    have hcA : cA = G.2.1 t := by
      have h1 := (hK.2 (t - 20) _ (tys_get (by omega) ht.2)).2
      rw [het] at h1
      obtain ⟨-, -, -, -, -, h2⟩ := h1
      exact Option.some.inj (f1.symm.trans h2)
    have hHs := hw.2.2
    have hwk : WoK G s (h0 ++ [.inr (t, x.toNat, [])]) (H.push { cls := cA, slots := Array.replicate (q32 x).toNatClampNeg .null, vm := .none }) locs := wk_push hw (by omega) (by rw [Array.size_push, hHs]) (fun q1 hq1 => by rw [Array.getElem?_push, if_neg (by omega)]) (by
      rw [kE_ref ht.1]
      show _ = some (vp_cell _ _)
      rw [vp_cell_q, Array.getElem?_push, if_pos hHs.symm, y2, arrV_new, hcA]
      rfl)
    have := hk (pc + 3) ls (vR t h0.length :: st) _ (z + x.toNat) _ locs la hl (stK_cons.mpr ⟨trivial, (stK_cons.mp hs).2⟩) hwk (by rw [List.length_append]; omega) (by omega) hi2
    rw [List.length_append, show h0.length + [(.inr (t, x.toNat, []) : KC)].length - n0 = h0.length - n0 + 1 by simp; omega, show z + x.toNat - z0 = z - z0 + x.toNat by omega] at this
    have ea : cv G (vR t h0.length) = .ref H.size := by show Value.ref (ad G t h0.length) = _; rw [ad_lt (by omega), hHs]
    rw [List.map_cons, ea] at this
    rw [y2] at this ⊢
    exact this
  · exact nnK ((if_neg q).symm.trans hi)
def k_max (n N Z : Nat) : KI := fun ls st h k => match st with
  | .inl y :: .inl x :: st => if Nat.ble st.length 4 = true ∧ h.2.1 ≤ N ∧ h.2.2 ≤ Z then k n ls (.inl (mMax x y) :: st) h else none
  | _ => none
theorem ks_max {idx : Nat} (hd : decode cc pc = .ok (.invokestatic idx, 3)) (w1 : Cond.methodLink own idx Lib.Math.max.name ∈ gtb) (w2 : Cond.static Lib.Math.max.name ∈ gtb) (w3 : Cond.initialized "java/lang/Math" ∈ gtb) (w4 : Cond.code Lib.Math.max.name Lib.Math.max.code 2 (some .int) ∈ gtb) (hf : 1 ≤ fr) (hlo : 21 ≤ lo) : SdK G l own cc nL fr lo n0 z0 N Z pc (k_max (pc + 3) N Z) := by
  intro p e s m args below meth c hC r k ls st h0 z H locs la hl hs hw hn hz hi hk
  obtain ⟨hx, hb, hml, hown, hts, hlk, hrt, hK, hmn, hG, hX⟩ := hC
  unfold k_max at hi
  split at hi
  · rename_i y x st'
    split at hi
    · rename_i hle
      obtain ⟨q1, q2, q3⟩ := hle
      have h4 := Nat.le_of_ble_eq_true q1
      have hcs := catsum (st'.map (cv G))
      rw [List.length_map] at hcs
      obtain ⟨s1, s2⟩ := stK_cons.mp hs
      obtain ⟨s3, s4⟩ := stK_cons.mp s2
      have q4 : h0.length ≤ N := q2
      have q5 : z ≤ Z := q3
      refine va_mmax hx hb (by rw [hml]; exact hl.1.symm) hown (hts _ w1) (hts _ w2) (hts _ w3) (hts _ w4) hf (show _ + 13 ≤ lo by omega) (show _ ≤ N - n0 by omega) (show _ ≤ Z - z0 by omega) hd ?_
      have e1 : (if q32 x < q32 y then q32 y else q32 x) = q32 (mMax x y) := by
        unfold mMax
        simp only [q32_lt s3 s1]
        split <;> rfl
      rw [e1]
      exact hk (pc + 3) ls (.inl (mMax x y) :: st') h0 z H locs la hl (stK_cons.mpr ⟨(by show in32 _; unfold mMax; split <;> assumption), s4⟩) hw hn hz hi
    · exact nnK hi
  · exact nnK hi
end SNK3
