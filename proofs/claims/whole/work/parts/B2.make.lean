/-! the building machine: soundness of what makes cells and fills them -/
def dfl (t : FieldType) : AV := match t with
  | .object _ => vN
  | .array _ => vN
  | _ => vI 0
def dok (t : FieldType) : Bool := match t with
  | .object _ => true
  | .array _ => true
  | .int => true
  | .boolean => true
  | _ => false
theorem cv_dfl {G : Wp} {t : FieldType} (h : dok t = true) : cv G (dfl t) = defaultValue t := by
  cases t <;> first | (cases h; done) | rfl | (show Value.int (q32 0) = Value.int 0; rw [q32_0])
def k_new (n ci nf : Nat) (fs0 : List AV) (N Z : Nat) : KI := fun ls st h k => if h.2.1 + 1 ≤ N ∧ h.2.2 + nf ≤ Z then k n ls (vR ci h.2.1 :: st) (.inl (ci, fs0) :: h.1, h.2.1 + 1, h.2.2 + nf) else none
def k_newa (n t : Nat) (N Z : Nat) : KI := fun ls st h k => match st with
  | .inl x :: st => if h.2.1 + 1 ≤ N ∧ h.2.2 + x.toNat ≤ Z ∧ 0 ≤ x ∧ x ≤ 100000 then k n ls (vR t h.2.1 :: st) (.inr (t, x.toNat, []) :: h.1, h.2.1 + 1, h.2.2 + x.toNat) else none
  | _ => none
def k_get (n ci f : Nat) : KI := fun ls st h k => match st with
  | .inr (.inr (some (t, c))) :: st => if t = ci then (match gtR h c with
    | some (.inl (t', fs)) => if t' = ci then (match fs[f]? with
      | some (.inr (.inr (some v))) => k n ls (.inr (.inr (some v)) :: st) h
      | _ => none) else none
    | _ => none) else none
  | _ => none
def k_put (n ci f : Nat) (chk : AV → Bool) : KI := fun ls st h k => match st with
  | v :: .inr (.inr (some (t, c))) :: st => if t = ci ∧ chk v = true then (match gtR h c with
    | some (.inl (t', fs)) => if t' = ci ∧ f < fs.length then k n ls st (stR h c (.inl (t', fs.set f v))) else none
    | _ => none) else none
  | _ => none
def isI (v : AV) : Bool := match v with
  | .inl _ => true
  | _ => false
def isR (v : AV) : Bool := match v with
  | .inr (.inr (some (t, _))) => Nat.blt t 30
  | _ => false
def k_iast (n : Nat) : KI := fun ls st h k => match st with
  | .inl x :: .inl i :: .inr (.inr (some (t, c))) :: st => if t = 20 ∧ 0 ≤ i then (match gtR h c with
    | some (.inr (t', m, ws)) => if t' = 20 ∧ i < (m : Int) ∧ m ≤ 100000 then k n ls st (stR h c (.inr (t', m, (i.toNat, x) :: ws))) else none
    | _ => none) else none
  | _ => none
def k_aast (n tA ci : Nat) : KI := fun ls st h k => match st with
  | .inr (.inr (some (t1, d))) :: .inl i :: .inr (.inr (some (t, c))) :: st => if t = tA ∧ t1 = ci ∧ 0 ≤ i then (match gtR h c, gtR h d with
    | some (.inr (t', m, ws)), some (.inl (t2, _)) => if t' = tA ∧ t2 = ci ∧ i < (m : Int) ∧ m ≤ 100000 then k n ls st (stR h c (.inr (t', m, (i.toNat, (d : Int)) :: ws))) else none
    | _, _ => none) else none
  | _ => none
def k_obj (n : Nat) : KI := fun ls st h k => match st with
  | .inr (.inr (some (t, c))) :: st => if Nat.ble st.length 4 = true then k n ls st h else none
  | _ => none
def k_ret (N Z : Nat) : KI := fun _ st h _ => match st with
  | [] => if h.2.1 = N ∧ h.2.2 = Z then some h else none
  | _ => none
theorem q32_nat {x : Int} (h : 0 ≤ x ∧ x ≤ 100000) : ¬ q32 x < 0 ∧ (q32 x).toNatClampNeg = x.toNat := by
  have hi : in32 x := by unfold in32; omega
  refine ⟨fun q => ?_, q32_clamp h.1 hi⟩
  rw [← q32_0, q32_lt hi (by unfold in32; omega)] at q
  omega
section SNK2
variable {G : Wp} {l : Launch} {own : String} {cc : ByteArray} {nL fr lo n0 z0 N Z : Nat} {pc : Nat}
theorem wk_push {s : State} {h : List KC} {H H1 : Heap} {locs : List Loc} {x : KC} (hw : WoK G s h H locs) (hG : G.1 ≤ s.heap.size) (z1 : H1.size = G.1 + h.length + 1) (o1 : ∀ q, q < G.1 + h.length → H1[q]? = H[q]?) (hx : va_at G.2.2.1 vwCl (G.1 + h.length, kE G x) H1) : WoK G s (h ++ [x]) H1 locs := by
  obtain ⟨hP, hS, hz⟩ := hw
  have hk : ∀ (k : Nat) (q : Nat × va_E), (pK G 0 h)[k]? = some q → H1[q.1]? = H[q.1]? := fun k q hq => by
    have := pK_at hq
    exact o1 q.1 (by omega)
  refine ⟨?_, ⟨by have := hS.1; omega, fun q h1 h2 => ?_, hS.2.2⟩, by rw [z1, List.length_append]; rfl⟩
  · rw [pK_app]
    refine (hP.kept hk).app (fun k q hq => ?_)
    have hz : k < 1 := (List.getElem?_eq_some_iff.mp hq).1
    rw [show k = 0 by omega] at hq
    cases hq
    rw [Nat.zero_add]
    exact hx
  · have := hS.1
    rw [o1 q (by omega)]
    exact hS.2.1 q h1 h2
theorem wk_set {s : State} {h : List KC} {H H1 : Heap} {locs locs1 : List Loc} {c : Nat} {x : KC} (hw : WoK G s h H locs) (hP1 : va_P G.2.2.1 vwCl ((pK G 0 h).set c (G.1 + c, kE G x)) H1) (hS1 : va_S (Af G) s.heap H1 locs1) (hz : H1.size = H.size) : WoK G s (h.set c x) H1 locs1 := by
  have e := pK_set (G := G) h 0 c x
  rw [Nat.zero_add] at e
  rw [e] at hP1
  exact ⟨hP1, hS1, by rw [hz, hw.2.2, List.length_set]⟩
theorem ks_ret (hd : decode cc pc = .ok (.return_, 1)) : SdK G l own cc nL fr lo n0 z0 N Z pc (k_ret N Z) := by
  intro p e s m args below meth c hC r k ls st h0 z H locs la hl hs hw hn hz hi hk
  obtain ⟨hx, hb, hml, hown, hts, hlk, hrt, hK, hnm, hG, hX⟩ := hC
  rcases st with _ | ⟨x, st⟩
  · by_cases q : h0.length = N ∧ z = Z
    · have hi2 : some (rs h0 z) = some r := (if_pos q).symm.trans hi
      cases hi2
      obtain ⟨q1, q2⟩ := q
      subst q1; subst q2
      refine W.vret hx hb hrt (fun t ht _ => ?_) (fun q hq => hw.2.1.2.2 q hq) hd hlk
      exact ⟨rfl, (List.length_reverse).symm, by rw [ht]; show va_P G.2.2.1 vwCl (pK G 0 h0.reverse.reverse) H; rw [List.reverse_reverse]; exact hw.1, by rw [ht]; exact hw.2.2, by rw [ht]; exact hw.2.1.1, fun q h1 h2 => by rw [ht]; exact hw.2.1.2.1 q h1 h2⟩
    · exact nnK ((if_neg q).symm.trans hi)
  · exact nnK hi
theorem ks_new {ci idx NF : Nat} {C : String} {T : u_T} {fs0 : List AV} (hd : decode cc pc = .ok (.new idx, 3)) (hc : vwCl[ci]? = some (C, T, NF)) (hin : ∀ w ∈ u_ws C T NF, w ∈ gtb) (ty : Nat → FieldType) (hty : ∀ k, k < NF → parseFieldDescriptor (T k).2.2.1 = some (ty k)) (hok : ∀ k, k < NF → dok (ty k) = true) (hcl : Cond.classLink own idx C ∈ gtb) (hinst : Cond.instantiable C NF ∈ gtb) (hini : Cond.initialized C ∈ gtb) (hfs : fs0 = (List.range NF).map (fun j => dfl (ty j))) (h20 : ci < 20) : SdK G l own cc nL fr lo n0 z0 N Z pc (k_new (pc + 3) ci NF fs0 N Z) := by
  intro p e s m args below meth c hC r k ls st h0 z H locs la hl hs hw hn hz hi hk
  obtain ⟨hx, hb, hml, hown, hts, hlk, hrt, hK, hnm, hG, hX⟩ := hC
  by_cases q : h0.length + 1 ≤ N ∧ z + NF ≤ Z
  · have hi2 : k (pc + 3) ls (vR ci h0.length :: st) (rs (h0 ++ [.inl (ci, fs0)]) (z + NF)) = some r := by rw [rs_app]; exact (if_pos q).symm.trans hi
    have hKn := hK.1 ci _ hc
    refine W.newcK hx hb hown (hts _ hcl) (hts _ hinst) (hts _ hini) rfl hd (show _ ≤ N - n0 by omega) (show _ ≤ Z - z0 by omega) hKn.2.1 hw.2.2 fun H1 kC hkC e1 z1 o1 => ?_
    have hwk : WoK G s (h0 ++ [.inl (ci, fs0)]) H1 locs := wk_push hw (by omega) z1 o1 ⟨_, hc, (u_born ty hts hin hKn hkC e1 hty).to (fun j hj => by
      rw [hfs]
      unfold vp_V
      rw [List.getD_eq_getElem?_getD, List.getElem?_map, List.getElem?_map, List.getElem?_range hj]
      show defaultValue (ty j) = cv G (dfl (ty j))
      rw [cv_dfl (hok j hj)])⟩
    have := hk (pc + 3) ls (vR ci h0.length :: st) _ (z + NF) H1 locs la hl (stK_cons.mpr ⟨trivial, hs⟩) hwk (by rw [List.length_append]; omega) (by omega) hi2
    rw [List.length_append, show h0.length + [(.inl (ci, fs0) : KC)].length - n0 = h0.length - n0 + 1 by simp; omega, show z + NF - z0 = z - z0 + NF by omega] at this
    have ea : cv G (vR ci h0.length) = .ref (G.1 + h0.length) := by show Value.ref (ad G ci h0.length) = _; rw [ad_lt (by omega)]
    rw [List.map_cons, ea] at this
    exact this
  · exact nnK ((if_neg q).symm.trans hi)
theorem ks_newa {t : Nat} {atype : ArrayType} (hd : decode cc pc = .ok (.newarray atype, 2)) (ht : 20 ≤ t ∧ t < 24) (harr : Cond.arrayClass (newarray.typeOf atype) ∈ gtb) (hty : newarray.typeOf atype = et t) (hdf : defaultValue (et t) = .int 0) (hcb : componentBytes (et t) ≤ 8) (hra : ∀ (U : State) (cA : ClassId), va_RA U cA (et t) → U.vm.findClass ("[" ++ (et t).toString) = some cA) : SdK G l own cc nL fr lo n0 z0 N Z pc (k_newa (pc + 2) t N Z) := by
  intro p e s m args below meth c hC r k ls st h0 z H locs la hl hs hw hn hz hi hk
  obtain ⟨hx, hb, hml, hown, hts, hlk, hrt, hK, hnm, hG, hX⟩ := hC
  rcases st with _ | ⟨x | x | _ | ⟨t1, c1⟩, st⟩
  all_goals first | exact nnK hi | skip
  by_cases q : h0.length + 1 ≤ N ∧ z + x.toNat ≤ Z ∧ 0 ≤ x ∧ x ≤ 100000
  · have hi2 : k (pc + 2) ls (vR t h0.length :: st) (rs (h0 ++ [.inr (t, x.toNat, [])]) (z + x.toNat)) = some r := by rw [rs_app]; exact (if_pos q).symm.trans hi
    obtain ⟨y1, y2⟩ := q32_nat q.2.2
    refine va_newaK (n := q32 x) (N := x.toNat) hx hb (hts _ harr) rfl hd rfl y1 y2 (by
      rw [hty]
      have : x.toNat * componentBytes (et t) ≤ 100000 * 8 := Nat.mul_le_mul (by omega) hcb
      omega) (show _ ≤ N - n0 by omega) (show _ ≤ Z - z0 by omega) hw.2.2 fun H1 cA e1 z1 o1 hAr hNm => ?_
    rw [hty] at hNm e1
    have hcA : cA = G.2.1 t := by
      have h1 := hra s _ (hK.2 (t - 20) _ (tys_get (by omega) (by omega))).2
      exact Option.some.inj (hNm.symm.trans h1)
    have hwk : WoK G s (h0 ++ [.inr (t, x.toNat, [])]) H1 locs := wk_push hw (by omega) z1 o1 (by
      show va_at G.2.2.1 vwCl (G.1 + h0.length, if t < 24 then _ else _) H1
      rw [if_pos ht.2]
      show H1[G.1 + h0.length]? = some (vp_cell _ _)
      rw [e1, vp_cell_i, hdf, hcA]
      rfl)
    have := hk (pc + 2) ls (vR t h0.length :: st) _ (z + x.toNat) H1 locs la hl (stK_cons.mpr ⟨trivial, (stK_cons.mp hs).2⟩) hwk (by rw [List.length_append]; omega) (by omega) hi2
    rw [List.length_append, show h0.length + [(.inr (t, x.toNat, []) : KC)].length - n0 = h0.length - n0 + 1 by simp; omega, show z + x.toNat - z0 = z - z0 + x.toNat by omega] at this
    have ea : cv G (vR t h0.length) = .ref (G.1 + h0.length) := by show Value.ref (ad G t h0.length) = _; rw [ad_lt (by omega)]
    rw [List.map_cons, ea] at this
    exact this
  · exact nnK ((if_neg q).symm.trans hi)
end SNK2
