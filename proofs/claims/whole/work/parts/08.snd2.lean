/-! SOUNDNESS of fields, rows, switches, calls -/
theorem swt_in {x : Int} {d t : Nat} {K : Nat → Option Rs} : ∀ {ts : List Nat} {v : Int} {j : Nat}, x = v + (j : Int) → ts[j]? = some t → swt x d K v ts = K t
  | [], _, _, _, h => by cases h
  | a :: ts, v, 0, e, h => by
    have e2 : x = v := by simpa using e
    cases h
    exact if_pos e2
  | a :: ts, v, j + 1, e, h => by
    have e2 : ¬ x = v := by omega
    show (if x = v then K a else swt x d K (v + 1) ts) = K t
    rw [if_neg e2]
    exact swt_in (v := v + 1) (j := j) (by omega) (by simpa using h)
theorem swt_out {x : Int} {d : Nat} {K : Nat → Option Rs} : ∀ {ts : List Nat} {v : Int}, (x < v ∨ v + (ts.length : Int) ≤ x) → swt x d K v ts = K d
  | [], _, _ => rfl
  | a :: ts, v, h => by
    simp only [List.length_cons] at h
    show (if x = v then K a else swt x d K (v + 1) ts) = K d
    rw [if_neg (by omega)]
    exact swt_out (by omega)
theorem cell_obj {L : Lo} {G : Wp} {μ : Mem} {c ci NF : Nat} {C : String} {T : u_T} (hc : vwCl[ci]? = some (C, T, NF)) (h20 : ci < 20) (ht : L.2.1 c = ci) : cellE L G μ c = .inr (ci, (List.range NF).map (fV L G μ c)) := by
  have e : nfC ci = NF := by unfold nfC; rw [hc]
  unfold cellE
  rw [ht, if_pos h20, e]
theorem cell_num {L : Lo} {G : Wp} {μ : Mem} {c t : Nat} (h1 : ¬ t < 20) (h2 : t < 24) (ht : L.2.1 c = t) : cellE L G μ c = .inl (G.2.1 t, L.2.2.1 c, .inl (fun i => q32 (μ c i))) := by
  unfold cellE
  rw [ht, if_neg h1, if_pos h2]
theorem cell_ref {L : Lo} {G : Wp} {μ : Mem} {c t : Nat} (h1 : ¬ t < 20) (h2 : ¬ t < 24) (ht : L.2.1 c = t) : cellE L G μ c = .inl (G.2.1 t, L.2.2.1 c, .inr (.inr (.inr (.inr (rA L G c))))) := by
  unfold cellE
  rw [ht, if_neg h1, if_neg h2]
theorem fs_get {L : Lo} {G : Wp} {μ : Mem} {c NF f : Nat} (h : f < NF) : ((List.range NF).map (fV L G μ c))[f]? = some (fV L G μ c f) := by simp [h]
theorem fV_ne {L : Lo} {G : Wp} {μ : Mem} {c f k : Nat} {x : Int} (h : k ≠ f) : fV L G (up μ c f x) c k = fV L G μ c k := by unfold fV; rw [up_slot h]
theorem fs_set {L : Lo} {G : Wp} {μ : Mem} {c NF f : Nat} {x : Int} {v : Value} (hv : fV L G (up μ c f x) c f = v) : ((List.range NF).map (fV L G μ c)).set f v = (List.range NF).map (fV L G (up μ c f x) c) := by
  apply List.ext_getElem?
  intro k
  rw [List.getElem?_set]
  by_cases hk : f = k
  · subst hk
    rw [if_pos rfl]
    by_cases hl : f < NF
    · rw [if_pos (by simpa using hl), fs_get hl, hv]
    · rw [if_neg (by simpa using hl), List.getElem?_eq_none (by simpa using hl)]
  · rw [if_neg hk]
    by_cases hl : k < NF
    · rw [fs_get hl, fs_get hl, fV_ne (fun q => hk q.symm)]
    · rw [List.getElem?_eq_none (by simpa using hl), List.getElem?_eq_none (by simpa using hl)]
theorem tys_get {G : Wp} {t : Nat} (h1 : 20 ≤ t) (h2 : t < 30) : (tysL G)[t - 20]? = some (G.2.1 t, et t) := by
  have e : 20 + (t - 20) = t := by omega
  simp [tysL, show t - 20 < 10 by omega, e]
theorem gIn {ws : List Cond} (h : ∀ w ∈ ws, w ∈ gtb) : GoodIn gtb ws := fun w hw => ⟨h w hw, good_of_word (List.mem_filter.mp (h w hw)).2⟩
theorem upd_q {μ : Mem} {c i : Nat} {v : Int} : (fun j => q32 (up μ c i v c j)) = upd (fun j => q32 (μ c j)) i (q32 v) := by
  funext j
  unfold upd up
  by_cases h : j = i
  · rw [if_pos h, if_pos ⟨rfl, h⟩]
  · rw [if_neg h, if_neg (fun q => h q.2)]
section SND2
variable {L : Lo} {G : Wp} {l : Launch} {own : String} {cc : ByteArray} {nL : Nat} {ret : Option FieldType} {R : Room} {pc : Nat}
theorem s_switch {dflt lo hhi : Int} {offs : Array Int} {len d : Nat} {ts : List Nat} (hd : decode cc pc = .ok (.tableswitch dflt lo hhi offs, len)) (h1 : (pc : Int) + dflt = (d : Int)) (h2 : offs.toList.map (fun o => (pc : Int) + o) = ts.map (fun t : Nat => (t : Int))) (h3 : lo + (ts.length : Int) = hhi + 1) : Snd L G l own cc nL ret R pc (i_switch d lo ts) := by
  intro p e s m args below meth c hC r k ls st μ H locs la hl hs hw hi hk
  obtain ⟨hx, hb, hml, hown, hts, hlk, hrt, hK, hZ, hN⟩ := hC
  rcases st with _ | ⟨x | x | _ | ⟨t1, c1⟩, st⟩
  all_goals first | exact nn hi | skip
  obtain ⟨h4, h5⟩ := stOk_cons.mp hs
  have hi2 : swt x d (fun t => k t ls st μ) lo ts = some r := hi
  have ex : (q32 x).toInt = x := q32_t h4
  by_cases ho : x < lo ∨ hhi < x
  · rw [swt_out (by omega)] at hi2
    refine lv_tableOut hx hb hd (by rw [ex]; exact ho) h1 ?_
    exact hk d ls st μ H locs la hl h5 hw hi2
  · have hj : (x - lo).toNat < ts.length := by omega
    have e1 := congrArg (fun l => l[(x - lo).toNat]?) h2
    simp only [List.getElem?_map, List.getElem?_eq_getElem hj, Option.map_some] at e1
    obtain ⟨off, ho1, ho2⟩ : ∃ off, offs[(x - lo).toNat]? = some off ∧ (pc : Int) + off = ((ts[(x - lo).toNat] : Nat) : Int) := by
      rw [Array.getElem?_toList] at e1
      cases hq : offs[(x - lo).toNat]? with
      | none => rw [hq] at e1; cases e1
      | some off => rw [hq] at e1; exact ⟨off, rfl, Option.some.inj e1⟩
    rw [swt_in (j := (x - lo).toNat) (t := ts[(x - lo).toNat]) (by omega) (List.getElem?_eq_getElem hj)] at hi2
    refine lv_tableIn (off := off) (tgt := ts[(x - lo).toNat]) hx hb hd (by rw [ex]; omega) (by rw [ex]; omega) (by rw [ex]; exact ho1) ho2 ?_
    exact hk _ ls st μ H locs la hl h5 hw hi2
theorem s_getI {ci f idx NF : Nat} {C : String} {T : u_T} (hd : decode cc pc = .ok (.getfield idx, 3)) (hc : vwCl[ci]? = some (C, T, NF)) (h20 : ci < 20) (hin : ∀ w ∈ u_ws C T NF, w ∈ gtb) (hf : f < NF) (hlk2 : Cond.fieldLink own idx (T f).1 (T f).2.1 (T f).2.2.1 ∈ gtb) (hint : ∀ c, c < L.1 → L.2.1 c = ci → L.2.2.2 c f = none) : Snd L G l own cc nL ret R pc (i_getI (pc + 3) ci f) := by
  intro p e s m args below meth c hC r k ls st μ H locs la hl hs hw hi hk
  obtain ⟨hx, hb, hml, hown, hts, hlk, hrt, hK, hZ, hN⟩ := hC
  rcases st with _ | ⟨x | x | _ | ⟨t1, c1⟩, st⟩
  all_goals first | exact nn hi | skip
  obtain ⟨h1, h2⟩ := stOk_cons.mp hs
  by_cases et1 : t1 = ci
  · subst et1
    obtain ⟨h3, h4⟩ := okR_cell h1 (by omega)
    have hi2 : k (pc + 3) ls (.inl (μ c1 f) :: st) μ = some r := (if_pos rfl).symm.trans hi
    have hfv : fV L G μ c1 f = .int (q32 (μ c1 f)) := by unfold fV; rw [hint c1 h3 h4]
    have ea : ad G t1 c1 = G.1 + c1 := ad_lt (by omega)
    show W p l e R s m args below meth c H locs 0 0 _ (F0 m pc la (.ref (ad G t1 c1) :: st.map (cv G)))
    rw [ea]
    refine va_get (v := .int (q32 (μ c1 f))) hx hb hts hin hown hK hw.1 c1 ((pic_get h3).trans (by rw [cell_obj hc h20 h4])) hc f hf (hts _ hlk2) (fun _ q => q) ((fs_get hf).trans (congrArg some hfv)) hd ?_
    exact hk (pc + 3) ls (.inl (μ c1 f) :: st) μ H locs la hl (stOk_cons.mpr ⟨hw.2.2.1 c1 f, h2⟩) hw hi2
  · exact nn ((if_neg et1).symm.trans hi)
theorem s_getR {ci f idx NF : Nat} {C : String} {T : u_T} {t2 : Nat} {g : Nat → Nat} (hd : decode cc pc = .ok (.getfield idx, 3)) (hc : vwCl[ci]? = some (C, T, NF)) (h20 : ci < 20) (hin : ∀ w ∈ u_ws C T NF, w ∈ gtb) (hf : f < NF) (hlk2 : Cond.fieldLink own idx (T f).1 (T f).2.1 (T f).2.2.1 ∈ gtb) (hR : ∀ c, c < L.1 → L.2.1 c = ci → L.2.2.2 c f = some (some (g c)) ∧ g c < L.1 ∧ L.2.1 (g c) = t2) (ht2 : t2 < 30) : Snd L G l own cc nL ret R pc (i_getR (pc + 3) ci t2 g) := by
  intro p e s m args below meth c hC r k ls st μ H locs la hl hs hw hi hk
  obtain ⟨hx, hb, hml, hown, hts, hlk, hrt, hK, hZ, hN⟩ := hC
  rcases st with _ | ⟨x | x | _ | ⟨t1, c1⟩, st⟩
  all_goals first | exact nn hi | skip
  obtain ⟨h1, h2⟩ := stOk_cons.mp hs
  by_cases et1 : t1 = ci
  · subst et1
    obtain ⟨h3, h4⟩ := okR_cell h1 (by omega)
    have hi2 : k (pc + 3) ls (.inr (.inr (some (t2, g c1))) :: st) μ = some r := (if_pos rfl).symm.trans hi
    obtain ⟨g1, g2, g3⟩ := hR c1 h3 h4
    have hfv : fV L G μ c1 f = .ref (ad G t2 (g c1)) := by unfold fV; rw [g1, ad_lt ht2]
    have ea : ad G t1 c1 = G.1 + c1 := ad_lt (by omega)
    show W p l e R s m args below meth c H locs 0 0 _ (F0 m pc la (.ref (ad G t1 c1) :: st.map (cv G)))
    rw [ea]
    refine va_get (v := .ref (ad G t2 (g c1))) hx hb hts hin hown hK hw.1 c1 ((pic_get h3).trans (by rw [cell_obj hc h20 h4])) hc f hf (hts _ hlk2) (fun _ q => q) ((fs_get hf).trans (congrArg some hfv)) hd ?_
    exact hk (pc + 3) ls (.inr (.inr (some (t2, g c1))) :: st) μ H locs la hl (stOk_cons.mpr ⟨Or.inl ⟨g2, g3, ht2⟩, h2⟩) hw hi2
  · exact nn ((if_neg et1).symm.trans hi)
theorem s_getM {ci f idx NF : Nat} {C : String} {T : u_T} (hd : decode cc pc = .ok (.getfield idx, 3)) (hc : vwCl[ci]? = some (C, T, NF)) (h20 : ci < 20) (hin : ∀ w ∈ u_ws C T NF, w ∈ gtb) (hf : f < NF) (hlk2 : Cond.fieldLink own idx (T f).1 (T f).2.1 (T f).2.2.1 ∈ gtb) (hM : ∀ c, c < L.1 → L.2.1 c = ci → L.2.2.2 c f = some none) : Snd L G l own cc nL ret R pc (i_getM (pc + 3) ci f 8) := by
  intro p e s m args below meth c hC r k ls st μ H locs la hl hs hw hi hk
  obtain ⟨hx, hb, hml, hown, hts, hlk, hrt, hK, hZ, hN⟩ := hC
  rcases st with _ | ⟨x | x | _ | ⟨t1, c1⟩, st⟩
  all_goals first | exact nn hi | skip
  obtain ⟨h1, h2⟩ := stOk_cons.mp hs
  by_cases et1 : t1 = ci
  · subst et1
    obtain ⟨h3, h4⟩ := okR_cell h1 (by omega)
    have hi2 : k (pc + 3) ls (.inr (.inr (some (8, (μ c1 f).toNat))) :: st) μ = some r := (if_pos rfl).symm.trans hi
    obtain ⟨g2, g3⟩ := hw.2.2.2 c1 f (hM c1 h3 h4)
    have hfv : fV L G μ c1 f = .ref (ad G 8 (μ c1 f).toNat) := by unfold fV; rw [hM c1 h3 h4, ad_lt (by omega)]
    have ea : ad G t1 c1 = G.1 + c1 := ad_lt (by omega)
    show W p l e R s m args below meth c H locs 0 0 _ (F0 m pc la (.ref (ad G t1 c1) :: st.map (cv G)))
    rw [ea]
    refine va_get (v := .ref (ad G 8 (μ c1 f).toNat)) hx hb hts hin hown hK hw.1 c1 ((pic_get h3).trans (by rw [cell_obj hc h20 h4])) hc f hf (hts _ hlk2) (fun _ q => q) ((fs_get hf).trans (congrArg some hfv)) hd ?_
    exact hk (pc + 3) ls (.inr (.inr (some (8, (μ c1 f).toNat))) :: st) μ H locs la hl (stOk_cons.mpr ⟨Or.inl ⟨g2, g3, by omega⟩, h2⟩) hw hi2
  · exact nn ((if_neg et1).symm.trans hi)
theorem s_putI {ci f idx NF : Nat} {C : String} {T : u_T} (hd : decode cc pc = .ok (.putfield idx, 3)) (hc : vwCl[ci]? = some (C, T, NF)) (h20 : ci < 20) (hin : ∀ w ∈ u_ws C T NF, w ∈ gtb) (hf : f < NF) (hlk2 : Cond.fieldLink own idx (T f).1 (T f).2.1 (T f).2.2.1 ∈ gtb) (ty0 : Nat → FieldType) (hty : ∀ k, k < NF → parseFieldDescriptor (T k).2.2.1 = some (ty0 k)) (hnm : ∀ a, a < NF → ∀ b, b < NF → a ≠ b → (T a).2.1 ≠ (T b).2.1) (hfin : (T f).2.2.2 = false) (hpd : parseFieldDescriptor (T f).2.2.1 = some .int) (hint : ∀ c, c < L.1 → L.2.1 c = ci → L.2.2.2 c f = none) : Snd L G l own cc nL ret R pc (i_putI (pc + 3) ci f) := by
  intro p e s m args below meth c hC r k ls st μ H locs la hl hs hw hi hk
  obtain ⟨hx, hb, hml, hown, hts, hlk, hrt, hK, hZ, hN⟩ := hC
  rcases st with _ | ⟨y | y | _ | ⟨t1, c1⟩, _ | ⟨x | x | _ | ⟨t2, c2⟩, st⟩⟩
  all_goals first | exact nn hi | skip
  obtain ⟨h1, h2⟩ := stOk_cons.mp hs
  obtain ⟨h3, h4⟩ := stOk_cons.mp h2
  by_cases et1 : t2 = ci
  · subst et1
    have hi2 : k (pc + 3) ls st (up μ c2 f y) = some r := (if_pos rfl).symm.trans hi
    obtain ⟨h5, h6⟩ := okR_cell h3 (by omega)
    have ea : ad G t2 c2 = G.1 + c2 := ad_lt (by omega)
    have hfv : fV L G (up μ c2 f y) c2 f = .int (q32 y) := by unfold fV; rw [hint c2 h5 h6]; rw [up_same]
    show W p l e R s m args below meth c H locs 0 0 _ (F0 m pc la (.int (q32 y) :: .ref (ad G t2 c2) :: st.map (cv G)))
    rw [ea]
    refine va_put (v := .int (q32 y)) hx hb hts hin ty0 hty hnm hown hK hw.1 (pic_D L G μ) hw.2.1 c2 ((pic_get h5).trans (by rw [cell_obj hc h20 h6])) hc f hf (hts _ hlk2) (fun _ q => q) hfin hpd rfl rfl (by simpa using hf) hd (fun H1 locs1 hP1 hD1 hS1 => ?_)
    rw [fs_set hfv, pic_up (cell_obj hc h20 h6).symm] at hP1
    exact hk (pc + 3) ls st _ H1 locs1 la hl h4 ⟨hP1, hS1, okM_up hw.2.2 h1 (fun q => by rw [hint c2 h5 h6] at q; cases q)⟩ hi2
  · exact nn ((if_neg et1).symm.trans hi)
theorem s_putZ {ci f idx NF : Nat} {C : String} {T : u_T} (hd : decode cc pc = .ok (.putfield idx, 3)) (hc : vwCl[ci]? = some (C, T, NF)) (h20 : ci < 20) (hin : ∀ w ∈ u_ws C T NF, w ∈ gtb) (hf : f < NF) (hlk2 : Cond.fieldLink own idx (T f).1 (T f).2.1 (T f).2.2.1 ∈ gtb) (ty0 : Nat → FieldType) (hty : ∀ k, k < NF → parseFieldDescriptor (T k).2.2.1 = some (ty0 k)) (hnm : ∀ a, a < NF → ∀ b, b < NF → a ≠ b → (T a).2.1 ≠ (T b).2.1) (hfin : (T f).2.2.2 = false) (hpd : parseFieldDescriptor (T f).2.2.1 = some .boolean) (hint : ∀ c, c < L.1 → L.2.1 c = ci → L.2.2.2 c f = none) : Snd L G l own cc nL ret R pc (i_putZ (pc + 3) ci f) := by
  intro p e s m args below meth c hC r k ls st μ H locs la hl hs hw hi hk
  obtain ⟨hx, hb, hml, hown, hts, hlk, hrt, hK, hZ, hN⟩ := hC
  rcases st with _ | ⟨y | y | _ | ⟨t1, c1⟩, _ | ⟨x | x | _ | ⟨t2, c2⟩, st⟩⟩
  all_goals first | exact nn hi | skip
  obtain ⟨h1, h2⟩ := stOk_cons.mp hs
  obtain ⟨h3, h4⟩ := stOk_cons.mp h2
  by_cases et1 : t2 = ci
  · subst et1
    have hi1 : (if y = 0 ∨ y = 1 then k (pc + 3) ls st (up μ c2 f y) else none) = some r := (if_pos rfl).symm.trans hi
    by_cases hy : ¬ (y = 0 ∨ y = 1)
    · rw [if_neg hy] at hi1
      exact nn hi1
    replace hy := Decidable.not_not.mp hy
    have hi2 : k (pc + 3) ls st (up μ c2 f y) = some r := (if_pos hy).symm.trans hi1
    obtain ⟨h5, h6⟩ := okR_cell h3 (by omega)
    have ea : ad G t2 c2 = G.1 + c2 := ad_lt (by omega)
    have hfv : fV L G (up μ c2 f y) c2 f = .int (q32 y) := by unfold fV; rw [hint c2 h5 h6]; rw [up_same]
    show W p l e R s m args below meth c H locs 0 0 _ (F0 m pc la (.int (q32 y) :: .ref (ad G t2 c2) :: st.map (cv G)))
    rw [ea]
    refine va_put (v := .int (q32 y)) hx hb hts hin ty0 hty hnm hown hK hw.1 (pic_D L G μ) hw.2.1 c2 ((pic_get h5).trans (by rw [cell_obj hc h20 h6])) hc f hf (hts _ hlk2) (fun _ q => q) hfin hpd (by rcases hy with rfl | rfl <;> decide +kernel) (by rcases hy with rfl | rfl <;> decide +kernel) (by simpa using hf) hd (fun H1 locs1 hP1 hD1 hS1 => ?_)
    rw [fs_set hfv, pic_up (cell_obj hc h20 h6).symm] at hP1
    exact hk (pc + 3) ls st _ H1 locs1 la hl h4 ⟨hP1, hS1, okM_up hw.2.2 h1 (fun q => by rw [hint c2 h5 h6] at q; cases q)⟩ hi2
  · exact nn ((if_neg et1).symm.trans hi)
theorem s_putM {ci f idx NF : Nat} {C : String} {T : u_T} {tn : String} (hd : decode cc pc = .ok (.putfield idx, 3)) (hc : vwCl[ci]? = some (C, T, NF)) (h20 : ci < 20) (hin : ∀ w ∈ u_ws C T NF, w ∈ gtb) (hf : f < NF) (hlk2 : Cond.fieldLink own idx (T f).1 (T f).2.1 (T f).2.2.1 ∈ gtb) (ty0 : Nat → FieldType) (hty : ∀ k, k < NF → parseFieldDescriptor (T k).2.2.1 = some (ty0 k)) (hnm : ∀ a, a < NF → ∀ b, b < NF → a ≠ b → (T a).2.1 ≠ (T b).2.1) (hfin : (T f).2.2.2 = false) (hpd : parseFieldDescriptor (T f).2.2.1 = some (.object tn)) (hM : ∀ c, c < L.1 → L.2.1 c = ci → L.2.2.2 c f = some none) : Snd L G l own cc nL ret R pc (i_putM (pc + 3) ci f 8) := by
  intro p e s m args below meth c hC r k ls st μ H locs la hl hs hw hi hk
  obtain ⟨hx, hb, hml, hown, hts, hlk, hrt, hK, hZ, hN⟩ := hC
  rcases st with _ | ⟨y | y | _ | ⟨t1, c1⟩, _ | ⟨x | x | _ | ⟨t2, c2⟩, st⟩⟩
  all_goals first | exact nn hi | skip
  obtain ⟨h1, h2⟩ := stOk_cons.mp hs
  obtain ⟨h3, h4⟩ := stOk_cons.mp h2
  by_cases et1 : ¬ (t2 = ci)
  · exact nn ((if_neg et1).symm.trans hi)
  replace et1 := Decidable.not_not.mp et1
  by_cases et2 : t1 = 8
  · subst et1
    subst et2
    have hi2 : k (pc + 3) ls st (up μ c2 f (c1 : Int)) = some r := (if_pos rfl).symm.trans ((if_pos rfl).symm.trans hi)
    obtain ⟨hd1, hd2⟩ := okR_cell h1 (by omega)
    have hc1 : in32 (c1 : Int) := by unfold in32; omega
    obtain ⟨h5, h6⟩ := okR_cell h3 (by omega)
    have ea : ad G t2 c2 = G.1 + c2 := ad_lt (by omega)
    have hfv : fV L G (up μ c2 f (c1 : Int)) c2 f = .ref (ad G 8 c1) := by unfold fV; rw [hM c2 h5 h6]; rw [up_same, ad_lt (by omega)]; rfl
    show W p l e R s m args below meth c H locs 0 0 _ (F0 m pc la (.ref (ad G 8 c1) :: .ref (ad G t2 c2) :: st.map (cv G)))
    rw [ea]
    refine va_put (v := .ref (ad G 8 c1)) hx hb hts hin ty0 hty hnm hown hK hw.1 (pic_D L G μ) hw.2.1 c2 ((pic_get h5).trans (by rw [cell_obj hc h20 h6])) hc f hf (hts _ hlk2) (fun _ q => q) hfin hpd rfl rfl (by simpa using hf) hd (fun H1 locs1 hP1 hD1 hS1 => ?_)
    rw [fs_set hfv, pic_up (cell_obj hc h20 h6).symm] at hP1
    exact hk (pc + 3) ls st _ H1 locs1 la hl h4 ⟨hP1, hS1, okM_up hw.2.2 hc1 (fun _ => ⟨hd1, hd2⟩)⟩ hi2
  · have hi1 : (if t1 = 8 then k (pc + 3) ls st (up μ c2 f (c1 : Int)) else none) = some r := (if_pos et1).symm.trans hi
    exact nn ((if_neg et2).symm.trans hi1)
theorem s_iald (hd : decode cc pc = .ok (.iaload, 1)) : Snd L G l own cc nL ret R pc (i_ald (pc + 1) 20 L.2.2.1) := by
  intro p e s m args below meth c hC r k ls st μ H locs la hl hs hw hi hk
  obtain ⟨hx, hb, hml, hown, hts, hlk, hrt, hK, hZ, hN⟩ := hC
  rcases st with _ | ⟨y | y | _ | ⟨t1, c1⟩, _ | ⟨x | x | _ | ⟨t2, c2⟩, st⟩⟩
  all_goals first | exact nn hi | skip
  obtain ⟨h1, h2⟩ := stOk_cons.mp hs
  obtain ⟨h3, h4⟩ := stOk_cons.mp h2
  by_cases et1 : ¬ (t2 = 20)
  · exact nn ((if_neg et1).symm.trans hi)
  replace et1 := Decidable.not_not.mp et1
  have hi1 : (if 0 ≤ y ∧ y < (L.2.2.1 c2 : Int) then k (pc + 1) ls (.inl (μ c2 y.toNat) :: st) μ else none) = some r := (if_pos et1).symm.trans hi
  subst et1
  by_cases hy : ¬ (0 ≤ y ∧ y < (L.2.2.1 c2 : Int))
  · rw [if_neg hy] at hi1
    exact nn hi1
  replace hy := Decidable.not_not.mp hy
  rw [if_pos hy] at hi1
  obtain ⟨h5, h6⟩ := okR_cell h3 (by omega)
  have ea : ad G 20 c2 = G.1 + c2 := ad_lt (by omega)
  show W p l e R s m args below meth c H locs 0 0 _ (F0 m pc la (.int (q32 y) :: .ref (ad G 20 c2) :: st.map (cv G)))
  rw [ea]
  refine va_iald hx hb hK hw.1 c2 (20 - 20) ((pic_get h5).trans (by rw [cell_num (by omega) (by omega) h6])) (tys_get (by omega) (by omega)) (q32_vp h1 hy) hd ?_
  rw [q32_clamp hy.1 h1]
  exact hk (pc + 1) ls (.inl (μ c2 y.toNat) :: st) μ H locs la hl (stOk_cons.mpr ⟨hw.2.2.1 _ _, h4⟩) hw hi1
theorem s_bald (hd : decode cc pc = .ok (.baload, 1)) : Snd L G l own cc nL ret R pc (i_ald (pc + 1) 21 L.2.2.1) := by
  intro p e s m args below meth c hC r k ls st μ H locs la hl hs hw hi hk
  obtain ⟨hx, hb, hml, hown, hts, hlk, hrt, hK, hZ, hN⟩ := hC
  rcases st with _ | ⟨y | y | _ | ⟨t1, c1⟩, _ | ⟨x | x | _ | ⟨t2, c2⟩, st⟩⟩
  all_goals first | exact nn hi | skip
  obtain ⟨h1, h2⟩ := stOk_cons.mp hs
  obtain ⟨h3, h4⟩ := stOk_cons.mp h2
  by_cases et1 : ¬ (t2 = 21)
  · exact nn ((if_neg et1).symm.trans hi)
  replace et1 := Decidable.not_not.mp et1
  have hi1 : (if 0 ≤ y ∧ y < (L.2.2.1 c2 : Int) then k (pc + 1) ls (.inl (μ c2 y.toNat) :: st) μ else none) = some r := (if_pos et1).symm.trans hi
  subst et1
  by_cases hy : ¬ (0 ≤ y ∧ y < (L.2.2.1 c2 : Int))
  · rw [if_neg hy] at hi1
    exact nn hi1
  replace hy := Decidable.not_not.mp hy
  rw [if_pos hy] at hi1
  obtain ⟨h5, h6⟩ := okR_cell h3 (by omega)
  have ea : ad G 21 c2 = G.1 + c2 := ad_lt (by omega)
  show W p l e R s m args below meth c H locs 0 0 _ (F0 m pc la (.int (q32 y) :: .ref (ad G 21 c2) :: st.map (cv G)))
  rw [ea]
  refine va_bald hx hb hK hw.1 c2 (21 - 20) ((pic_get h5).trans (by rw [cell_num (by omega) (by omega) h6])) (tys_get (by omega) (by omega)) (q32_vp h1 hy) hd ?_
  rw [q32_clamp hy.1 h1]
  exact hk (pc + 1) ls (.inl (μ c2 y.toNat) :: st) μ H locs la hl (stOk_cons.mpr ⟨hw.2.2.1 _ _, h4⟩) hw hi1
theorem s_sald (hd : decode cc pc = .ok (.saload, 1)) : Snd L G l own cc nL ret R pc (i_ald (pc + 1) 22 L.2.2.1) := by
  intro p e s m args below meth c hC r k ls st μ H locs la hl hs hw hi hk
  obtain ⟨hx, hb, hml, hown, hts, hlk, hrt, hK, hZ, hN⟩ := hC
  rcases st with _ | ⟨y | y | _ | ⟨t1, c1⟩, _ | ⟨x | x | _ | ⟨t2, c2⟩, st⟩⟩
  all_goals first | exact nn hi | skip
  obtain ⟨h1, h2⟩ := stOk_cons.mp hs
  obtain ⟨h3, h4⟩ := stOk_cons.mp h2
  by_cases et1 : ¬ (t2 = 22)
  · exact nn ((if_neg et1).symm.trans hi)
  replace et1 := Decidable.not_not.mp et1
  have hi1 : (if 0 ≤ y ∧ y < (L.2.2.1 c2 : Int) then k (pc + 1) ls (.inl (μ c2 y.toNat) :: st) μ else none) = some r := (if_pos et1).symm.trans hi
  subst et1
  by_cases hy : ¬ (0 ≤ y ∧ y < (L.2.2.1 c2 : Int))
  · rw [if_neg hy] at hi1
    exact nn hi1
  replace hy := Decidable.not_not.mp hy
  rw [if_pos hy] at hi1
  obtain ⟨h5, h6⟩ := okR_cell h3 (by omega)
  have ea : ad G 22 c2 = G.1 + c2 := ad_lt (by omega)
  show W p l e R s m args below meth c H locs 0 0 _ (F0 m pc la (.int (q32 y) :: .ref (ad G 22 c2) :: st.map (cv G)))
  rw [ea]
  refine va_sald hx hb hK hw.1 c2 (22 - 20) ((pic_get h5).trans (by rw [cell_num (by omega) (by omega) h6])) (tys_get (by omega) (by omega)) (q32_vp h1 hy) hd ?_
  rw [q32_clamp hy.1 h1]
  exact hk (pc + 1) ls (.inl (μ c2 y.toNat) :: st) μ H locs la hl (stOk_cons.mpr ⟨hw.2.2.1 _ _, h4⟩) hw hi1
theorem s_zald (hd : decode cc pc = .ok (.baload, 1)) : Snd L G l own cc nL ret R pc (i_ald (pc + 1) 23 L.2.2.1) := by
  intro p e s m args below meth c hC r k ls st μ H locs la hl hs hw hi hk
  obtain ⟨hx, hb, hml, hown, hts, hlk, hrt, hK, hZ, hN⟩ := hC
  rcases st with _ | ⟨y | y | _ | ⟨t1, c1⟩, _ | ⟨x | x | _ | ⟨t2, c2⟩, st⟩⟩
  all_goals first | exact nn hi | skip
  obtain ⟨h1, h2⟩ := stOk_cons.mp hs
  obtain ⟨h3, h4⟩ := stOk_cons.mp h2
  by_cases et1 : ¬ (t2 = 23)
  · exact nn ((if_neg et1).symm.trans hi)
  replace et1 := Decidable.not_not.mp et1
  have hi1 : (if 0 ≤ y ∧ y < (L.2.2.1 c2 : Int) then k (pc + 1) ls (.inl (μ c2 y.toNat) :: st) μ else none) = some r := (if_pos et1).symm.trans hi
  subst et1
  by_cases hy : ¬ (0 ≤ y ∧ y < (L.2.2.1 c2 : Int))
  · rw [if_neg hy] at hi1
    exact nn hi1
  replace hy := Decidable.not_not.mp hy
  rw [if_pos hy] at hi1
  obtain ⟨h5, h6⟩ := okR_cell h3 (by omega)
  have ea : ad G 23 c2 = G.1 + c2 := ad_lt (by omega)
  show W p l e R s m args below meth c H locs 0 0 _ (F0 m pc la (.int (q32 y) :: .ref (ad G 23 c2) :: st.map (cv G)))
  rw [ea]
  refine va_zald hx hb hK hw.1 c2 (23 - 20) ((pic_get h5).trans (by rw [cell_num (by omega) (by omega) h6])) (tys_get (by omega) (by omega)) (q32_vp h1 hy) hd ?_
  rw [q32_clamp hy.1 h1]
  exact hk (pc + 1) ls (.inl (μ c2 y.toNat) :: st) μ H locs la hl (stOk_cons.mpr ⟨hw.2.2.1 _ _, h4⟩) hw hi1
def wZ (x : Int) : Int := bAnd x 1
theorem nar_z (x : Int) : vp_nar .boolean (q32 x) = q32 (wZ x) := by
  have e : vp_nar .boolean (q32 x) = q32 x &&& 1 := rfl
  rw [e]
  unfold wZ bAnd
  rw [q32_of]
  rfl
theorem nar_b (x : Int) : vp_nar .byte (q32 x) = q32 (wrB x) := by rw [vp_nar_byte, q32_i2b]
theorem nar_s (x : Int) : vp_nar .short (q32 x) = q32 (wrS x) := by rw [vp_nar_short, q32_i2s]
theorem wZ_in (x : Int) : in32 (wZ x) := i32_in _
theorem s_iast (hd : decode cc pc = .ok (.iastore, 1)) (hmt : ∀ c j, c < L.1 → L.2.1 c = 20 → ∀ {v : Int}, L.2.2.2 c j = some none → v.toNat < L.1 ∧ L.2.1 v.toNat = 8) : Snd L G l own cc nL ret R pc (i_ast (pc + 1) 20 L.2.2.1 id) := by
  intro p e s m args below meth c hC r k ls st μ H locs la hl hs hw hi hk
  obtain ⟨hx, hb, hml, hown, hts, hlk, hrt, hK, hZ, hN⟩ := hC
  rcases st with _ | ⟨x | x | _ | ⟨t1, c1⟩, _ | ⟨i | i | _ | ⟨t2, c2⟩, _ | ⟨z | z | _ | ⟨t3, c3⟩, st⟩⟩⟩
  all_goals first | exact nn hi | skip
  obtain ⟨h1, h2⟩ := stOk_cons.mp hs
  obtain ⟨h3, h4⟩ := stOk_cons.mp h2
  obtain ⟨h7, h8⟩ := stOk_cons.mp h4
  by_cases et1 : ¬ (t3 = 20)
  · exact nn ((if_neg et1).symm.trans hi)
  replace et1 := Decidable.not_not.mp et1
  have hi1 : (if 0 ≤ i ∧ i < (L.2.2.1 c3 : Int) then k (pc + 1) ls st (up μ c3 i.toNat x) else none) = some r := (if_pos et1).symm.trans hi
  subst et1
  by_cases hy : ¬ (0 ≤ i ∧ i < (L.2.2.1 c3 : Int))
  · rw [if_neg hy] at hi1
    exact nn hi1
  replace hy := Decidable.not_not.mp hy
  rw [if_pos hy] at hi1
  obtain ⟨h5, h6⟩ := okR_cell h7 (by omega)
  have ea : ad G 20 c3 = G.1 + c3 := ad_lt (by omega)
  have hin1 : in32 x := h1
  show W p l e R s m args below meth c H locs 0 0 _ (F0 m pc la (.int (q32 x) :: .int (q32 i) :: .ref (ad G 20 c3) :: st.map (cv G)))
  rw [ea]
  refine va_iast hx hb hK hw.1 (pic_D L G μ) hw.2.1 c3 (20 - 20) ((pic_get h5).trans (by rw [cell_num (by omega) (by omega) h6])) (tys_get (by omega) (by omega)) (q32_vp h3 hy) hd (fun H1 locs1 hP1 hD1 hS1 => ?_)
  have hP2 : va_P G.2.2.1 vwCl (pic L G (up μ c3 i.toNat x)) H1 := by
    rw [q32_clamp hy.1 h3, ← upd_q, pic_up (v := x) (cell_num (by omega) (by omega) h6).symm] at hP1
    exact hP1
  exact hk (pc + 1) ls st _ H1 locs1 la hl h8 ⟨hP2, hS1, okM_up hw.2.2 hin1 (hmt c3 _ h5 h6)⟩ hi1
theorem s_bast (hd : decode cc pc = .ok (.bastore, 1)) (hmt : ∀ c j, c < L.1 → L.2.1 c = 21 → ∀ {v : Int}, L.2.2.2 c j = some none → v.toNat < L.1 ∧ L.2.1 v.toNat = 8) : Snd L G l own cc nL ret R pc (i_ast (pc + 1) 21 L.2.2.1 wrB) := by
  intro p e s m args below meth c hC r k ls st μ H locs la hl hs hw hi hk
  obtain ⟨hx, hb, hml, hown, hts, hlk, hrt, hK, hZ, hN⟩ := hC
  rcases st with _ | ⟨x | x | _ | ⟨t1, c1⟩, _ | ⟨i | i | _ | ⟨t2, c2⟩, _ | ⟨z | z | _ | ⟨t3, c3⟩, st⟩⟩⟩
  all_goals first | exact nn hi | skip
  obtain ⟨h1, h2⟩ := stOk_cons.mp hs
  obtain ⟨h3, h4⟩ := stOk_cons.mp h2
  obtain ⟨h7, h8⟩ := stOk_cons.mp h4
  by_cases et1 : ¬ (t3 = 21)
  · exact nn ((if_neg et1).symm.trans hi)
  replace et1 := Decidable.not_not.mp et1
  have hi1 : (if 0 ≤ i ∧ i < (L.2.2.1 c3 : Int) then k (pc + 1) ls st (up μ c3 i.toNat (wrB x)) else none) = some r := (if_pos et1).symm.trans hi
  subst et1
  by_cases hy : ¬ (0 ≤ i ∧ i < (L.2.2.1 c3 : Int))
  · rw [if_neg hy] at hi1
    exact nn hi1
  replace hy := Decidable.not_not.mp hy
  rw [if_pos hy] at hi1
  obtain ⟨h5, h6⟩ := okR_cell h7 (by omega)
  have ea : ad G 21 c3 = G.1 + c3 := ad_lt (by omega)
  have hin1 : in32 (wrB x) := (wrB_in x)
  show W p l e R s m args below meth c H locs 0 0 _ (F0 m pc la (.int (q32 x) :: .int (q32 i) :: .ref (ad G 21 c3) :: st.map (cv G)))
  rw [ea]
  refine va_bast hx hb hK hw.1 (pic_D L G μ) hw.2.1 c3 (21 - 20) ((pic_get h5).trans (by rw [cell_num (by omega) (by omega) h6])) (tys_get (by omega) (by omega)) (q32_vp h3 hy) hd (fun H1 locs1 hP1 hD1 hS1 => ?_)
  have hP2 : va_P G.2.2.1 vwCl (pic L G (up μ c3 i.toNat (wrB x))) H1 := by
    rw [nar_b] at hP1
    rw [q32_clamp hy.1 h3, ← upd_q, pic_up (v := (wrB x)) (cell_num (by omega) (by omega) h6).symm] at hP1
    exact hP1
  exact hk (pc + 1) ls st _ H1 locs1 la hl h8 ⟨hP2, hS1, okM_up hw.2.2 hin1 (hmt c3 _ h5 h6)⟩ hi1
theorem s_sast (hd : decode cc pc = .ok (.sastore, 1)) (hmt : ∀ c j, c < L.1 → L.2.1 c = 22 → ∀ {v : Int}, L.2.2.2 c j = some none → v.toNat < L.1 ∧ L.2.1 v.toNat = 8) : Snd L G l own cc nL ret R pc (i_ast (pc + 1) 22 L.2.2.1 wrS) := by
  intro p e s m args below meth c hC r k ls st μ H locs la hl hs hw hi hk
  obtain ⟨hx, hb, hml, hown, hts, hlk, hrt, hK, hZ, hN⟩ := hC
  rcases st with _ | ⟨x | x | _ | ⟨t1, c1⟩, _ | ⟨i | i | _ | ⟨t2, c2⟩, _ | ⟨z | z | _ | ⟨t3, c3⟩, st⟩⟩⟩
  all_goals first | exact nn hi | skip
  obtain ⟨h1, h2⟩ := stOk_cons.mp hs
  obtain ⟨h3, h4⟩ := stOk_cons.mp h2
  obtain ⟨h7, h8⟩ := stOk_cons.mp h4
  by_cases et1 : ¬ (t3 = 22)
  · exact nn ((if_neg et1).symm.trans hi)
  replace et1 := Decidable.not_not.mp et1
  have hi1 : (if 0 ≤ i ∧ i < (L.2.2.1 c3 : Int) then k (pc + 1) ls st (up μ c3 i.toNat (wrS x)) else none) = some r := (if_pos et1).symm.trans hi
  subst et1
  by_cases hy : ¬ (0 ≤ i ∧ i < (L.2.2.1 c3 : Int))
  · rw [if_neg hy] at hi1
    exact nn hi1
  replace hy := Decidable.not_not.mp hy
  rw [if_pos hy] at hi1
  obtain ⟨h5, h6⟩ := okR_cell h7 (by omega)
  have ea : ad G 22 c3 = G.1 + c3 := ad_lt (by omega)
  have hin1 : in32 (wrS x) := (wrS_in x)
  show W p l e R s m args below meth c H locs 0 0 _ (F0 m pc la (.int (q32 x) :: .int (q32 i) :: .ref (ad G 22 c3) :: st.map (cv G)))
  rw [ea]
  refine va_sast hx hb hK hw.1 (pic_D L G μ) hw.2.1 c3 (22 - 20) ((pic_get h5).trans (by rw [cell_num (by omega) (by omega) h6])) (tys_get (by omega) (by omega)) (q32_vp h3 hy) hd (fun H1 locs1 hP1 hD1 hS1 => ?_)
  have hP2 : va_P G.2.2.1 vwCl (pic L G (up μ c3 i.toNat (wrS x))) H1 := by
    rw [nar_s] at hP1
    rw [q32_clamp hy.1 h3, ← upd_q, pic_up (v := (wrS x)) (cell_num (by omega) (by omega) h6).symm] at hP1
    exact hP1
  exact hk (pc + 1) ls st _ H1 locs1 la hl h8 ⟨hP2, hS1, okM_up hw.2.2 hin1 (hmt c3 _ h5 h6)⟩ hi1
theorem s_zast (hd : decode cc pc = .ok (.bastore, 1)) (hmt : ∀ c j, c < L.1 → L.2.1 c = 23 → ∀ {v : Int}, L.2.2.2 c j = some none → v.toNat < L.1 ∧ L.2.1 v.toNat = 8) : Snd L G l own cc nL ret R pc (i_ast (pc + 1) 23 L.2.2.1 wZ) := by
  intro p e s m args below meth c hC r k ls st μ H locs la hl hs hw hi hk
  obtain ⟨hx, hb, hml, hown, hts, hlk, hrt, hK, hZ, hN⟩ := hC
  rcases st with _ | ⟨x | x | _ | ⟨t1, c1⟩, _ | ⟨i | i | _ | ⟨t2, c2⟩, _ | ⟨z | z | _ | ⟨t3, c3⟩, st⟩⟩⟩
  all_goals first | exact nn hi | skip
  obtain ⟨h1, h2⟩ := stOk_cons.mp hs
  obtain ⟨h3, h4⟩ := stOk_cons.mp h2
  obtain ⟨h7, h8⟩ := stOk_cons.mp h4
  by_cases et1 : ¬ (t3 = 23)
  · exact nn ((if_neg et1).symm.trans hi)
  replace et1 := Decidable.not_not.mp et1
  have hi1 : (if 0 ≤ i ∧ i < (L.2.2.1 c3 : Int) then k (pc + 1) ls st (up μ c3 i.toNat (wZ x)) else none) = some r := (if_pos et1).symm.trans hi
  subst et1
  by_cases hy : ¬ (0 ≤ i ∧ i < (L.2.2.1 c3 : Int))
  · rw [if_neg hy] at hi1
    exact nn hi1
  replace hy := Decidable.not_not.mp hy
  rw [if_pos hy] at hi1
  obtain ⟨h5, h6⟩ := okR_cell h7 (by omega)
  have ea : ad G 23 c3 = G.1 + c3 := ad_lt (by omega)
  have hin1 : in32 (wZ x) := (wZ_in x)
  show W p l e R s m args below meth c H locs 0 0 _ (F0 m pc la (.int (q32 x) :: .int (q32 i) :: .ref (ad G 23 c3) :: st.map (cv G)))
  rw [ea]
  refine va_zast hx hb hK hw.1 (pic_D L G μ) hw.2.1 c3 (23 - 20) ((pic_get h5).trans (by rw [cell_num (by omega) (by omega) h6])) (tys_get (by omega) (by omega)) (q32_vp h3 hy) hd (fun H1 locs1 hP1 hD1 hS1 => ?_)
  have hP2 : va_P G.2.2.1 vwCl (pic L G (up μ c3 i.toNat (wZ x))) H1 := by
    rw [nar_z] at hP1
    rw [q32_clamp hy.1 h3, ← upd_q, pic_up (v := (wZ x)) (cell_num (by omega) (by omega) h6).symm] at hP1
    exact hP1
  exact hk (pc + 1) ls st _ H1 locs1 la hl h8 ⟨hP2, hS1, okM_up hw.2.2 hin1 (hmt c3 _ h5 h6)⟩ hi1
theorem s_aldR {t t2 : Nat} {g : Nat → Nat → Nat} (hd : decode cc pc = .ok (.aaload, 1)) (h24 : ¬ t < 24) (h29 : t < 30) (het : (et t).isReference = true) (ht2 : t2 < 30) (hE : ∀ c i, c < L.1 → L.2.1 c = t → i < L.2.2.1 c → L.2.2.2 c i = some (some (g c i)) ∧ g c i < L.1 ∧ L.2.1 (g c i) = t2) : Snd L G l own cc nL ret R pc (i_aldR (pc + 1) t t2 L.2.2.1 g) := by
  intro p e s m args below meth c hC r k ls st μ H locs la hl hs hw hi hk
  obtain ⟨hx, hb, hml, hown, hts, hlk, hrt, hK, hZ, hN⟩ := hC
  rcases st with _ | ⟨y | y | _ | ⟨t1, c1⟩, _ | ⟨x | x | _ | ⟨t2', c2⟩, st⟩⟩
  all_goals first | exact nn hi | skip
  obtain ⟨h1, h2⟩ := stOk_cons.mp hs
  obtain ⟨h3, h4⟩ := stOk_cons.mp h2
  by_cases et1 : ¬ (t2' = t)
  · exact nn ((if_neg et1).symm.trans hi)
  replace et1 := Decidable.not_not.mp et1
  have hi1 : (if 0 ≤ y ∧ y < (L.2.2.1 c2 : Int) then k (pc + 1) ls (.inr (.inr (some (t2, g c2 y.toNat))) :: st) μ else none) = some r := (if_pos et1).symm.trans hi
  subst et1
  by_cases hy : ¬ (0 ≤ y ∧ y < (L.2.2.1 c2 : Int))
  · rw [if_neg hy] at hi1
    exact nn hi1
  replace hy := Decidable.not_not.mp hy
  rw [if_pos hy] at hi1
  obtain ⟨h5, h6⟩ := okR_cell h3 (by omega)
  have ea : ad G t2' c2 = G.1 + c2 := ad_lt (by omega)
  obtain ⟨e1, e2, e3⟩ := hE c2 y.toNat h5 h6 (by omega)
  have ev : va_rf (rA L G c2 (q32 y).toNatClampNeg) = .ref (ad G t2 (g c2 y.toNat)) := by
    rw [q32_clamp hy.1 h1, ad_lt ht2]
    unfold rA
    rw [e1]
    rfl
  have hin := q32_vp h1 hy
  have hlt : (q32 y).toNatClampNeg < L.2.2.1 c2 := Nat.not_le.mp fun q => hin (Or.inr q)
  have ha : (pic L G μ)[c2]? = some (G.1 + c2, .inl (G.2.1 t2', L.2.2.1 c2, .inr (.inr (.inr (.inr (rA L G c2)))))) := (pic_get h5).trans (by rw [cell_ref (by omega) h24 h6])
  show W p l e R s m args below meth c H locs 0 0 _ (F0 m pc la (.int (q32 y) :: .ref (ad G t2' c2) :: st.map (cv G)))
  rw [ea]
  refine W.aald (v := va_rf (rA L G c2 (q32 y).toNatClampNeg)) (ty := et t2') hx hb (hw.1 c2 _ ha) ((hK.2 (t2' - 20) _ (tys_get (by omega) h29)).1 (L.2.2.1 c2) (fun j => va_rf (rA L G c2 j))) het (fun q => by cases q) (by show ¬ (q32 y < 0 ∨ (arrV _ _ _).slots.size ≤ _); rw [arrV_size]; exact hin) (by show (arrV _ _ _).slots[_]? = _; rw [arrV_read _ _ hlt]) rfl rfl hd ?_
  show W p l e R s m args below meth c H locs 0 0 _ (F0 m (pc + 1) la (va_rf (rA L G c2 (q32 y).toNatClampNeg) :: st.map (cv G)))
  rw [ev]
  exact hk (pc + 1) ls (.inr (.inr (some (t2, g c2 y.toNat))) :: st) μ H locs la hl (stOk_cons.mpr ⟨Or.inl ⟨e2, e3, ht2⟩, h4⟩) hw hi1
theorem s_alen {t : Nat} (hd : decode cc pc = .ok (.arraylength, 1)) (h20 : ¬ t < 20) (h24 : t < 24) (hln : ∀ c, c < L.1 → L.2.1 c = t → L.2.2.1 c < 2 ^ 31) : Snd L G l own cc nL ret R pc (i_alen (pc + 1) t L.2.2.1) := by
  intro p e s m args below meth c hC r k ls st μ H locs la hl hs hw hi hk
  obtain ⟨hx, hb, hml, hown, hts, hlk, hrt, hK, hZ, hN⟩ := hC
  rcases st with _ | ⟨x | x | _ | ⟨t1, c1⟩, st⟩
  all_goals first | exact nn hi | skip
  obtain ⟨h1, h2⟩ := stOk_cons.mp hs
  by_cases et1 : ¬ (t1 = t)
  · exact nn ((if_neg et1).symm.trans hi)
  replace et1 := Decidable.not_not.mp et1
  have hi1 : k (pc + 1) ls (.inl (L.2.2.1 c1 : Int) :: st) μ = some r := (if_pos et1).symm.trans hi
  subst et1
  obtain ⟨h5, h6⟩ := okR_cell h1 (by omega)
  have ea : ad G t1 c1 = G.1 + c1 := ad_lt (by omega)
  have hb2 := hln c1 h5 h6
  show W p l e R s m args below meth c H locs 0 0 _ (F0 m pc la (.ref (ad G t1 c1) :: st.map (cv G)))
  rw [ea]
  refine va_alen (v := q32 (L.2.2.1 c1 : Int)) hx hb hK hw.1 c1 (t1 - 20) ((pic_get h5).trans (by rw [cell_num h20 h24 h6])) (tys_get (by omega) (by omega)) rfl hd ?_
  exact hk (pc + 1) ls (.inl (L.2.2.1 c1 : Int) :: st) μ H locs la hl (stOk_cons.mpr ⟨(by show in32 _; unfold in32; omega), h2⟩) hw hi1
theorem s_gets {j idx : Nat} {q : String × String × String × FieldType × Nat × (Nat → Int)} (hd : decode cc pc = .ok (.getstatic idx, 3)) (hq : sTab[j]? = some q) (hlk2 : Cond.fieldLink own idx q.1 q.2.1 q.2.2.1 ∈ gtb) : Snd L G l own cc nL ret R pc (i_push (pc + 3) (.inr (.inr (some (sTg j, j))))) := by
  intro p e s m args below meth c hC r k ls st μ H locs la hl hs hw hi hk
  obtain ⟨hx, hb, hml, hown, hts, hlk, hrt, hK, hZ, hN⟩ := hC
  have hj : j < 5 := (List.getElem?_eq_some_iff.mp hq).1
  refine va_gets hx hb (hZ j q hq).1 hw.2.1 hown (hts _ hlk2) (fun _ h => h) hd ?_
  have ea : ad G (sTg j) j = G.2.2.2 j := by unfold ad; rw [if_neg (by unfold sTg; split <;> omega)]
  rw [← ea]
  exact hk (pc + 3) ls (.inr (.inr (some (sTg j, j))) :: st) μ H locs la hl (stOk_cons.mpr ⟨Or.inr ⟨hj, rfl⟩, hs⟩) hw hi
theorem okR_st {L : Lo} {t c : Nat} (h : okR L t c) (ht : 30 ≤ t) : ∃ q, c < 5 ∧ t = sTg c ∧ sTab[c]? = some q ∧ sLn c = q.2.2.2.2.1 ∧ sCt c = q.2.2.2.2.2 ∧ q.2.2.2.1 = (if c < 3 then FieldType.byte else FieldType.int) := by
  rcases h with h | ⟨h1, h2⟩
  · omega
  · have hl : c < sTab.length := h1
    have e : sTab[c]? = some sTab[c] := List.getElem?_eq_getElem hl
    refine ⟨sTab[c], h1, h2, e, by unfold sLn; rw [e], by funext i; unfold sCt; rw [e], ?_⟩
    rcases (show c = 0 ∨ c = 1 ∨ c = 2 ∨ c = 3 ∨ c = 4 by omega) with rfl | rfl | rfl | rfl | rfl <;> rfl
theorem sCt_in (c i : Nat) : in32 (sCt c i) := by
  have h : ∀ j, j < 5 → ∀ i, i < 20 → (-2147483648 ≤ sCt j i ∧ sCt j i ≤ 2147483647) := by decide +kernel
  have h2 : ∀ j, j < 5 → ∀ i, 20 ≤ i → sCt j i = 0 := by
    intro j hj i hi
    rcases (show j = 0 ∨ j = 1 ∨ j = 2 ∨ j = 3 ∨ j = 4 by omega) with rfl | rfl | rfl | rfl | rfl <;> (show List.getD _ i 0 = 0; rw [List.getD_eq_getElem?_getD, List.getElem?_eq_none (by simp only [List.length_cons, List.length_nil]; omega)]; rfl)
  by_cases hc : c < 5
  · by_cases hi : i < 20
    · exact h _ hc i hi
    · rw [h2 _ hc i (by omega)]; exact in32_0
  · have e : sTab[c]? = none := List.getElem?_eq_none (by show 5 ≤ _; omega)
    unfold sCt
    rw [e]
    exact in32_0
theorem s_balds (hd : decode cc pc = .ok (.baload, 1)) : Snd L G l own cc nL ret R pc (i_alds (pc + 1) 31 sLn sCt) := by
  intro p e s m args below meth c hC r k ls st μ H locs la hl hs hw hi hk
  obtain ⟨hx, hb, hml, hown, hts, hlk, hrt, hK, hZ, hN⟩ := hC
  rcases st with _ | ⟨y | y | _ | ⟨t1, c1⟩, _ | ⟨x | x | _ | ⟨t2, c2⟩, st⟩⟩
  all_goals first | exact nn hi | skip
  obtain ⟨h1, h2⟩ := stOk_cons.mp hs
  obtain ⟨h3, h4⟩ := stOk_cons.mp h2
  by_cases et1 : ¬ (t2 = 31)
  · exact nn ((if_neg et1).symm.trans hi)
  replace et1 := Decidable.not_not.mp et1
  have hi1 : (if 0 ≤ y ∧ y < (sLn c2 : Int) then k (pc + 1) ls (.inl (sCt c2 y.toNat) :: st) μ else none) = some r := (if_pos et1).symm.trans hi
  subst et1
  by_cases hy : ¬ (0 ≤ y ∧ y < (sLn c2 : Int))
  · rw [if_neg hy] at hi1
    exact nn hi1
  replace hy := Decidable.not_not.mp hy
  rw [if_pos hy] at hi1
  obtain ⟨q, hj, e2, e3, e4, e5, e6⟩ := okR_st h3 (by omega)
  have ea : ad G 31 c2 = G.2.2.2 c2 := by unfold ad; rw [if_neg (by omega)]
  have hT := (hZ _ q e3).2
  rw [e6, if_pos (by unfold sTg at e2; split at e2 <;> omega)] at hT
  show W p l e R s m args below meth c H locs 0 0 _ (F0 m pc la (.int (q32 y) :: .ref (ad G 31 c2) :: st.map (cv G)))
  rw [ea]
  refine va_tb (v := .int (q32 (sCt c2 y.toNat))) hx hb hT hw.2.1 (by rw [← e4]; exact q32_vp h1 hy) (by rw [q32_clamp hy.1 h1, e5]) hd ?_
  exact hk (pc + 1) ls (.inl (sCt c2 y.toNat) :: st) μ H locs la hl (stOk_cons.mpr ⟨sCt_in _ _, h4⟩) hw hi1
theorem s_ialds (hd : decode cc pc = .ok (.iaload, 1)) : Snd L G l own cc nL ret R pc (i_alds (pc + 1) 32 sLn sCt) := by
  intro p e s m args below meth c hC r k ls st μ H locs la hl hs hw hi hk
  obtain ⟨hx, hb, hml, hown, hts, hlk, hrt, hK, hZ, hN⟩ := hC
  rcases st with _ | ⟨y | y | _ | ⟨t1, c1⟩, _ | ⟨x | x | _ | ⟨t2, c2⟩, st⟩⟩
  all_goals first | exact nn hi | skip
  obtain ⟨h1, h2⟩ := stOk_cons.mp hs
  obtain ⟨h3, h4⟩ := stOk_cons.mp h2
  by_cases et1 : ¬ (t2 = 32)
  · exact nn ((if_neg et1).symm.trans hi)
  replace et1 := Decidable.not_not.mp et1
  have hi1 : (if 0 ≤ y ∧ y < (sLn c2 : Int) then k (pc + 1) ls (.inl (sCt c2 y.toNat) :: st) μ else none) = some r := (if_pos et1).symm.trans hi
  subst et1
  by_cases hy : ¬ (0 ≤ y ∧ y < (sLn c2 : Int))
  · rw [if_neg hy] at hi1
    exact nn hi1
  replace hy := Decidable.not_not.mp hy
  rw [if_pos hy] at hi1
  obtain ⟨q, hj, e2, e3, e4, e5, e6⟩ := okR_st h3 (by omega)
  have ea : ad G 32 c2 = G.2.2.2 c2 := by unfold ad; rw [if_neg (by omega)]
  have hT := (hZ _ q e3).2
  rw [e6, if_neg (by unfold sTg at e2; split at e2 <;> omega)] at hT
  show W p l e R s m args below meth c H locs 0 0 _ (F0 m pc la (.int (q32 y) :: .ref (ad G 32 c2) :: st.map (cv G)))
  rw [ea]
  refine va_ti (v := .int (q32 (sCt c2 y.toNat))) hx hb hT hw.2.1 (by rw [← e4]; exact q32_vp h1 hy) (by rw [q32_clamp hy.1 h1, e5]) hd ?_
  exact hk (pc + 1) ls (.inl (sCt c2 y.toNat) :: st) μ H locs la hl (stOk_cons.mpr ⟨sCt_in _ _, h4⟩) hw hi1
theorem s_alens {t : Nat} (hd : decode cc pc = .ok (.arraylength, 1)) (h30 : 30 ≤ t) : Snd L G l own cc nL ret R pc (i_alen (pc + 1) t sLn) := by
  intro p e s m args below meth c hC r k ls st μ H locs la hl hs hw hi hk
  obtain ⟨hx, hb, hml, hown, hts, hlk, hrt, hK, hZ, hN⟩ := hC
  rcases st with _ | ⟨x | x | _ | ⟨t1, c1⟩, st⟩
  all_goals first | exact nn hi | skip
  obtain ⟨h1, h2⟩ := stOk_cons.mp hs
  by_cases et1 : ¬ (t1 = t)
  · exact nn ((if_neg et1).symm.trans hi)
  replace et1 := Decidable.not_not.mp et1
  have hi1 : k (pc + 1) ls (.inl (sLn c1 : Int) :: st) μ = some r := (if_pos et1).symm.trans hi
  subst et1
  obtain ⟨q, hj, e2, e3, e4, e5, e6⟩ := okR_st h1 h30
  have ea : ad G t1 c1 = G.2.2.2 c1 := by unfold ad; rw [if_neg (by omega)]
  have hT := (hZ _ q e3).2
  have hlt : sLn c1 < 2 ^ 31 := by
    rcases (show c1 = 0 ∨ c1 = 1 ∨ c1 = 2 ∨ c1 = 3 ∨ c1 = 4 by omega) with rfl | rfl | rfl | rfl | rfl <;> decide +kernel
  show W p l e R s m args below meth c H locs 0 0 _ (F0 m pc la (.ref (ad G t1 c1) :: st.map (cv G)))
  rw [ea]
  refine va_tlen (v := q32 (sLn c1 : Int)) hx hb hT hw.2.1 (by rw [e4]; rfl) hd ?_
  exact hk (pc + 1) ls (.inl (sLn c1 : Int) :: st) μ H locs la hl (stOk_cons.mpr ⟨(by show in32 _; unfold in32; omega), h2⟩) hw hi1
end SND2
