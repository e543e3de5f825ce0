/-! TERM: what its methods do to the rows of letters -/
/-- only cells of S have changed -/
def Fr (μ μ' : Mem) (S : Nat → Prop) : Prop := ∀ c, ¬ S c → μ' c = μ c
theorem Fr.rf {μ : Mem} {S : Nat → Prop} : Fr μ μ S := fun _ _ => rfl
theorem Fr.trans {μ μ1 μ2 : Mem} {S : Nat → Prop} (h : Fr μ μ1 S) (h2 : Fr μ1 μ2 S) : Fr μ μ2 S := fun c hc => (h2 c hc).trans (h c hc)
theorem Fr.mono {μ μ' : Mem} {S S' : Nat → Prop} (h : Fr μ μ' S) (hs : ∀ c, S c → S' c) : Fr μ μ' S' := fun c hc => h c (fun q => hc (hs c q))
theorem Fr.up {μ : Mem} {c i : Nat} {v : Int} {S : Nat → Prop} (h : S c) : Fr μ (up μ c i v) S := fun c' hc => up_cell (fun e => hc (by rw [e]; exact h))
/-- the cells of a TERM -/
def tS (t : Nat) : Nat → Prop := fun c => c = t ∨ c = t + 1
def BY (l : List Int) : Prop := ∀ x ∈ l, -128 ≤ x ∧ x ≤ 127
theorem LT.by {l : List Int} (h : LT l) : BY l := fun x hx => by have := h x hx; omega
theorem wrB_eq {x : Int} (h1 : -128 ≤ x) (h2 : x ≤ 127) : wrB x = x := by unfold wrB; omega
theorem wrS_eq {x : Int} (h1 : -32768 ≤ x) (h2 : x ≤ 32767) : wrS x = x := by unfold wrS; omega
theorem TH.kept {μ μ' : Mem} {t : Nat} {l : List Int} {S : Nat → Prop} (h : TH μ t l) (hf : Fr μ μ' S) (h1 : ¬ S t) (h2 : ¬ S (t + 1)) : TH μ' t l := by
  unfold TH at *
  rw [hf t h1, hf (t + 1) h2]
  exact h
theorem TH.get {μ : Mem} {t : Nat} {l : List Int} (h : TH μ t l) {i : Nat} (hi : i < l.length) : μ (t + 1) i = l[i] := h.2.2 i l[i] (List.getElem?_eq_getElem hi)
theorem TH.inj {μ : Mem} {t : Nat} {l l' : List Int} (h : TH μ t l) (h' : TH μ t l') : l = l' := by
  have e : l.length = l'.length := by have := h.1.symm.trans h'.1; omega
  apply List.ext_getElem e
  intro i h1 h2
  rw [← h.get h1, ← h'.get h2]
theorem TH_nil {μ : Mem} {t : Nat} : TH (up μ t 1 0) t [] := ⟨by rw [up_same]; rfl, Nat.zero_le _, fun i x h => by simp at h⟩
theorem TH_push {μ : Mem} {t : Nat} {l : List Int} {x : Int} (h : TH μ t l) (hl : l.length < lnC (t + 1)) : TH (up (up μ (t + 1) l.length x) t 1 ((l.length : Int) + 1)) t (l ++ [x]) := by
  refine ⟨?_, ?_, ?_⟩
  · rw [up_same, List.length_append]; rfl
  · rw [List.length_append]; exact hl
  · intro i y hy
    rw [up_cell (by omega)]
    by_cases hi : i = l.length
    · subst hi
      rw [up_same]
      simpa using hy
    · rw [up_slot hi]
      have hlt : i < l.length := by
        have := (List.getElem?_eq_some_iff.mp hy).1
        rw [List.length_append] at this
        simp at this
        omega
      rw [List.getElem?_append_left hlt] at hy
      exact h.2.2 i y hy
theorem s_add {μ : Mem} {t : Nat} {l : List Int} {x : Int} (h : TH μ t l) (hl : l.length < lnC (t + 1)) (hx : -128 ≤ x ∧ x ≤ 127) : ∃ μ', f_X8_add [vR 8 t, vI x] μ = some (some (vI 1), μ') ∧ TH μ' t (l ++ [x]) ∧ Fr μ μ' (tS t) := by
  have h1 := h.1
  have h3 := h.le
  rw [q_X8_add, h1]
  rw [if_pos (by omega), gi_t (by omega) (by omega), gz_1]
  rw [up_cell (show t ≠ t + 1 by omega), h1, wrB_eq hx.1 hx.2, wrB_eq hx.1 hx.2, wr_eq (by omega) (by omega)]
  exact ⟨_, rfl, TH_push h hl, (Fr.up (Or.inr rfl)).trans (Fr.up (Or.inl rfl))⟩
theorem s_addF {μ : Mem} {t : Nat} {l : List Int} {x : Int} (h : TH μ t l) (hl : l.length = lnC (t + 1)) : f_X8_add [vR 8 t, vI x] μ = some (some (vI 0), μ) := by
  rw [q_X8_add, h.1, if_neg (by omega), gz_0]
theorem s_addPart38 {t o : Nat} {b : Int} {l2 : List Int} (hb : b ≤ (l2.length : Int)) (hB : BY l2) (ht : ¬ tS t o) (ht2 : ¬ tS t (o + 1)) : ∀ (k : Nat) (i : Int) (o2 : Option AV) (μ : Mem) (l : List Int), 0 ≤ i → b - i = (k : Int) → TH μ t l → TH μ o l2 → l.length + k ≤ lnC (t + 1) →
    ∃ μ', e_X8_addPart_38 t o o2 b i μ = some (some (vI 1), μ') ∧ TH μ' t (l ++ (l2.drop i.toNat).take k) ∧ Fr μ μ' (tS t)
  | 0, i, o2, μ, l, h0, hk, h, h2, hl => by
    rw [q_X8_addPart_38, if_neg (by omega), gz_1]
    exact ⟨μ, rfl, by simpa using h, Fr.rf⟩
  | k + 1, i, o2, μ, l, h0, hk, h, h2, hl => by
    have hlt : i.toNat < l2.length := by omega
    have hx := h2.get hlt
    have hbx := hB l2[i.toNat] (List.getElem_mem hlt)
    have h21 := h2.2.1
    have h3 := lnC_le (t + 1)
    have h4 := h2.le
    rw [q_X8_addPart_38, if_pos (by omega), gi_t h0 (by omega), h.1, gi_t (by omega) (by omega), up_cell (show t ≠ t + 1 by omega), h.1, hx, wrB_eq hbx.1 hbx.2, wr_eq (by omega) (by omega), wr_eq (by omega) (by omega)]
    have hp := TH_push (x := l2[i.toNat]) h (by omega)
    have hf : Fr μ (up (up μ (t + 1) l.length l2[i.toNat]) t 1 ((l.length : Int) + 1)) (tS t) := (Fr.up (Or.inr rfl)).trans (Fr.up (Or.inl rfl))
    obtain ⟨μ', e1, e2, e3⟩ := s_addPart38 hb hB ht ht2 k (i + 1) o2 _ (l ++ [l2[i.toNat]]) (by omega) (by omega) hp (h2.kept hf ht ht2) (by rw [List.length_append]; simp; omega)
    refine ⟨μ', e1, ?_, hf.trans e3⟩
    have e4 : (l2.drop i.toNat).take (k + 1) = l2[i.toNat] :: (l2.drop (i + 1).toNat).take k := by
      rw [List.drop_eq_getElem_cons hlt, List.take_succ_cons, show (i + 1).toNat = i.toNat + 1 by omega]
    rw [e4]
    simpa using e2
/-- a part of another TERM is put behind -/
theorem s_addPart {μ : Mem} {t o : Nat} {l l2 : List Int} {a b : Int} (h : TH μ t l) (h2 : TH μ o l2) (hB : BY l2) (ht : ¬ tS t o) (ht2 : ¬ tS t (o + 1)) (ha : 0 ≤ a) (hab : a ≤ b) (hb : b ≤ (l2.length : Int)) (hl : (l.length : Int) + (b - a) ≤ (lnC (t + 1) : Int)) :
    ∃ μ', f_X8_addPart [vR 8 t, vR 8 o, vI a, vI b] μ = some (some (vI 1), μ') ∧ TH μ' t (l ++ (l2.drop a.toNat).take (b - a).toNat) ∧ Fr μ μ' (tS t) := by
  have h3 := lnC_le (t + 1)
  have h4 := h2.le
  rw [q_X8_addPart, if_neg (by omega), if_pos hab, h2.1, if_pos hb, h.1, wr_eq (by omega) (by omega), wr_eq (by omega) (by omega), if_pos (by omega)]
  exact s_addPart38 hb hB ht ht2 (b - a).toNat a _ μ l ha (by omega) h h2 (by omega)
theorem s_addPartF {μ : Mem} {t o : Nat} {l l2 : List Int} {a b : Int} (h : TH μ t l) (h2 : TH μ o l2) (ha : 0 ≤ a) (hab : a ≤ b) (hb : b ≤ (l2.length : Int)) (hl : ¬ ((l.length : Int) + (b - a) ≤ (lnC (t + 1) : Int))) :
    f_X8_addPart [vR 8 t, vR 8 o, vI a, vI b] μ = some (some (vI 0), μ) := by
  have h3 := lnC_le (t + 1)
  have h4 := h2.le
  have h5 := h.2.1
  rw [q_X8_addPart, if_neg (by omega), if_pos hab, h2.1, if_pos hb, h.1, wr_eq (by omega) (by omega), wr_eq (by omega) (by omega), if_neg (by omega), gz_0]
theorem s_copy {μ : Mem} {t o : Nat} {l2 : List Int} (h2 : TH μ o l2) (hB : BY l2) (ht : ¬ tS t o) (ht2 : ¬ tS t (o + 1)) (hl : l2.length ≤ lnC (t + 1)) :
    ∃ μ', f_X8_copy [vR 8 t, vR 8 o] μ = some (none, μ') ∧ TH μ' t l2 ∧ Fr μ μ' (tS t) := by
  have hf : Fr μ (up μ t 1 0) (tS t) := Fr.up (Or.inl rfl)
  have h2' := h2.kept hf ht ht2
  obtain ⟨μ', e1, e2, e3⟩ := s_addPart (a := 0) (b := (l2.length : Int)) (TH_nil (μ := μ) (t := t)) h2' hB ht ht2 (by omega) (by omega) (by omega) (by simp; omega)
  rw [q_X8_copy, h2'.1, e1, cI_t]
  exact ⟨μ', rfl, by simpa using e2, hf.trans e3⟩
theorem s_samePart35 {μ : Mem} {t o : Nat} {l l2 : List Int} {a b d : Int} (h : TH μ t l) (h2 : TH μ o l2) (ha : 0 ≤ a) (hd : 0 ≤ d) (hb : b ≤ (l.length : Int)) (hd2 : d + (b - a) ≤ (l2.length : Int)) : ∀ (k : Nat) (i : Int), a ≤ i → b - i = (k : Int) →
    e_X8_samePart_35 t a b o d i μ = some (some (vI (if (l.drop i.toNat).take k = (l2.drop (d + i - a).toNat).take k then 1 else 0)), μ)
  | 0, i, h0, hk => by
    rw [q_X8_samePart_35, if_neg (by omega), gz_1]
    simp
  | k + 1, i, h0, hk => by
    have h3 := h.le
    have h4 := h2.le
    have h5 := h.2.1
    have h6 := h2.2.1
    have hlt : i.toNat < l.length := by omega
    have hlt2 : (d + i - a).toNat < l2.length := by omega
    rw [q_X8_samePart_35, if_pos (by omega), gi_t (by omega) (by omega), wr_eq (x := d + i) (by omega) (by omega), wr_eq (by omega) (by omega), gi_t (by omega) (by omega), h.get hlt, h2.get hlt2, List.drop_eq_getElem_cons hlt, List.drop_eq_getElem_cons hlt2, List.take_succ_cons, List.take_succ_cons]
    by_cases e : l[i.toNat] = l2[(d + i - a).toNat]
    · rw [if_pos e, wr_eq (by omega) (by omega), s_samePart35 h h2 ha hd hb hd2 k (i + 1) (by omega) (by omega)]
      rw [show (i + 1).toNat = i.toNat + 1 by omega, show (d + (i + 1) - a).toNat = (d + i - a).toNat + 1 by omega]
      simp [e]
    · rw [if_neg e, gz_0]
      simp [e]
theorem s_samePart {μ : Mem} {t o : Nat} {l l2 : List Int} {a b d : Int} (h : TH μ t l) (h2 : TH μ o l2) (ha : 0 ≤ a) (hab : a ≤ b) (hd : 0 ≤ d) (hb : b ≤ (l.length : Int)) (hd2 : d + (b - a) ≤ (l2.length : Int)) :
    f_X8_samePart [vR 8 t, vI a, vI b, vR 8 o, vI d] μ = some (some (vI (if (l.drop a.toNat).take (b - a).toNat = (l2.drop d.toNat).take (b - a).toNat then 1 else 0)), μ) := by
  have h3 := h.le
  have h4 := h2.le
  rw [q_X8_samePart, if_neg (by omega), if_neg (by omega), h.1, if_pos hb, h2.1, wr_eq (by omega) (by omega), wr_eq (by omega) (by omega), if_pos (by omega), s_samePart35 h h2 ha hd hb hd2 (b - a).toNat a (by omega) (by omega)]
  rw [show d + a - a = d by omega]
theorem s_same {μ : Mem} {t o : Nat} {l l2 : List Int} (h : TH μ t l) (h2 : TH μ o l2) : f_X8_same [vR 8 t, vR 8 o] μ = some (some (vI (if l = l2 then 1 else 0)), μ) := by
  rw [q_X8_same, h.1, h2.1]
  by_cases e : (l.length : Int) = (l2.length : Int)
  · have e2 : l.length = l2.length := by omega
    rw [if_pos e, s_samePart h h2 (by omega) (by omega) (by omega) (by omega) (by omega), cI_t]
    have e3 : ((l.length : Int) - 0).toNat = l.length := by omega
    rw [e3]
    have e4 : (List.drop (0 : Int).toNat l).take l.length = l := by simp
    have e5 : (List.drop (0 : Int).toNat l2).take l.length = l2 := by rw [e2]; simp
    rw [e4, e5]
    by_cases h3 : l = l2
    · simp [h3, gz_1]
    · simp [h3, gz_0]
  · rw [if_neg e, gz_0, if_neg (fun q => e (by rw [q]))]
theorem s_mark7 {μ : Mem} {t : Nat} {l : List Int} (h : TH μ t l) : ∀ (k : Nat) (i x : Int), 0 ≤ i → (l.length : Int) - i = (k : Int) → ∃ y, e_X8_mark_7 t x i μ = some (some (vI y), μ)
  | 0, i, x, h0, hk => ⟨x, by rw [q_X8_mark_7, h.1, if_neg (by omega)]⟩
  | k + 1, i, x, h0, hk => by
    have h3 := h.le
    have h5 := h.2.1
    obtain ⟨y, hy⟩ := s_mark7 h k (i + 1) (wr (wr (31 * x) + μ (t + 1) i.toNat)) (by omega) (by omega)
    exact ⟨y, by rw [q_X8_mark_7, h.1, if_pos (by omega), gi_t h0 (by omega), wr_eq (x := i + 1) (by omega) (by omega)]; exact hy⟩
theorem s_mark {μ : Mem} {t : Nat} {l : List Int} (h : TH μ t l) : ∃ y, f_X8_mark [vR 8 t] μ = some (some (vI y), μ) := by
  rw [q_X8_mark]
  exact s_mark7 h l.length 0 _ (by omega) (by omega)
