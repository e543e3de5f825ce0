/-! leans -/
theorem TG_lt {μ ν : Mem} (hS : RelS μ ν) (hP : RelP μ ν) {e k : Nat} (q : Relation.TransGen (USE ν) e k) : (k : Int) < ν 0 5 := by
  cases q with
  | single q => exact USE_lt hS hP q
  | tail _ q => exact USE_lt hS hP q
theorem TG_7 {ν : Mem} {e k : Nat} (q : Relation.TransGen (USE ν) e k) : (e : Int) < ν 0 5 ∧ ν 7 e = 2 := by
  induction q with
  | single q => exact ⟨q.1, q.2.1⟩
  | tail _ _ ih => exact ih
theorem s_underOf {μ ν : Mem} (hS : RelS μ ν) (hP : RelP μ ν) (hL : RelL μ ν) {e : Nat} (he : (e : Int) < ν 0 5) : ∃ m, f_X3_underOf [vR 3 23, vI e] μ = some (some (vI m), μ) ∧ MK m (fun k => Relation.TransGen (USE ν) e k) := by
  have hs := hS.2.2.2.2.2.2.2.2 e he
  have h24 := hS.2.1
  rw [q_X3_underOf, get_t hS ⟨by omega, he⟩, cR_s, show ((e : Int)).toNat = e by omega, hs.2.2.2.2.1]
  by_cases h7 : ν 7 e = 2
  · rw [if_pos h7]
    obtain ⟨l1, l2, l3, l4, l5, ⟨l6, l7, l8⟩, l9⟩ := hL e he h7
    refine ⟨_, rfl, ⟨by omega, by omega⟩, fun k hk => ?_⟩
    by_cases hk2 : k < 24
    · exact l8 k hk2
    · rw [tb_hi (n := 24) (by omega) (by show _ < (16777216 : Int); exact l7) (by omega)]
      refine ⟨fun q => (by cases q), fun q => ?_⟩
      have := TG_lt hS hP q
      omega
  · rw [if_neg h7]
    exact ⟨0, rfl, MK.zero.congr (fun k => ⟨fun q => q.elim, fun q => h7 (TG_7 q).2⟩)⟩
theorem s_over4 {μ ν : Mem} (hS : RelS μ ν) (hP : RelP μ ν) (hL : RelL μ ν) {e : Nat} (he : (e : Int) < ν 0 5) {n : Nat} (hn : ν 0 5 = (n : Int)) : ∀ (j i : Nat) (m : Int), i + j = n → MK m (fun g => g < i ∧ Relation.TransGen (USE ν) g e) → ∃ m', e_X3_overOf_4 e m i μ = some (some (vI m'), μ) ∧ MK m' (fun g => Relation.TransGen (USE ν) g e)
  | 0, i, m, hj, hm => by
    obtain rfl : i = n := by omega
    rw [q_X3_overOf_4, hS.2.2.1, hn, if_neg (by omega)]
    exact ⟨m, rfl, hm.congr (fun g => ⟨fun q => q.2, fun q => ⟨by have := (TG_7 q).1; omega, q⟩⟩)⟩
  | j + 1, i, m, hj, hm => by
    have h24 := hS.2.1
    obtain ⟨u, a1, a2⟩ := s_underOf hS hP hL (e := i) (by omega)
    rw [q_X3_overOf_4, hS.2.2.1, hn, if_pos (by omega), a1, cI_t, wr_eq (x := (i : Int) + 1) (by omega) (by omega), show (i : Int) + 1 = ((i + 1 : Nat) : Int) by omega]
    have hb := a2.bit (k := e) (by omega)
    by_cases hi : Relation.TransGen (USE ν) i e
    · rw [hb.1 hi, if_neg ten]
      refine s_over4 hS hP hL he hn j (i + 1) _ (by omega) ((hm.or (MK.shl (f := i) (by omega))).congr (fun g => ⟨?_, ?_⟩))
      · rintro (q | q)
        · exact ⟨by omega, q.2⟩
        · exact ⟨by omega, by rw [q]; exact hi⟩
      · rintro ⟨q1, q2⟩
        by_cases z : g = i
        · exact Or.inr z
        · exact Or.inl ⟨by omega, q2⟩
    · rw [hb.2 hi, if_pos rfl]
      refine s_over4 hS hP hL he hn j (i + 1) _ (by omega) (hm.congr (fun g => ⟨fun q => ⟨by omega, q.2⟩, fun ⟨q1, q2⟩ => ⟨?_, q2⟩⟩))
      by_cases z : g = i
      · rw [z] at q2; exact absurd q2 hi
      · omega
theorem s_overOf {μ ν : Mem} (hS : RelS μ ν) (hP : RelP μ ν) (hL : RelL μ ν) {e : Nat} (he : (e : Int) < ν 0 5) : ∃ m, f_X3_overOf [vR 3 23, vI e] μ = some (some (vI m), μ) ∧ MK m (fun g => Relation.TransGen (USE ν) g e) := by
  rw [q_X3_overOf]
  obtain ⟨n, hn⟩ : ∃ n : Nat, ν 0 5 = (n : Int) := ⟨(ν 0 5).toNat, by omega⟩
  exact s_over4 hS hP hL he hn n 0 0 (by omega) (MK.zero.congr (fun g => ⟨fun q => q.elim, fun q => by omega⟩))
theorem s_leaning4 {μ ν : Mem} (hS : RelS μ ν) (hP : RelP μ ν) {e : Nat} (he : (e : Int) < ν 0 5) {n : Nat} (hn : ν 0 5 = (n : Int)) : ∀ (j i : Nat) (m : Int), i + j = n → MK m (fun g => g < i ∧ Relation.TransGen (USE ν) g e) → ∃ m', e_X12_leaning_4 e m i ν = some (some (vI m'), ν) ∧ MK m' (fun g => Relation.TransGen (USE ν) g e)
  | 0, i, m, hj, hm => by
    obtain rfl : i = n := by omega
    rw [q_X12_leaning_4, hn, if_neg (by omega)]
    exact ⟨m, rfl, hm.congr (fun g => ⟨fun q => q.2, fun q => ⟨by have := (TG_7 q).1; omega, q⟩⟩)⟩
  | j + 1, i, m, hj, hm => by
    have h24 := hS.2.1
    obtain ⟨u, a1, a2⟩ := s_leansOf hS hP (e := i) (by omega)
    rw [q_X12_leaning_4, hn, if_pos (by omega), a1, cI_t, wr_eq (x := (i : Int) + 1) (by omega) (by omega), show (i : Int) + 1 = ((i + 1 : Nat) : Int) by omega]
    have hb := a2.bit (k := e) (by omega)
    by_cases hi : Relation.TransGen (USE ν) i e
    · rw [hb.1 hi, if_pos rfl]
      refine s_leaning4 hS hP he hn j (i + 1) _ (by omega) ((hm.or (MK.shl (f := i) (by omega))).congr (fun g => ⟨?_, ?_⟩))
      · rintro (q | q)
        · exact ⟨by omega, q.2⟩
        · exact ⟨by omega, by rw [q]; exact hi⟩
      · rintro ⟨q1, q2⟩
        by_cases z : g = i
        · exact Or.inr z
        · exact Or.inl ⟨by omega, q2⟩
    · rw [hb.2 hi, if_neg (by decide)]
      refine s_leaning4 hS hP he hn j (i + 1) _ (by omega) ((hm.or MK.zero).congr (fun g => ⟨fun q => q.elim (fun q => ⟨by omega, q.2⟩) False.elim, fun ⟨q1, q2⟩ => Or.inl ⟨?_, q2⟩⟩))
      by_cases z : g = i
      · rw [z] at q2; exact absurd q2 hi
      · omega
theorem s_leaning {μ ν : Mem} (hS : RelS μ ν) (hP : RelP μ ν) {e : Nat} (he : (e : Int) < ν 0 5) : ∃ m, f_X12_leaning [vR 12 0, vI e] ν = some (some (vI m), ν) ∧ MK m (fun g => Relation.TransGen (USE ν) g e) := by
  rw [q_X12_leaning]
  obtain ⟨n, hn⟩ : ∃ n : Nat, ν 0 5 = (n : Int) := ⟨(ν 0 5).toNat, by omega⟩
  exact s_leaning4 hS hP he hn n 0 0 (by omega) (MK.zero.congr (fun g => ⟨fun q => q.elim, fun q => by omega⟩))
theorem s_mask4 {μ ν : Mem} (hS : RelS μ ν) {st : Int} {n : Nat} (hn : ν 0 5 = (n : Int)) : ∀ (j i : Nat) (m : Int), i + j = n → MK m (fun g => g < i ∧ ν 7 g = st) → ∃ m', e_X3_maskOf_4 st m i μ = some (some (vI m'), μ) ∧ MK m' (fun g => g < n ∧ ν 7 g = st)
  | 0, i, m, hj, hm => by
    obtain rfl : i = n := by omega
    rw [q_X3_maskOf_4, hS.2.2.1, hn, if_neg (by omega)]
    exact ⟨m, rfl, hm⟩
  | j + 1, i, m, hj, hm => by
    have h24 := hS.2.1
    have hs := hS.2.2.2.2.2.2.2.2 i (by omega)
    rw [q_X3_maskOf_4, hS.2.2.1, hn, if_pos (by omega), gk (lnC 24) 24 rfl (by omega) (by omega), show ((i : Int)).toNat = i by omega, hs.2.2.2.2.1, wr_eq (x := (i : Int) + 1) (by omega) (by omega), show (i : Int) + 1 = ((i + 1 : Nat) : Int) by omega]
    by_cases hi : ν 7 i = st
    · rw [if_pos hi]
      refine s_mask4 hS hn j (i + 1) _ (by omega) ((hm.or (MK.shl (f := i) (by omega))).congr (fun g => ⟨?_, ?_⟩))
      · rintro (q | q)
        · exact ⟨by omega, q.2⟩
        · exact ⟨by omega, by rw [q]; exact hi⟩
      · rintro ⟨q1, q2⟩
        by_cases z : g = i
        · exact Or.inr z
        · exact Or.inl ⟨by omega, q2⟩
    · rw [if_neg hi]
      refine s_mask4 hS hn j (i + 1) _ (by omega) (hm.congr (fun g => ⟨fun q => ⟨by omega, q.2⟩, fun ⟨q1, q2⟩ => ⟨?_, q2⟩⟩))
      by_cases z : g = i
      · rw [z] at q2; exact absurd q2 hi
      · omega
theorem s_maskOf {μ ν : Mem} (hS : RelS μ ν) (st : Int) : ∃ m, f_X3_maskOf [vR 3 23, vI st] μ = some (some (vI m), μ) ∧ MK m (fun g => (g : Int) < ν 0 5 ∧ ν 7 g = st) := by
  rw [q_X3_maskOf]
  have h0 := hS.1
  obtain ⟨n, hn⟩ : ∃ n : Nat, ν 0 5 = (n : Int) := ⟨(ν 0 5).toNat, by omega⟩
  obtain ⟨m, a1, a2⟩ := s_mask4 (st := st) hS hn n 0 0 (by omega) (MK.zero.congr (fun g => ⟨fun q => q.elim, fun q => by omega⟩))
  exact ⟨m, a1, a2.congr (fun g => ⟨fun q => ⟨by omega, q.2⟩, fun q => ⟨by omega, q.2⟩⟩)⟩
theorem tb_not : ∀ f : Nat, f < 24 → ∀ k : Nat, k < 32 → tb (bXor (bShl 1 (f : Int)) (-1)) k = decide (k ≠ f) := by decide +kernel
theorem in32_bXor (x y : Int) : in32 (bXor x y) := by
  unfold in32 bXor
  exact ⟨Int32.le_toInt _, by have := Int32.toInt_lt (q32 x ^^^ q32 y); omega⟩
theorem MK.not {f : Nat} (h : f < 24) : MK (bXor (bShl 1 (f : Int)) (-1)) (fun k => k ≠ f) := ⟨in32_bXor _ _, fun k hk => by rw [tb_not f h k hk]; simp⟩
theorem s_leans44 {μ ν : Mem} (hS : RelS μ ν) {P : Nat → Prop} {n : Nat} (hn : ν 0 5 = (n : Int)) (hPn : ∀ k, P k → k < n) : ∀ (j i : Nat) (m : Int) (o1 : Option AV), i + j = n → MK m (fun g => P g ∧ (g < i → ν 7 g = 0)) → ∃ m', e_X12_leans_44 o1 1 m i ν = some (some (vI m'), ν) ∧ MK m' (fun g => P g ∧ ν 7 g = 0)
  | 0, i, m, o1, hj, hm => by
    obtain rfl : i = n := by omega
    rw [q_X12_leans_44, hn, if_neg (by omega)]
    exact ⟨m, rfl, hm.congr (fun g => ⟨fun q => ⟨q.1, q.2 (hPn g q.1)⟩, fun q => ⟨q.1, fun _ => q.2⟩⟩)⟩
  | j + 1, i, m, o1, hj, hm => by
    have h24 := hS.2.1
    rw [q_X12_leans_44, hn, if_pos (by omega), if_pos rfl, gk (lnR 7) 24 rfl (by omega) (by omega), show ((i : Int)).toNat = i by omega, wr_eq (x := (i : Int) + 1) (by omega) (by omega), show (i : Int) + 1 = ((i + 1 : Nat) : Int) by omega]
    by_cases hi : ν 7 i = 0
    · rw [if_pos hi]
      refine s_leans44 hS hn hPn j (i + 1) _ o1 (by omega) ((hm.and hm).congr (fun g => ⟨fun q => ⟨q.1.1, fun z => ?_⟩, fun q => ⟨⟨q.1, fun z => q.2 (by omega)⟩, ⟨q.1, fun z => q.2 (by omega)⟩⟩⟩))
      by_cases w : g = i
      · rw [w]; exact hi
      · exact q.1.2 (by omega)
    · rw [if_neg hi]
      refine s_leans44 hS hn hPn j (i + 1) _ o1 (by omega) ((hm.and (MK.not (f := i) (by omega))).congr (fun g => ⟨fun q => ⟨q.1.1, fun z => q.1.2 (by have := q.2; omega)⟩, fun q => ⟨⟨q.1, fun z => q.2 (by omega)⟩, fun w => hi (by rw [← w]; exact q.2 (by omega))⟩⟩))
theorem sim_leans (μ ν : Mem) (x1 x2 : Int) (_ : in32 x1) (_ : in32 x2) (h : Rel μ ν) : Sm Rel f_X11_leans f_X12_leans [vI x1, vI x2] μ ν := by
  unfold Sm
  have hS := h.2.2.2.1
  have hP := h.2.2.2.2.1
  have hL := h.2.2.2.2.2.2.2.1
  rw [q_X11_leans, q_X12_leans]
  by_cases hx : ¬ (0 ≤ x1 ∧ x1 < ν 0 5)
  · rw [get_f hS hx, cR_n, isS_f hS hx, cI_t, if_pos rfl]
    exact ⟨-1, μ, ν, rfl, rfl, h⟩
  replace hx := Decidable.not_not.mp hx
  obtain ⟨e, rfl⟩ : ∃ e : Nat, x1 = (e : Int) := ⟨x1.toNat, by omega⟩
  rw [get_t hS hx, cR_s, isS_t hS hx, cI_t, if_neg ten, s_in, cI_t]
  obtain ⟨n, hn⟩ : ∃ n : Nat, ν 0 5 = (n : Int) := ⟨(ν 0 5).toNat, by omega⟩
  obtain ⟨u, u1, u2⟩ := s_underOf hS hP hL hx.2
  obtain ⟨l, l1, l2⟩ := s_leansOf hS hP hx.2
  have eul : u = l := u2.eq l2
  subst eul
  by_cases c0 : x2 = 0
  · subst c0
    rw [if_pos rfl, u1, cI_t, if_pos (show (0 : Int) ≤ 0 ∧ (0 : Int) ≤ 2 by omega), if_neg ten, if_neg (show ¬ (0 : Int) = 2 by decide), l1, cI_t]
    refine ⟨u, μ, ν, rfl, ?_, h⟩
    rw [q_X12_leans_44, if_neg (show ¬ (0 : Int) = 1 by decide)]
    exact ite_self _
  rw [if_neg c0]
  by_cases c1 : x2 = 1
  · subst c1
    obtain ⟨w, w1, w2⟩ := s_maskOf hS 0
    obtain ⟨z, z1, z2⟩ := s_leans44 hS (P := fun k => Relation.TransGen (USE ν) e k) hn (fun k q => by have := TG_lt hS hP q; omega) n 0 u (some (vI (e : Int))) (by omega) (u2.congr (fun g => ⟨fun q => ⟨q, fun w => by omega⟩, fun q => q.1⟩))
    have z1' : e_X12_leans_44 (some (vI (e : Int))) 1 u 0 ν = _ := z1
    rw [if_pos rfl, u1, cI_t, w1, cI_t, if_pos (show (0 : Int) ≤ 1 ∧ (1 : Int) ≤ 2 by omega), if_neg ten, if_neg (show ¬ (1 : Int) = 2 by decide), l1, cI_t, z1', ((u2.and w2).congr (fun g => ⟨fun q => ⟨q.1, q.2.2⟩, fun q => ⟨q.1, TG_lt hS hP q.1, q.2⟩⟩)).eq z2]
    exact ⟨z, μ, ν, rfl, rfl, h⟩
  rw [if_neg c1]
  by_cases c2 : x2 = 2
  · subst c2
    obtain ⟨a, a1, a2⟩ := s_overOf hS hP hL hx.2
    obtain ⟨b, b1, b2⟩ := s_leaning hS hP hx.2
    rw [if_pos rfl, a1, cI_t, if_pos (show (0 : Int) ≤ 2 ∧ (2 : Int) ≤ 2 by omega), if_neg ten, if_pos rfl, b1, cI_t, a2.eq b2]
    refine ⟨b, μ, ν, rfl, ?_, h⟩
    rw [q_X12_leans_44, if_neg (show ¬ (2 : Int) = 1 by decide)]
    exact ite_self _
  · rw [if_neg c2, if_neg (show ¬ (0 ≤ x2 ∧ x2 ≤ 2) by omega), if_pos rfl]
    exact ⟨-1, μ, ν, rfl, rfl, h⟩
