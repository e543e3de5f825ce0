/-! prove, proof, step -/
theorem s_isOpenC {μ ν : Mem} (h : RelS μ ν) {e : Nat} (he : (e : Int) < ν 0 5) : f_X2_isOpen [vR 2 (31 + 5 * e)] μ = some (some (vI (if ν 7 e = 1 ∨ ν 7 e = 3 then 1 else 0)), μ) := by
  have hs := h.2.2.2.2.2.2.2.2 e he
  rw [q_X2_isOpen, hs.2.2.2.2.1, gz_1, gz_0]
  by_cases h0 : ν 7 e = 1
  · rw [if_pos h0, if_pos (Or.inl h0)]
  · rw [if_neg h0]
    by_cases h2 : ν 7 e = 3
    · rw [if_pos h2, if_pos (Or.inr h2)]
    · rw [if_neg h2, if_neg (by omega)]
theorem s_isOpenR {ν : Mem} {e : Nat} (he : e < 24) : f_X12_isOpen [vR 12 0, vI e] ν = some (some (vI (if ν 7 e = 1 ∨ ν 7 e = 3 then 1 else 0)), ν) := by
  rw [q_X12_isOpen, gk (lnR 7) 24 rfl (by omega) (by omega), gk (lnR 7) 24 rfl (by omega) (by omega), gz_1, gz_0, show ((e : Int)).toNat = e by omega]
  by_cases h0 : ν 7 e = 1
  · rw [if_pos h0, if_pos (Or.inl h0)]
  · rw [if_neg h0]
    by_cases h2 : ν 7 e = 3
    · rw [if_pos h2, if_pos (Or.inr h2)]
    · rw [if_neg h2, if_neg (by omega)]
theorem sL_len {μ ν : Mem} (hS : RelS μ ν) {e : Nat} (he : (e : Int) < ν 0 5) : ((sL ν e 0).length : Int) = ν 6 (2 * e) := by
  have hs := (hS.2.2.2.2.2.2.2.2 e he).1.1
  rw [show 2 * e + 0 = 2 * e by omega] at hs
  unfold sL
  rw [sg_len, show 2 * e + 0 = 2 * e by omega]
  omega
theorem sim_prove (μ ν : Mem) (x : Int) (_ : in32 x) (h : Rel μ ν) : Sm Rel f_X11_prove f_X12_prove [vI x] μ ν := by
  unfold Sm
  have hS := h.2.2.2.1
  rw [q_X11_prove, q_X12_prove]
  by_cases hx : ¬ (0 ≤ x ∧ x < ν 0 5)
  · rw [get_f hS hx, cR_n, isS_f hS hx, cI_t, if_pos rfl]
    exact ⟨-1, μ, ν, rfl, rfl, h⟩
  replace hx := Decidable.not_not.mp hx
  obtain ⟨e, rfl⟩ : ∃ e : Nat, x = (e : Int) := ⟨x.toNat, by omega⟩
  have h24 := hS.2.1
  rw [get_t hS hx, cR_s, isS_t hS hx, cI_t, if_neg ten, show ((e : Int)).toNat = e by omega, s_isOpenC hS hx.2, cI_t, s_isOpenR (by omega), cI_t]
  by_cases ho : ν 7 e = 1 ∨ ν 7 e = 3
  · rw [if_pos ho, if_neg ten, if_neg ten]
    obtain ⟨μ', a1, a2, a3, a4, a5⟩ := s_rowBegin (v0 := 163) (Or.inl rfl) hS hx.2
    rw [a1, cV_t, s_now (v0 := 163) (n := 0) (Or.inl rfl) a4 (by omega), cR_s, wr_eq (x := 2 * (e : Int)) (by omega) (by omega), gk (lnR 6) 48 rfl (by omega) (by omega), show (2 * (e : Int)).toNat = 2 * e by omega]
    have e1 : μ' (163 + 5 + 1 + 2 * 0) 1 = ν 6 (2 * e) := a5.1.trans (sL_len hS hx.2)
    rw [e1]
    have m : FrM ν (up (up ν 0 45 (e : Int)) 0 46 0) := ⟨fun c h1 _ => by rw [up_cell (by omega), up_cell (by omega)], rfl, rfl, rfl⟩
    refine ⟨_, _, _, rfl, rfl, rel_I h (fun c hc => a2 c (by omega)) (fun c hc _ => by rw [up_cell hc, up_cell hc]) (fun j q1 q2 => by rw [up_slot q2, up_slot q1]) (Or.inr ⟨?_, ?_, ?_, ?_, ?_, ?_, ?_, fun _ => sL ν e 0, ?_, fun i hi => ?_, fun i hi => ?_⟩)⟩
    · show 0 ≤ (e : Int); omega
    · exact hx.2
    · show ν 7 ((e : Int)).toNat = 1 ∨ ν 7 ((e : Int)).toNat = 3
      rw [show ((e : Int)).toNat = e by omega]
      exact ho
    · exact a3
    · exact a4
    · show (0 : Int) ≤ 0; omega
    · show (0 : Int) ≤ 20; omega
    · show sL ν e 0 = sL _ ((e : Int)).toNat 0
      rw [frM_sL m, show ((e : Int)).toNat = e by omega]
    · have hi2 : (i : Int) ≤ 0 := hi
      obtain rfl : i = 0 := by omega
      exact a5
    · have hi2 : (i : Int) < 0 := hi
      omega
  · rw [if_neg ho, if_pos rfl, if_pos rfl]
    exact ⟨-2, μ, ν, rfl, rfl, h⟩
/-- THE PROOF in hand, on both sides -/
theorem inHand {μ ν : Mem} (h : Rel μ ν) (h45 : ¬ ν 0 45 = -4) : ∃ (e n : Nat) (T : List Int), ν 0 45 = (e : Int) ∧ ν 0 46 = (n : Int) ∧ n ≤ 20 ∧ (e : Int) < ν 0 5 ∧ (ν 7 e = 1 ∨ ν 7 e = 3) ∧ μ 163 7 = (e : Int) ∧ μ 163 8 = (n : Int) ∧ TH μ (163 + 5 + 1 + 2 * n) T ∧ okT ν T ∧ ∃ ν', f_X12_findTerm [vR 12 0] ν = some (none, ν') ∧ FrV ν ν' ∧ RT ν' 20 36 T := by
  obtain ⟨hT, hH, hW, hS, hP, hI, hD, hL, hG, hC⟩ := h
  rcases hI with ⟨a, b, c⟩ | ⟨h1, h2, h3, h4, h5, h6, h7, Ts, h8, h9, h10⟩
  · exact absurd a h45
  · obtain ⟨e, he⟩ : ∃ e : Nat, ν 0 45 = (e : Int) := ⟨(ν 0 45).toNat, by omega⟩
    obtain ⟨n, hn⟩ : ∃ n : Nat, ν 0 46 = (n : Int) := ⟨(ν 0 46).toNat, by omega⟩
    rw [he] at h2 h3 h4 h8
    rw [hn] at h5 h7
    rw [show ((e : Int)).toNat = e by omega] at h3 h8
    obtain ⟨ν', a1, a2, a3, a4⟩ := s_findTerm (Ts := Ts) hW hS h2 he hn (by omega) h8 (fun i hi => by
      obtain ⟨q1, _, _, _, _, q2, q3, _⟩ := h10 i (by omega)
      exact ⟨q1, q2, q3⟩)
    refine ⟨e, n, Ts n, he, hn, by omega, h2, h3, h4, h5, ?_, a4, ν', a1, a2, a3⟩
    rw [show 163 + 5 + 1 + 2 * n = 169 + 2 * n by omega]
    exact h9 n (by omega)
theorem drop_t {μ ν : Mem} (h : Rel μ ν) : f_X1_isDropped [vR 1 163] μ = some (some (vI (if ν 0 45 = -4 then 1 else 0)), μ) := by
  rw [q_X1_isDropped, gz_1, gz_0]
  rcases h.2.2.2.2.2.1 with ⟨a, b, c⟩ | ⟨h1, h2, h3, h4, -⟩
  · rw [if_pos a, b, if_pos (by omega)]
  · rw [if_neg (show ¬ ν 0 45 = -4 by omega), h4, if_neg (by omega)]
theorem sim_proof (μ ν : Mem) (x : Int) (hx : in32 x) (h : Rel μ ν) : Sm Rel f_X11_proof f_X12_proof [vI x] μ ν := by
  unfold Sm
  have hS := h.2.2.2.1
  have hx' : -2147483648 ≤ x ∧ x ≤ 2147483647 := hx
  rw [q_X11_proof, q_X12_proof, q_X11_proof_29, drop_t h, cI_t, cI_t]
  by_cases h45 : ν 0 45 = -4
  · rw [if_pos h45, if_pos h45, if_neg ten, if_neg ten, s_in, cI_t]
    by_cases hr : 0 ≤ x ∧ x ≤ 3
    · rw [if_pos hr, if_neg ten, if_pos (show x < 10 by omega), if_neg (show ¬ x < 0 by omega), if_pos hr.2]
      exact ⟨-2, μ, ν, rfl, rfl, h⟩
    · rw [if_neg hr, if_pos rfl]
      refine ⟨-1, μ, ν, ?_, rfl, h⟩
      by_cases h0 : x < 0
      · rw [if_pos (show x < 10 by omega), if_pos h0]
      · by_cases h10 : x < 10
        · rw [if_pos h10, if_neg h0, if_neg (show ¬ x ≤ 3 by omega)]
        · rw [if_neg h10, q_X11_proof_29, if_neg h0, if_neg (show ¬ x ≤ 3 by omega)]
  · obtain ⟨e, n, T, p1, p2, p3, p4, p5, p6, p7, p8, p9, ν', p10, p11, p12⟩ := inHand h h45
    have hM := frV_M p11
    have hl20 := p9.2.2
    have h24 := hS.2.1
    have hne : T ≠ [] := isT_ne p9.1
    have hr : Rel μ ν' := rel_scrR h (frV_R p11)
    have hs := hS.2.2.2.2.2.2.2.2 e p4
    rw [if_neg h45, if_neg h45, if_pos rfl, if_pos rfl, p10, cV_t, p12.2, wr_eq (x := 9 + (T.length : Int)) (by omega) (by omega), s_in, cI_t, s_now (v0 := 163) (n := n) (Or.inl rfl) p7 p3, cR_s, cR_s, q_X11_letterAt, s_arrived (v0 := 163) (n := n) (Or.inl rfl) hS p4 p6 p7 p3 p8, cI_t, p8.1, p6, p7, p11.2 45 (by omega) (by omega) (by omega) (by omega), p11.2 46 (by omega) (by omega) (by omega) (by omega), p1, p2, s_isAtRight (e := e) (by omega) (by rw [frM_c hM (by omega)]; have := hs.2.1.1; omega) p12 hne, cI_t, frM_sL hM]
    by_cases h10 : x < 10
    · rw [if_pos h10, if_neg (show ¬ (10 ≤ x ∧ x ≤ 9 + (T.length : Int)) by omega), if_pos rfl]
      by_cases c0 : x < 0
      · rw [if_pos c0, if_neg (show ¬ x = 0 by omega), if_neg (show ¬ x = 1 by omega), if_neg (show ¬ x = 2 by omega), if_neg (show ¬ x = 3 by omega)]
        exact ⟨_, _, _, rfl, rfl, hr⟩
      rw [if_neg c0]
      by_cases c3 : ¬ x ≤ 3
      · rw [if_neg c3, if_neg (show ¬ x = 0 by omega), if_neg (show ¬ x = 1 by omega), if_neg (show ¬ x = 2 by omega), if_neg (show ¬ x = 3 by omega)]
        exact ⟨_, _, _, rfl, rfl, hr⟩
      rw [if_pos (Decidable.not_not.mp c3)]
      by_cases d0 : x = 0
      · rw [if_pos d0, if_pos d0]
        exact ⟨_, _, _, rfl, rfl, hr⟩
      rw [if_neg d0, if_neg d0]
      by_cases d1 : x = 1
      · rw [if_pos d1, if_pos d1]
        exact ⟨_, _, _, rfl, rfl, hr⟩
      rw [if_neg d1, if_neg d1]
      by_cases d2 : x = 2
      · rw [if_pos d2, if_pos d2, p12.2]
        exact ⟨_, _, _, rfl, rfl, hr⟩
      rw [if_neg d2, if_neg d2, if_pos (show x = 3 by omega)]
      by_cases q : T = sL ν e 1
      · rw [if_pos q, if_neg ten, if_neg ten]
        exact ⟨_, _, _, rfl, rfl, hr⟩
      · rw [if_neg q, if_pos rfl, if_pos rfl]
        exact ⟨_, _, _, rfl, rfl, hr⟩
    · rw [if_neg h10, if_neg h10, wr_eq (x := x - 10) (by omega) (by omega), s_at p8, cI_t]
      by_cases hin : x - 10 < (T.length : Int)
      · obtain ⟨i, hi⟩ : ∃ i : Nat, x - 10 = (i : Int) := ⟨(x - 10).toNat, by omega⟩
        have hil : i < T.length := by omega
        rw [if_pos hin, if_pos (show 10 ≤ x ∧ x ≤ 9 + (T.length : Int) by omega), if_neg ten, hi, gk (lnR 20) 20 rfl (by omega) (by omega), show ((i : Int)).toNat = i by omega, p12.1.get hil, atL_in (x := T[i]) (by omega) (by rw [show ((i : Int)).toNat = i by omega]; exact List.getElem?_eq_getElem hil)]
        exact ⟨_, _, _, rfl, rfl, hr⟩
      · rw [if_neg hin, if_neg (show ¬ (10 ≤ x ∧ x ≤ 9 + (T.length : Int)) by omega), if_pos rfl, if_neg (show ¬ x = 0 by omega), if_neg (show ¬ x = 1 by omega), if_neg (show ¬ x = 2 by omega), if_neg (show ¬ x = 3 by omega)]
        exact ⟨_, _, _, rfl, rfl, hr⟩
theorem rel_IS {μ μ' ν ν' : Mem} (h : Rel μ ν) (kc : ∀ c, (c < 157 ∨ 211 ≤ c) → μ' c = μ c) (kr : ∀ c, c ≠ 0 → ¬ (26 ≤ c ∧ c ≤ 28) → ν' c = ν c) (k0 : ∀ j, j ≠ 45 → j ≠ 46 → ν' 0 j = ν 0 j) (hI' : RelI μ' ν') : Rel μ' ν' := by
  have e1 : ∀ c, (c < 163 ∨ 211 ≤ c) → (fun c => if 163 ≤ c ∧ c < 211 then μ' c else μ c : Mem) c = μ c := fun c hc => if_neg (by omega)
  have e2 : ∀ c, 163 ≤ c ∧ c < 211 → (fun c => if 163 ≤ c ∧ c < 211 then μ' c else μ c : Mem) c = μ' c := fun c hc => if_pos hc
  generalize (fun c => if 163 ≤ c ∧ c < 211 then μ' c else μ c : Mem) = μm at *
  have h1 : Rel μm ν' := rel_I h e1 kr k0 (hI'.kept (fun c q1 q2 => e2 c (by omega)))
  refine rel_scr h1 (fun c hc => ?_)
  unfold scr at hc
  by_cases q : 163 ≤ c ∧ c < 211
  · exact (e2 c q).symm
  · rw [e1 c (by omega), kc c (by omega)]
theorem rowUp_o {μ : Mem} {v0 n c : Nat} {k w p q : Int} (h : ¬ (v0 ≤ c ∧ c ≤ v0 + 4)) : rowUp μ v0 n k w p q c = μ c := by
  unfold rowUp
  rw [up_cell (by omega), up_cell (by omega), up_cell (by omega), up_cell (by omega), up_cell (by omega)]
theorem up_if {μ : Mem} {c n i : Nat} {v : Int} : up μ c n v c i = if i = n then v else μ c i := by
  by_cases h : i = n
  · subst h; rw [up_same, if_pos rfl]
  · rw [up_slot h, if_neg h]
theorem rowUp_0 {μ : Mem} {v0 n i : Nat} {k w p q : Int} : rowUp μ v0 n k w p q v0 i = if i = 8 then ((n + 1 : Nat) : Int) else μ v0 i := by
  unfold rowUp
  rw [up_if, up_cell (by omega), up_cell (by omega), up_cell (by omega), up_cell (by omega)]
theorem rowUp_1 {μ : Mem} {v0 n i : Nat} {k w p q : Int} : rowUp μ v0 n k w p q (v0 + 1) i = if i = n then k else μ (v0 + 1) i := by
  unfold rowUp
  rw [up_cell (by omega), up_cell (by omega), up_cell (by omega), up_cell (by omega), up_if]
theorem rowUp_2 {μ : Mem} {v0 n i : Nat} {k w p q : Int} : rowUp μ v0 n k w p q (v0 + 2) i = if i = n then w else μ (v0 + 2) i := by
  unfold rowUp
  rw [up_cell (by omega), up_cell (by omega), up_cell (by omega), up_if, up_cell (by omega)]
theorem rowUp_3 {μ : Mem} {v0 n i : Nat} {k w p q : Int} : rowUp μ v0 n k w p q (v0 + 3) i = if i = n then p else μ (v0 + 3) i := by
  unfold rowUp
  rw [up_cell (by omega), up_cell (by omega), up_if, up_cell (by omega), up_cell (by omega)]
theorem rowUp_4 {μ : Mem} {v0 n i : Nat} {k w p q : Int} : rowUp μ v0 n k w p q (v0 + 4) i = if i = n then q else μ (v0 + 4) i := by
  unfold rowUp
  rw [up_cell (by omega), up_if, up_cell (by omega), up_cell (by omega), up_cell (by omega)]
def refUp (ν : Mem) (n : Nat) (k w p : Int) : Mem := up (up (up (up ν 26 n k) 27 n w) 28 n p) 0 46 ((n + 1 : Nat) : Int)
theorem sim_step (μ ν : Mem) (x1 x2 x3 : Int) (_ : in32 x1) (_ : in32 x2) (_ : in32 x3) (h : Rel μ ν) : Sm Rel f_X11_step f_X12_step [vI x1, vI x2, vI x3] μ ν := by
  unfold Sm
  have hS := h.2.2.2.1
  have hW := h.2.2.1
  rw [q_X11_step, q_X12_step, s_in, cI_t, drop_t h, cI_t]
  by_cases hk : ¬ (0 ≤ x1 ∧ x1 ≤ 3)
  · rw [if_neg hk, if_pos rfl]
    refine ⟨-1, μ, ν, ?_, rfl, h⟩
    by_cases h0 : x1 < 0
    · rw [if_pos h0]
    · rw [if_neg h0, if_neg (show ¬ x1 ≤ 3 by omega)]
  replace hk := Decidable.not_not.mp hk
  rw [if_pos hk, if_neg ten, if_neg (show ¬ x1 < 0 by omega), if_pos hk.2]
  by_cases h45 : ν 0 45 = -4
  · rw [if_pos h45, if_pos h45, if_neg ten]
    exact ⟨-2, μ, ν, rfl, rfl, h⟩
  obtain ⟨e, n, T, p1, p2, p3, p4, p5, p6, p7, p8, p9, ν', p10, p11, p12⟩ := inHand h h45
  rw [if_neg h45, if_neg h45, if_pos rfl, p2]
  by_cases h20 : n = 20
  · rw [if_pos (show (n : Int) = 20 by omega), q_X1_go, p7, if_neg (by omega), cI_t]
    exact ⟨-3, μ, ν, rfl, rfl, h⟩
  rw [if_neg (show ¬ (n : Int) = 20 by omega), p10, cV_t]
  have hM := frV_M p11
  have hr : Rel μ ν' := rel_scrR h (frV_R p11)
  obtain ⟨r, μ1, μ2, a1, a2, a3⟩ := s_rowGo (v0 := 163) (n := n) (kind := x1) (which := x2) (place := x3) (Or.inl rfl) hW hS p7 (by omega) p8 p9 hk (fun _ q => by
    rw [p6] at q
    rw [q, show ((e : Int)).toNat = e by omega]
    omega)
  obtain ⟨r2, ν2, b1, b2, b3⟩ := s_stepsR (kind := x1) (which := x2) (place := x3) hr.2.2.1 hr.2.2.2.1 (by rw [frM_ar hM]; exact p9.1) p12 hk
  rw [frM_stp hM] at b3
  rw [a1, cI_t, b1, cI_t]
  have hr2 : Rel μ ν2 := rel_scrR hr (frS_R b2)
  have hFa : ∀ c, c < 157 ∨ 211 ≤ c → μ1 c = μ c := fun c hc => a2 c (by unfold rwS; omega)
  cases hs : stp ν x1 x2 x3 T with
  | inl er =>
    rw [hs] at a3 b3
    have he := stp_inl hs
    have b3' : r2 = er := b3
    obtain ⟨a4, rfl⟩ := a3
    rw [if_pos (show r2 < 0 by omega), b3', a4]
    refine ⟨er, μ2, ν2, rfl, rfl, rel_IS hr2 hFa (fun _ _ _ => rfl) (fun _ _ _ => rfl) ?_⟩
    have k163 : ∀ c, 163 ≤ c → c ≤ 168 → μ2 c = μ c := fun c q1 q2 => a2 c (by unfold rwS; omega)
    rcases hr2.2.2.2.2.2.1 with ⟨a, b, c⟩ | ⟨h1, h2, h3, h4, h5, h6, h7, Ts, h8, h9, h10⟩
    · exact Or.inl ⟨a, by rw [k163 163 (by omega) (by omega)]; exact b, by rw [k163 163 (by omega) (by omega)]; exact c⟩
    · rw [p7] at h5
      refine Or.inr ⟨h1, h2, h3, by rw [k163 163 (by omega) (by omega)]; exact h4, by rw [k163 163 (by omega) (by omega), p7]; exact h5, h6, h7, Ts, h8, fun i hi => (h9 i hi).kept a2 (by unfold rwS; omega) (by unfold rwS; omega), fun i hi => ?_⟩
      rw [k163 164 (by omega) (by omega), k163 165 (by omega) (by omega), k163 166 (by omega) (by omega), k163 167 (by omega) (by omega)]
      exact h10 i hi
  | inr T' =>
    rw [hs] at a3 b3
    obtain ⟨c1, c2, rfl⟩ := a3
    obtain ⟨d1, d2⟩ := b3
    have e46 : ν2 0 46 = (n : Int) := by rw [b2.2 46 (by omega) (by omega) (by omega), p11.2 46 (by omega) (by omega) (by omega) (by omega)]; exact p2
    rw [if_neg (show ¬ r2 < 0 by omega)]
    have u1 : ∀ (m : Mem) (i : Nat) (v : Int), up m 26 i v 0 = m 0 := fun m i v => up_cell (by omega)
    have u2 : ∀ (m : Mem) (i : Nat) (v : Int), up m 27 i v 0 = m 0 := fun m i v => up_cell (by omega)
    have u3 : ∀ (m : Mem) (i : Nat) (v : Int), up m 28 i v 0 = m 0 := fun m i v => up_cell (by omega)
    have u4 : ∀ (m : Mem) (v : Int), up m 0 46 v 0 38 = m 0 38 := fun m v => up_slot (by omega)
    simp only [u1, u2, u3, u4, e46, d2.2, Int.toNat_natCast]
    rw [gk (lnR 26) 20 rfl (by omega) (by omega), gk (lnR 27) 20 rfl (by omega) (by omega), gk (lnR 27) 20 rfl (by omega) (by omega), gk (lnR 28) 20 rfl (by omega) (by omega), gk (lnR 28) 20 rfl (by omega) (by omega), wr_eq (x := (n : Int) + 1) (by omega) (by omega), show (n : Int) + 1 = ((n + 1 : Nat) : Int) by omega, c1]
    have hfin : (if x1 = 2 then some (some (vI (T'.length : Int)), refUp ν2 n x1 (-4) x3) else some (some (vI (T'.length : Int)), refUp ν2 n x1 x2 x3)) = some (some (vI (T'.length : Int)), refUp ν2 n x1 (if x1 = 2 then -4 else x2) x3) := by
      split <;> rfl
    refine ⟨_, _, refUp ν2 n x1 (if x1 = 2 then -4 else x2) x3, rfl, hfin, ?_⟩
    generalize hw : (if x1 = 2 then -4 else x2) = w
    have r26 : ∀ i, refUp ν2 n x1 w x3 26 i = if i = n then x1 else ν2 26 i := fun i => by
      unfold refUp
      rw [up_cell (by omega), up_cell (by omega), up_cell (by omega), up_if]
    have r27 : ∀ i, refUp ν2 n x1 w x3 27 i = if i = n then w else ν2 27 i := fun i => by
      unfold refUp
      rw [up_cell (by omega), up_cell (by omega), up_if, up_cell (by omega)]
    have r28 : ∀ i, refUp ν2 n x1 w x3 28 i = if i = n then x3 else ν2 28 i := fun i => by
      unfold refUp
      rw [up_cell (by omega), up_if, up_cell (by omega), up_cell (by omega)]
    have r0 : ∀ j, j ≠ 46 → refUp ν2 n x1 w x3 0 j = ν2 0 j := fun j hj => by
      unfold refUp
      rw [up_slot hj, up_cell (by omega), up_cell (by omega), up_cell (by omega)]
    have r46 : refUp ν2 n x1 w x3 0 46 = ((n + 1 : Nat) : Int) := up_same _ _ _ _
    have rc : ∀ c, c ≠ 0 → ¬ (26 ≤ c ∧ c ≤ 28) → refUp ν2 n x1 w x3 c = ν2 c := fun c h1 h2 => by
      unfold refUp
      rw [up_cell h1, up_cell (by omega), up_cell (by omega), up_cell (by omega)]
    have hMM : FrM ν2 (refUp ν2 n x1 w x3) := ⟨fun c q1 q2 => rc c (by omega) (by omega), r0 0 (by omega), r0 5 (by omega), r0 23 (by omega)⟩
    generalize refUp ν2 n x1 w x3 = ν3 at *
    refine rel_IS hr2 (fun c hc => (rowUp_o (by omega)).trans (hFa c hc)) rc (fun j _ q => r0 j q) ?_
    rcases hr2.2.2.2.2.2.1 with ⟨a, b, c⟩ | ⟨h1, h2, h3, h4, h5, h6, h7, Ts, h8, h9, h10⟩
    · rw [b2.2 45 (by omega) (by omega) (by omega), p11.2 45 (by omega) (by omega) (by omega) (by omega)] at a
      exact absurd a h45
    have hTn : Ts n = T := (h9 n (by omega)).inj (by rw [show 169 + 2 * n = 163 + 5 + 1 + 2 * n by omega]; exact p8)
    have k163 : ∀ c, 163 ≤ c → c ≤ 168 → μ1 c = μ c := fun c q1 q2 => a2 c (by unfold rwS; omega)
    have kTH : ∀ i l, i ≤ n + 1 → TH μ1 (169 + 2 * i) l → TH (rowUp μ1 163 n x1 w x3 (ptw ν x1 x2 x3 T)) (169 + 2 * i) l := fun i l hi hl => hl.kept (S := fun c => 163 ≤ c ∧ c ≤ 167) (fun c hc => rowUp_o (by omega)) (by omega) (by omega)
    refine Or.inr ⟨by rw [r0 45 (by omega)]; exact h1, by rw [r0 45 (by omega), r0 5 (by omega)]; exact h2, by rw [r0 45 (by omega), rc 7 (by omega) (by omega)]; exact h3, ?_, ?_, by rw [r46]; omega, by rw [r46]; omega, fun i => if i = n + 1 then T' else Ts i, ?_, fun i hi => ?_, fun i hi => ?_⟩
    · rw [rowUp_0, if_neg (by decide), k163 163 (by omega) (by omega), r0 45 (by omega)]
      exact h4
    · rw [rowUp_0, if_pos rfl, r46]
    · dsimp only
      rw [if_neg (by omega), frM_sL hMM, r0 45 (by omega)]
      exact h8
    · rw [r46] at hi
      dsimp only
      by_cases q : i = n + 1
      · rw [if_pos q]
        subst q
        refine kTH _ _ (by omega) ?_
        rw [show 169 + 2 * (n + 1) = 163 + 5 + 1 + 2 * (n + 1) by omega]
        exact c2
      · rw [if_neg q]
        exact kTH _ _ (by omega) ((h9 i (by omega)).kept a2 (by unfold rwS; omega) (by unfold rwS; omega))
    · rw [r46] at hi
      have R1 : ∀ j, rowUp μ1 163 n x1 w x3 (ptw ν x1 x2 x3 T) 164 j = if j = n then x1 else μ1 164 j := fun j => rowUp_1
      have R2 : ∀ j, rowUp μ1 163 n x1 w x3 (ptw ν x1 x2 x3 T) 165 j = if j = n then w else μ1 165 j := fun j => rowUp_2
      have R3 : ∀ j, rowUp μ1 163 n x1 w x3 (ptw ν x1 x2 x3 T) 166 j = if j = n then x3 else μ1 166 j := fun j => rowUp_3
      have R4 : ∀ j, rowUp μ1 163 n x1 w x3 (ptw ν x1 x2 x3 T) 167 j = if j = n then ptw ν x1 x2 x3 T else μ1 167 j := fun j => rowUp_4
      dsimp only
      rw [frM_stp hMM, frM_ptw hMM, r26, r27, r28, R1, R2, R3, R4, frM_stp (frS_M b2), frM_stp hM, frM_ptw (frS_M b2), frM_ptw hM]
      by_cases q : i = n
      · subst q
        have es : stp ν x1 w x3 T = stp ν x1 x2 x3 T := by
          by_cases k2 : x1 = 2
          · subst k2; rfl
          · rw [if_neg k2] at hw; rw [hw]
        have ep : ptw ν x1 w x3 T = ptw ν x1 x2 x3 T := by
          by_cases k2 : x1 = 2
          · subst k2; rfl
          · rw [if_neg k2] at hw; rw [hw]
        simp only [if_true]
        rw [if_neg (show ¬ i = i + 1 by omega), hTn, es, ep]
        exact ⟨hs, trivial, trivial, trivial, rfl, hk.1, hk.2, fun k2 => by rw [← hw, if_pos k2]⟩
      · rw [if_neg q, if_neg q, if_neg q, if_neg q, if_neg q, if_neg q, if_neg q, if_neg (show ¬ i = n + 1 by omega), if_neg (show ¬ i + 1 = n + 1 by omega), k163 164 (by omega) (by omega), k163 165 (by omega) (by omega), k163 166 (by omega) (by omega), k163 167 (by omega) (by omega)]
        have := h10 i (by omega)
        rw [frM_stp (frS_M b2), frM_stp hM, frM_ptw (frS_M b2), frM_ptw hM] at this
        exact this
