/-! change: one after another is tried again -/
def trn (μ : Mem) (e t : Nat) (v d : Int) : Mem := up (up (up (up (up μ (31 + 5 * e) 2 v) 29 t (e : Int)) 28 t d) 30 t v) 23 7 ((t + 1 : Nat) : Int)
theorem s_turn {μ : Mem} {e t : Nat} {v d : Int} (he : e < 24) (ht : μ 23 7 = (t : Int)) (h4 : t < 424) (hv : 0 ≤ v ∧ v ≤ 3) (hd : 0 ≤ d ∧ d ≤ 999) : f_X3_turn [vR 3 23, vI (e : Int), vI v, vI d] μ = some (none, trn μ e t v d) := by
  rw [q_X3_turn, gk (lnC 24) 24 rfl (by omega) (by omega), show ((e : Int)).toNat = e by omega]
  generalize hY : up μ (31 + 5 * e) 2 v = Y
  have Y7 : Y 23 7 = (t : Int) := by rw [← hY, up_cell (by omega)]; exact ht
  have v28 : ∀ (m : Mem) (i : Nat) (v : Int), up m 28 i v 23 = m 23 := fun m i v => up_cell (by omega)
  have v29 : ∀ (m : Mem) (i : Nat) (v : Int), up m 29 i v 23 = m 23 := fun m i v => up_cell (by omega)
  have v30 : ∀ (m : Mem) (i : Nat) (v : Int), up m 30 i v 23 = m 23 := fun m i v => up_cell (by omega)
  have wS : wrS (wrS d) = d := by unfold wrS; omega
  have wB : wrB (wrB (e : Int)) = (e : Int) := by unfold wrB; omega
  have wB2 : wrB (wrB v) = v := by unfold wrB; omega
  simp only [v28, v29, v30, Y7, wS, wB, wB2]
  rw [if_pos (show (t : Int) < 424 by omega), gk (lnC 29) 424 rfl (by omega) (by omega), gk (lnC 28) 424 rfl (by omega) (by omega), gk (lnC 30) 424 rfl (by omega) (by omega), wr_eq (x := (t : Int) + 1) (by omega) (by omega), show ((t : Int)).toNat = t by omega, show (t : Int) + 1 = ((t + 1 : Nat) : Int) by omega]
  unfold trn
  rw [hY]
section PR
variable {μ0 ν0 μ ν : Mem} {w : Nat} {gone T : Int} {e : Nat}
theorem proc (h0 : Rel μ0 ν0) (hw : (w : Int) < ν0 0 0) (h : INV μ0 ν0 w μ ν gone T) (he : (e : Int) < ν0 0 5) (h7 : ν 7 e = 2) (hT : ν0 13 e = T) {cntr : Nat} (hc : cntr < 24) {o1 o5 o7 o8 : Option AV} :
    ∃ gone' μ' ν' x' o1' o5' o7' o8', e_X3_tryAgain_14 w 211 (ν0 0 22) gone e cntr o7 o8 μ = e_X3_tryAgain_14 w 211 (ν0 0 22) gone' x' ((cntr + 1 : Nat) : Int) o7' o8' μ' ∧ e_X12_change_163 o1 gone T e o5 ν = e_X12_change_163 o1' gone' T ((e + 1 : Nat) : Int) o5' ν' ∧ INV μ0 ν0 w μ' ν' gone' (T + 1) ∧ NX ν' (T + 1) x' := by
  have hh := h
  obtain ⟨a, b, c, d, g, f, k, ii, j22, j45, j68⟩ := h
  obtain ⟨hTT, hH, hW, hS, hP, hI, hD, hG, hC⟩ := a
  have hL0 := h0.2.2.2.2.2.2.2.1
  have hS0 := h0.2.2.2.1
  have hP0 := h0.2.2.2.2.1
  have hW0 := h0.2.2.1
  have h5 := b.2.2.2.1
  have h24 : ν0 0 5 ≤ 24 := by rw [← h5]; exact hS.2.1
  have he' : (e : Int) < ν 0 5 := by rw [h5]; exact he
  have h07 : ν0 7 e = 2 := by
    rcases c e he with z | z
    · omega
    · omega
  have hu : ∀ x : Nat, (x : Int) < ν0 0 5 → ν 7 x = 2 → ν0 13 x = T → x = e := fun x hx hx7 hxT => by
    have : ν0 7 x = 2 := by
      rcases c x hx with z | z
      · omega
      · omega
    exact (hL0 e he h07).2.2.2.1 x hx this (by omega)
  have hs := hS.2.2.2.2.2.2.2.2 e he'
  have hs2 := hs.2.2.2.2.2.2.2.2.2.2.1 (by omega)
  obtain ⟨n, hn⟩ : ∃ n : Nat, ν 11 e = (n : Int) := ⟨(ν 11 e).toNat, by omega⟩
  obtain ⟨m, hm⟩ : ∃ m : Nat, ν 10 e = (m : Int) := ⟨(ν 10 e).toNat, by omega⟩
  have c10 := b.1 10 (by omega)
  have c11 := b.1 11 (by omega)
  have c14 := b.1 14 (by omega)
  have c15 := b.1 15 (by omega)
  have c16 := b.1 16 (by omega)
  have c13 := b.1 13 (by omega)
  have useI : ∀ i, i < n → ν 14 (m + i) ≤ 1 → USE ν0 e (ν 15 (m + i)).toNat := fun i hi k1 => by
    have pj := (hP (m + i) (by omega)).2.2.2.2.2.2.2 k1
    refine ⟨he, h07, i, ?_, ?_, ?_⟩
    · rw [← c11]; omega
    · rw [← c10, ← c14, hm, show ((m : Int)).toNat = m by omega]; exact k1
    · rw [← c10, ← c15, hm, show ((m : Int)).toNat = m by omega]; omega
  have useO : ∀ x : Nat, USE ν0 e x → ∃ i, i < n ∧ ν 14 (m + i) ≤ 1 ∧ ν 15 (m + i) = (x : Int) := fun x ⟨_, _, i, i1, i2, i3⟩ => by
    rw [← c11] at i1
    rw [← c10, ← c14, hm, show ((m : Int)).toNat = m by omega] at i2
    rw [← c10, ← c15, hm, show ((m : Int)).toNat = m by omega] at i3
    exact ⟨i, by omega, i2, i3⟩
  have hne : ∀ i, i < n → ν 14 (m + i) ≤ 1 → ν 15 (m + i) ≠ (e : Int) := fun i hi k1 z => by
    have u := useI i hi k1
    rw [z, show ((e : Int)).toNat = e by omega] at u
    have := (hL0 e he h07).2.2.2.2.1 e u
    omega
  have hUSE : ∀ x, USE ν e x ↔ USE ν0 e x := fun x => by
    unfold USE
    rw [h5, c10, c11, c14, c15, h7, h07]
  have s8 : μ (31 + 5 * e) 8 = T := by rw [hs.2.2.2.2.2.2.2.2.2.2.2.2 h7, c13]; exact hT
  have put0 : μ (31 + 5 * e) 10 = μ0 (31 + 5 * e) 10 := f e he h7 (by omega)
  have und0 : μ (31 + 5 * e) 9 = μ0 (31 + 5 * e) 9 := d e he
  obtain ⟨l1, l2, l3, l4, l5, ⟨l6a, l6b, l6c⟩, l7a, l7b, l7c⟩ := hL0 e he h07
  have w4 := hW0.2.1
  have wc : ∀ x, wb ν0 x = -4 ∨ (0 ≤ wb ν0 x ∧ wb ν0 x < ν0 0 0) := fun x => by
    have := wb_range hW0 x
    omega
  have bitw : bAnd (bShr (μ (31 + 5 * e) 10) (w : Int)) 1 = if tb (μ0 (31 + 5 * e) 10) w then 1 else 0 := by rw [put0, bit_at (by omega)]
  have v29 := ii e he h07
  have mkU : MK (μ (31 + 5 * e) 9) (fun x => Relation.TransGen (USE ν0) e x) := ⟨by rw [und0]; unfold in32; omega, fun x hx => by
    rw [und0]
    by_cases x24 : x < 24
    · exact l6c x x24
    · rw [tb_hi (n := 24) (by omega) (by show _ < (16777216 : Int); exact l6b) (by omega)]
      refine ⟨fun q => (by cases q), fun q => ?_⟩
      have := TG_lt hS0 hP0 q
      omega⟩
  obtain ⟨us, u1, u2⟩ := s_usesOf hS hP he'
  have mkI : MK us (USE ν0 e) := u2.congr hUSE
  -- nothing that e uses is gone, and it does not put w: it stands
  have calm : tb (μ0 (31 + 5 * e) 10) w = false → bAnd us gone = 0 → PRF μ ν ν0 e := fun q1 q2 => by
    have hU : ∀ x : Nat, USE ν0 e x → ν 7 x = 0 ∨ ν 7 x = 2 := fun x ux => by
      have xlt := USE_lt hS0 hP0 ux
      have x7 := l5 x ux
      rcases c x xlt with y | ⟨y1, y2, _⟩
      · omega
      · exact absurd ⟨ux, xlt, y1, y2⟩ ((mkI.and k).none.mp q2 x (by omega))
    have run := frC_run wc b w4 (k := ν0 14) (wh := ν0 15) (p := ν0 16) (ν0 11 e).toNat (ν0 10 e).toNat (sL ν0 e 0) (sL ν0 e 1) (fun j ja jb => by
      have hs0 := (hS0.2.2.2.2.2.2.2.2 e he).2.2.2.2.2.2.2.2.2.2.1 (by omega)
      have pj := hP0 j (by omega)
      refine ⟨pj.2.2.2.1, pj.2.2.2.2.1, fun k1 => hU _ ⟨he, h07, j - (ν0 10 e).toNat, by omega, ?_, ?_⟩⟩
      · rw [show (ν0 10 e).toNat + (j - (ν0 10 e).toNat) = j by omega]; exact k1
      · rw [show (ν0 10 e).toNat + (j - (ν0 10 e).toNat) = j by omega]
        have := pj.2.2.2.2.2.2.2 k1
        omega) l1 (fun z => by
      have := (l7c w (by omega)).mpr z
      rw [q1] at this
      cases this)
    unfold PRF
    rw [c14, c15, c16, c10, c11, frC_sL b, put0]
    exact ⟨run.1, hU, l7a, l7b, fun v hv => (l7c v hv).trans (run.2 v).symm⟩
  obtain ⟨i, r, μ1, ν1, a1, a2, a3, a4, a5, a6, a7, a8, a9, a10, a11, a12, a13⟩ := s_again hW hS hP he' h7 hn hm hne (frV_rf (ν := ν))
  have PRFr : r = 1 → PRF μ1 ν ν0 e := fun hr => by
    have hi : i = n := by
      rcases Nat.lt_or_ge i n with z | z
      · have := a10 z; omega
      · omega
    obtain ⟨x1, x2⟩ := a12 hi
    unfold PRF
    rw [hm, hn, show ((m : Int)).toNat = m by omega, show ((n : Int)).toNat = n by omega]
    refine ⟨a9.mp hr, fun x ux => ?_, x1.1, x1.2, x2⟩
    obtain ⟨q, q1, q2, q3⟩ := useO x ux
    have := a13 hi q q1 q2
    rw [q3, show ((x : Int)).toNat = x by omega] at this
    exact this
  have e14 : e_X3_tryAgain_14 w 211 (ν0 0 22) gone e cntr o7 o8 μ = if tb (μ0 (31 + 5 * e) 10) w then e_X3_tryAgain_63 w 211 (ν0 0 22) gone e cntr (31 + 5 * e) o8 1 μ else if bAnd (μ (31 + 5 * e) 9) gone = 0 then e_X3_tryAgain_63 w 211 (ν0 0 22) gone e cntr (31 + 5 * e) o8 0 μ else e_X3_tryAgain_63 w 211 (ν0 0 22) gone e cntr (31 + 5 * e) o8 1 μ := by
    rw [q_X3_tryAgain_14, if_pos (by omega), if_neg (by omega), gk (lnC 24) 24 rfl (by omega) (by omega), show ((e : Int)).toNat = e by omega, bitw, q_X3_tryAgain_58]
    by_cases q : tb (μ0 (31 + 5 * e) 10) w = true
    · rw [if_pos q, if_pos q, if_neg ten]
    · rw [if_neg q, if_neg q, if_pos rfl]
  have hN13 : ν 13 e = T := by rw [c13]; exact hT
  have e163 : e_X12_change_163 o1 gone T e o5 ν = if tb (μ0 (31 + 5 * e) 10) w then e_X12_change_215 o1 gone T e o5 ν else if bAnd us gone = 0 then e_X12_change_163 o1 gone T ((e + 1 : Nat) : Int) o5 ν else e_X12_change_215 o1 gone T e o5 ν := by
    rw [q_X12_change_163, if_pos he', gk (lnR 7) 24 rfl (by omega) (by omega), show ((e : Int)).toNat = e by omega, if_pos h7, gk (lnR 13) 24 rfl (by omega) (by omega), if_pos hN13, gk (lnR 29) 24 rfl (by omega) (by omega), v29, u1, cI_t, wr_eq (x := (e : Int) + 1) (by omega) (by omega), show (e : Int) + 1 = ((e + 1 : Nat) : Int) by omega]
    by_cases q : tb (μ0 (31 + 5 * e) 10) w = true
    · rw [if_pos q, if_pos q, if_neg ten]
    · rw [if_neg q, if_neg q, if_pos rfl]
  -- the class has tried and e stands
  have clsOk : r = 1 → ∃ x', e_X3_tryAgain_63 w 211 (ν0 0 22) gone e cntr (31 + 5 * e) o8 1 μ = e_X3_tryAgain_14 w 211 (ν0 0 22) gone x' ((cntr + 1 : Nat) : Int) (some (vR 2 (31 + 5 * e))) (some (vI 1)) μ1 ∧ NX ν (T + 1) x' := fun hr => by
    have hk := INV.keep hh he h7 hT hu (frV_rf (ν := ν)) a6 a7 (PRFr hr)
    obtain ⟨x', y1, y2⟩ := s_shownNext hk.1.2.2.2.1 T
    refine ⟨x', ?_, y2⟩
    rw [q_X3_tryAgain_63, if_neg ten, a1, cI_t, hr, if_neg ten, a7 8 (by omega) (by omega), s8, y1, cI_t, wr_eq (x := (cntr : Int) + 1) (by omega) (by omega), show (cntr : Int) + 1 = ((cntr + 1 : Nat) : Int) by omega]
  have NXV : ∀ {ν2 : Mem} {x : Int}, FrV ν ν2 → NX ν (T + 1) x → NX ν2 (T + 1) x := fun hv hx => by
    unfold NX at *
    rw [(frV_M hv).2.2.1, frM_c (frV_M hv) (c := 7) (by omega), frM_c (frV_M hv) (c := 13) (by omega)]
    exact hx
  by_cases tried : tb (μ0 (31 + 5 * e) 10) w = true ∨ ¬ bAnd us gone = 0
  · have cls : e_X3_tryAgain_14 w 211 (ν0 0 22) gone e cntr o7 o8 μ = e_X3_tryAgain_63 w 211 (ν0 0 22) gone e cntr (31 + 5 * e) o8 1 μ := by
      rw [e14]
      by_cases q : tb (μ0 (31 + 5 * e) 10) w = true
      · rw [if_pos q]
      · rw [if_neg q, if_neg]
        intro z
        rcases tried with y | y
        · exact q y
        · refine y ((mkI.and k).none.mpr (fun x hx ⟨p1, p2⟩ => ?_))
          exact (mkU.and k).none.mp z x hx ⟨Relation.TransGen.single p1, p2⟩
    have ref : e_X12_change_163 o1 gone T e o5 ν = e_X12_change_215 o1 gone T e o5 ν := by
      rw [e163]
      by_cases q : tb (μ0 (31 + 5 * e) 10) w = true
      · rw [if_pos q]
      · rw [if_neg q, if_neg (fun z => by rcases tried with y | y; exact q y; exact y z)]
    have M1 := frV_M a3
    have r11 : ν1 11 e = (n : Int) := by rw [frM_c M1 (c := 11) (by omega)]; exact hn
    rw [cls, ref, q_X12_change_215, a2, cI_t, gk (lnR 11) 24 rfl (by omega) (by omega), show ((e : Int)).toNat = e by omega, r11, wr_eq (x := (e : Int) + 1) (by omega) (by omega), show (e : Int) + 1 = ((e + 1 : Nat) : Int) by omega]
    rcases a5 with hr | hr
    · -- e breaks
      have hn0 : n ≠ 0 := fun z => by
        subst z
        have l1' : rnS ν0 (ν0 14) (ν0 15) (ν0 16) (ν0 10 e).toNat (ν0 11 e).toNat (sL ν0 e 0) = some (sL ν0 e 1) := l1
        rw [show (ν0 11 e).toNat = 0 by rw [← c11, hn]; rfl] at l1'
        have : rnS ν (ν 14) (ν 15) (ν 16) m 0 (sL ν e 0) = some (sL ν e 1) := by rw [frC_sL b]; exact l1'
        have := a9.mpr this
        omega
      obtain ⟨t, ht⟩ : ∃ t : Nat, μ 23 7 = (t : Int) := ⟨(μ 23 7).toNat, by have := hD.1; omega⟩
      have t424 : t < 424 := by
        have hb := hD.2.1
        rw [ht] at hb
        have q1 := cnt_lt (P := fun x => decide (ν 7 x = 2 ∧ ν 11 x = 0)) (Q := fun _ => true) (k := e) (ν 0 5).toNat (fun _ _ _ => rfl) (by omega) rfl (by rw [decide_eq_true_iff]; omega)
        have q2 := cnt_le (fun _ => true) (ν 0 5).toNat
        have q3 := hS.2.2.2.2.1
        omega
      have t1 : μ1 23 7 = (t : Int) := by rw [a6 23 (by unfold rwF; omega) (by omega)]; exact ht
      have d1 := hH.2.2.1
      have d2 := hH.2.2.2
      have tr := s_turn (μ := μ1) (e := e) (t := t) (v := 3) (d := ν0 0 22) (by omega) t1 t424 (by omega) (by omega)
      have inv := INV.broke (ν' := up (up (up ν1 12 e (i : Int)) 7 e 3) 17 (1000 * e + (ν 0 22).toNat) 4) (μ' := trn μ1 e t 3 (ν0 0 22)) (i := i) (t := t) hL0 hh he h7 hT hu hn hn0 ht (fun x => by
          rw [up_cell (by omega), up_if, up_cell (by omega), frM_c M1 (c := 7) (by omega)]) (fun x => by
          rw [up_cell (by omega), up_cell (by omega), up_if, frM_c M1 (c := 12) (by omega)]) (fun x => by
          rw [up_if, up_cell (by omega), up_cell (by omega), a3.1 17 (by omega) (by omega)]; rfl) (fun x x0 x7 x12 x17 xs => by
          rw [up_cell x17, up_cell x7, up_cell x12]; exact a3.1 x (by omega) x0) (fun x y1 y2 y3 y4 => by
          rw [up_cell (by omega), up_cell (by omega), up_cell (by omega)]; exact a3.2 x y1 y2 y3 y4) (by
          unfold trn; rw [up_cell (by omega), up_cell (by omega), up_cell (by omega), up_cell (by omega), up_same]) (by
          unfold trn; rw [up_cell (by omega), up_cell (by omega), up_cell (by omega), up_cell (by omega), up_slot (by omega)]; exact a8) (fun x y1 y2 y3 => by
          unfold trn; rw [up_cell (by omega), up_cell (by omega), up_cell (by omega), up_cell (by omega), up_slot y1]; exact a7 x y2 y3) (fun x y1 y2 y3 y4 => by
          unfold trn; rw [up_cell y3, up_cell (by omega), up_cell (by omega), up_cell (by omega), up_cell y2]; exact a6 x y1 y2) (fun x y1 => by
          unfold trn; rw [up_slot y1, up_cell (by omega), up_cell (by omega), up_cell (by omega), up_cell (by omega)]; rw [a6 23 (by unfold rwF; omega) (by omega)]) (by
          unfold trn; rw [up_same]) (fun x => by
          unfold trn; rw [up_cell (by omega), up_cell (by omega), up_if, up_cell (by omega), up_cell (by omega), a6 28 (by unfold rwF; omega) (by omega), j22]) (fun x => by
          unfold trn; rw [up_cell (by omega), up_cell (by omega), up_cell (by omega), up_if, up_cell (by omega), a6 29 (by unfold rwF; omega) (by omega)]) (fun x => by
          unfold trn; rw [up_cell (by omega), up_if, up_cell (by omega), up_cell (by omega), up_cell (by omega), a6 30 (by unfold rwF; omega) (by omega)])
      obtain ⟨x', y1, y2⟩ := s_shownNext inv.1.2.2.2.1 T
      have s8' : trn μ1 e t 3 (ν0 0 22) (31 + 5 * e) 8 = T := by
        unfold trn
        rw [up_cell (by omega), up_cell (by omega), up_cell (by omega), up_cell (by omega), up_slot (by omega), a7 8 (by omega) (by omega)]
        exact s8
      have bec : ∀ X : Mem, X 0 22 = ν 0 22 → f_X12_becomes [vR 12 0, vI (e : Int), vI 3] X = some (none, up (up X 7 e 3) 17 (1000 * e + (ν 0 22).toNat) 4) := fun X hX => by
        rw [q_X12_becomes, gk (lnR 7) 24 rfl (by omega) (by omega), show ((e : Int)).toNat = e by omega, up_cell (c := 7) (c' := 0) (by omega), hX, wr_eq (x := 1000 * (e : Int)) (by omega) (by omega), wr_eq (x := 1000 * (e : Int) + ν 0 22) (by omega) (by omega), gk (lnR 17) 24000 rfl (by omega) (by omega), show (1000 * (e : Int) + ν 0 22).toNat = 1000 * e + (ν 0 22).toNat by omega, show wr (3 + 1) = 4 by decide]
      have n22 : up ν1 12 e (i : Int) 0 22 = ν 0 22 := by rw [up_cell (by omega)]; exact a3.2 22 (by omega) (by omega) (by omega) (by omega)
      refine ⟨bOr gone (bShl 1 (e : Int)), trn μ1 e t 3 (ν0 0 22), _, x', kl o1, some (vI (i : Int)), some (vR 2 (31 + 5 * e)), some (vI 1), ?_, ?_, inv, y2⟩
      · rw [q_X3_tryAgain_63, if_neg ten, a1, cI_t, hr, if_pos rfl, tr, cV_t, s8', y1, cI_t, wr_eq (x := (cntr : Int) + 1) (by omega) (by omega), show (cntr : Int) + 1 = ((cntr + 1 : Nat) : Int) by omega]
      · rw [gk (lnR 12) 24 rfl (by omega) (by omega), bec _ n22, cV_t]
        by_cases z : i < n
        · rw [if_pos (show (i : Int) < (n : Int) by omega)]
        · rw [if_neg (show ¬ (i : Int) < (n : Int) by omega), a11 (by omega), cI_t, hr, if_pos rfl, gk (lnR 12) 24 rfl (by omega) (by omega), bec _ n22, cV_t]
    · have hi : i = n := by
        rcases Nat.lt_or_ge i n with z | z
        · have := a10 z; omega
        · omega
      obtain ⟨x', y1, y2⟩ := clsOk hr
      rw [y1, if_neg (show ¬ (i : Int) < (n : Int) by omega), a11 hi, cI_t, hr, if_neg ten]
      exact ⟨gone, μ1, ν1, x', _, _, _, _, rfl, rfl, INV.keep hh he h7 hT hu a3 a6 a7 ((PRFr hr).kept M1 rfl), NXV a3 y2⟩
  · have q1 : tb (μ0 (31 + 5 * e) 10) w = false := by
      cases q : tb (μ0 (31 + 5 * e) 10) w with
      | false => rfl
      | true => exact absurd (Or.inl q) tried
    have q2 : bAnd us gone = 0 := Decidable.not_not.mp (fun z => tried (Or.inr z))
    have prf := calm q1 q2
    rw [e14, e163, q1, if_neg (show ¬ (false = true) by decide), if_neg (show ¬ (false = true) by decide), if_pos q2]
    by_cases q3 : bAnd (μ (31 + 5 * e) 9) gone = 0
    · obtain ⟨x', y1, y2⟩ := s_shownNext hS T
      rw [if_pos q3, q_X3_tryAgain_63, if_pos rfl, s8, y1, cI_t, wr_eq (x := (cntr : Int) + 1) (by omega) (by omega), show (cntr : Int) + 1 = ((cntr + 1 : Nat) : Int) by omega]
      exact ⟨gone, μ, ν, x', _, _, _, _, rfl, rfl, INV.keep hh he h7 hT hu frV_rf (fun _ _ _ => rfl) (fun _ _ _ => rfl) prf, y2⟩
    · have hr : r = 1 := a9.mpr (by
        have := prf.1
        rw [hm, hn, show ((m : Int)).toNat = m by omega, show ((n : Int)).toNat = n by omega] at this
        exact this)
      obtain ⟨x', y1, y2⟩ := clsOk hr
      rw [if_neg q3, y1]
      exact ⟨gone, μ1, ν, x', _, _, _, _, rfl, rfl, INV.keep hh he h7 hT hu frV_rf a6 a7 (PRFr hr), y2⟩
end PR
