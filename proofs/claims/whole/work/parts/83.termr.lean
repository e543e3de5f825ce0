/-! a TERM is read from the tape: the reference -/
def FrK (ν ν' : Mem) : Prop := (∀ c, c ≠ 0 → c ≠ 19 → ν' c = ν c) ∧ ∀ k, ¬ (26 ≤ k ∧ k ≤ 31) → k ≠ 33 → ν' 0 k = ν 0 k
theorem frK_rf {ν : Mem} : FrK ν ν := ⟨fun _ _ _ => rfl, fun _ _ _ => rfl⟩
theorem frK_trans {ν ν1 ν2 : Mem} (h : FrK ν ν1) (h2 : FrK ν1 ν2) : FrK ν ν2 := ⟨fun c a b => (h2.1 c a b).trans (h.1 c a b), fun k a b => (h2.2 k a b).trans (h.2 k a b)⟩
theorem frK_N {ν ν' : Mem} (h : FrN ν ν') : FrK ν ν' := ⟨fun c a _ => h.1 c a, fun k a _ => h.2 k a⟩
theorem frK_wb {ν ν' : Mem} (h : FrK ν ν') : wb ν' = wb ν := by
  funext x
  unfold wb
  rw [h.1 1 (by omega) (by omega), h.2 23 (by omega) (by omega)]
theorem frK_ar {ν ν' : Mem} (h : FrK ν ν') : ar ν' = ar ν := by
  funext x
  unfold ar
  rw [frK_wb h, h.1 2 (by omega) (by omega)]
theorem frK_lk {ν ν' : Mem} (h : FrK ν ν') : lk ν' = lk ν := by
  funext p
  unfold lk
  rw [h.2 25 (by omega) (by omega), h.1 18 (by omega) (by omega)]
theorem SK.congr {ν ν' : Mem} (h : lk ν' = lk ν) {p q : Nat} (hs : SK ν' p q) : SK ν p q := by
  unfold SK at *
  rw [h] at hs
  exact hs
theorem TK.congr {ν ν' : Mem} (h : lk ν' = lk ν) {p f t : Nat} {k : Int} (hs : TK ν' p f t k) : TK ν p f t k := by
  unfold TK SK RN at *
  rw [h] at hs
  exact hs
theorem TokR.congr {ν ν' ν1 : Mem} (h : lk ν' = lk ν) {f t : Nat} {k : Int} (hs : TokR ν1 ν' f t k) : TokR ν1 ν f t k := by
  unfold TokR at *
  rw [h] at hs
  exact hs
theorem r_endAt6 {ν : Mem} (h4 : 0 ≤ ν 0 23 ∧ ν 0 23 ≤ 4) (hav : ∀ x, ar ν x = -4 ∨ ar ν x = 0 ∨ ar ν x = 1 ∨ ar ν x = 2) {l : List Int} (hl : RHL ν 19 l) (hp : ∀ c ∈ l, 0 ≤ ar ν c) : ∀ (j i op : Nat) (o2 o6 : Option AV), i + j = l.length → op ≤ 1 + i → ∃ r, e_X12_endAt_6 19 o2 (l.length : Int) op i o6 ν = some (some (vI r), ν) ∧ (r = (l.length : Int) ↔ isT (ar ν) op (l.drop i))
  | 0, i, op, o2, o6, hj, ho => by
    obtain rfl : i = l.length := by omega
    rw [q_X12_endAt_6, List.drop_length]
    cases op with
    | zero => rw [if_pos (by decide), if_pos (by decide)]; exact ⟨_, rfl, ⟨fun _ => trivial, fun _ => rfl⟩⟩
    | succ m => rw [if_neg (by omega), if_neg (by omega)]; exact ⟨-4, rfl, ⟨fun z => by omega, fun z => z.elim⟩⟩
  | j + 1, i, op, o2, o6, hj, ho => by
    have hil : i < l.length := by omega
    have hd : l.drop i = l[i] :: l.drop (i + 1) := List.drop_eq_getElem_cons hil
    have hl20 : l.length ≤ 20 := hl.1
    rw [q_X12_endAt_6, hd]
    cases op with
    | zero => rw [if_pos (by decide), if_pos (by decide)]; exact ⟨_, rfl, ⟨fun z => by omega, fun z => z.elim⟩⟩
    | succ m =>
      have h0 := hp l[i] (List.getElem_mem hil)
      have hv := hav l[i]
      obtain ⟨a, ha⟩ : ∃ a : Nat, ar ν l[i] = (a : Int) := ⟨(ar ν l[i]).toNat, by omega⟩
      rw [if_neg (by omega), if_pos (by omega), gk (lnR 19) 20 rfl (by omega) (by omega), show ((i : Int)).toNat = i by omega, hl.get hil, s_has h4, cI_t, if_neg (by omega), ha, wr_eq (x := (a : Int) - 1) (by omega) (by omega), wr_eq (x := ((m + 1 : Nat) : Int) + ((a : Int) - 1)) (by omega) (by omega), wr_eq (x := (i : Int) + 1) (by omega) (by omega), show (i : Int) + 1 = ((i + 1 : Nat) : Int) by omega, show ((m + 1 : Nat) : Int) + ((a : Int) - 1) = ((m + a : Nat) : Int) by omega]
      obtain ⟨r, b1, b2⟩ := r_endAt6 h4 hav hl hp j (i + 1) (m + a) o2 (some (vI (a : Int))) (by omega) (by omega)
      refine ⟨r, b1, b2.trans ⟨fun z => ⟨h0, ?_⟩, fun z => ?_⟩⟩
      · rw [ha, show ((a : Int)).toNat = a by omega]; exact z
      · have := z.2
        rw [ha, show ((a : Int)).toNat = a by omega] at this
        exact this
section RT57
variable {μ ν νw : Mem} {names ahead : Int} {f t : Nat}
/-- the loop of the reference over the letters -/
theorem r_read57 (hW : RelW μ νw) (ew : wb νw = wb ν) (hn : 0 ≤ names ∧ names ≤ 3) (h25 : 0 ≤ ν 0 25 ∧ ν 0 25 ≤ 240) (ht : (t : Int) ≤ ν 0 25) (hr : RN ν 1 f t) (h4 : 0 ≤ ν 0 23 ∧ ν 0 23 ≤ 4) : ∀ (j i : Nat) (ν1 : Mem) (fl : Int) (o5 o6 : Option AV), i + j = t - f → FrK ν ν1 → ν1 0 33 = ((t - f : Nat) : Int) → ν1 0 27 = (f : Int) → ν1 0 30 = 0 → ν1 0 26 = (t : Int) → (fl = 0 ∨ fl = 1) → (fl = 1 ↔ (t - f ≤ 20 ∧ ∀ q, q < i → mS ν names ahead (lk ν (f + q) - 97))) → (t - f ≤ 20 → ∀ q, q < i → fl = 1 → ν1 19 q = lk ν (f + q) - 97) →
    ∃ ν2 fl2 o1 o2 o4 o5' o6', e_X12_readTerm_57 names ahead fl i o5 o6 ν1 = e_X12_readTerm_158 o1 o2 fl2 o4 o5' o6' ν2 ∧ FrK ν ν2 ∧ ν2 0 33 = ((t - f : Nat) : Int) ∧ ν2 0 27 = (f : Int) ∧ ν2 0 30 = 0 ∧ ν2 0 26 = (t : Int) ∧ (fl2 = 0 ∨ fl2 = 1) ∧ (fl2 = 1 ↔ (t - f ≤ 20 ∧ ∀ q, q < t - f → mS ν names ahead (lk ν (f + q) - 97))) ∧ (fl2 = 1 → ∀ q, q < t - f → ν2 19 q = lk ν (f + q) - 97)
  | 0, i, ν1, fl, o5, o6, hj, hF, h33, h27, h30, h26, hfl, hE, hV => by
    obtain rfl : i = t - f := by omega
    rw [q_X12_readTerm_57, h33, if_neg (by omega)]
    exact ⟨ν1, fl, _, _, _, _, _, rfl, hF, h33, h27, h30, h26, hfl, hE, fun z q hq => hV (hE.mp z).1 q hq z⟩
  | j + 1, i, ν1, fl, o5, o6, hj, hF, h33, h27, h30, h26, hfl, hE, hV => by
    rw [q_X12_readTerm_57, h33, if_pos (by omega)]
    rcases hfl with rfl | rfl
    · rw [if_pos rfl]
      refine ⟨ν1, 0, _, _, _, _, _, rfl, hF, h33, h27, h30, h26, Or.inl rfl, ⟨fun z => by omega, fun z => ?_⟩, fun z => by omega⟩
      exact hE.mpr ⟨z.1, fun q hq => z.2 q (by omega)⟩
    · have hb : 0 ≤ ν1 0 25 ∧ ν1 0 25 ≤ 240 := by rw [hF.2 25 (by omega) (by omega)]; exact h25
      have h4' : 0 ≤ ν1 0 23 ∧ ν1 0 23 ≤ 4 := by rw [hF.2 23 (by omega) (by omega)]; exact h4
      obtain ⟨l20, hall⟩ := hE.mp rfl
      have hci := hr.2.1 (f + i) (by omega) (by omega)
      have hlk : 97 ≤ lk ν (f + i) ∧ lk ν (f + i) ≤ 122 := by
        unfold cls at hci
        split at hci
        · omega
        · split at hci
          · assumption
          · split at hci
            · omega
            · split at hci
              · omega
              · split at hci <;> omega
      rw [if_neg ten, h27, wr_eq (x := (f : Int) + (i : Int)) (by omega) (by omega), show (f : Int) + (i : Int) = ((f + i : Nat) : Int) by omega, s_look1 hb, cI_t, frK_lk hF, wr_eq (x := lk ν (f + i) - 97) (by omega) (by omega), s_wordBy h4', cI_t, frK_wb hF, gk (lnR 19) 20 rfl (by omega) (by omega), show ((i : Int)).toNat = i by omega, wr_eq (x := (i : Int) + 1) (by omega) (by omega), show (i : Int) + 1 = ((i + 1 : Nat) : Int) by omega, wr_eq (x := 23 + names) (by omega) (by omega)]
      generalize hc : lk ν (f + i) - 97 = c
      have wbl : wb ν c ≠ -4 → 0 ≤ c ∧ c ≤ 3 := fun z => wb_let hW (by rw [ew]; exact z)
      have go : ∀ (g : Int) (o5 o6 : Option AV), (g = 0 ∨ g = 1) → (g = 1 ↔ mS ν names ahead c) → ∃ ν2 fl2 o1 o2 o4 o5' o6', e_X12_readTerm_57 names ahead g ((i + 1 : Nat) : Int) o5 o6 (up ν1 19 i c) = e_X12_readTerm_158 o1 o2 fl2 o4 o5' o6' ν2 ∧ FrK ν ν2 ∧ ν2 0 33 = ((t - f : Nat) : Int) ∧ ν2 0 27 = (f : Int) ∧ ν2 0 30 = 0 ∧ ν2 0 26 = (t : Int) ∧ (fl2 = 0 ∨ fl2 = 1) ∧ (fl2 = 1 ↔ (t - f ≤ 20 ∧ ∀ q, q < t - f → mS ν names ahead (lk ν (f + q) - 97))) ∧ (fl2 = 1 → ∀ q, q < t - f → ν2 19 q = lk ν (f + q) - 97) := fun g o5 o6 hg hg2 => by
        refine r_read57 hW ew hn h25 ht hr h4 j (i + 1) _ g o5 o6 (by omega) ⟨fun c a b => by rw [up_cell b]; exact hF.1 c a b, fun k a b => by rw [up_cell (by omega)]; exact hF.2 k a b⟩ (by rw [up_cell (by omega)]; exact h33) (by rw [up_cell (by omega)]; exact h27) (by rw [up_cell (by omega)]; exact h30) (by rw [up_cell (by omega)]; exact h26) hg ⟨fun z => ⟨l20, fun q hq => ?_⟩, fun z => hg2.mpr (by rw [← hc]; exact z.2 i (by omega))⟩ (fun _ q hq z => ?_)
        · by_cases y : q = i
          · rw [y, hc]; exact hg2.mp z
          · exact hall q (by omega)
        · rw [up_if]
          by_cases y : q = i
          · rw [if_pos y, y, hc]
          · rw [if_neg y]; exact hV l20 q (by omega) rfl
      unfold mS at go
      by_cases c12 : c = 12
      · rw [if_pos c12]; exact go 1 _ _ (Or.inr rfl) ⟨fun _ => Or.inl c12, fun _ => rfl⟩
      · rw [if_neg c12]
        by_cases c14 : c = 14
        · rw [if_pos c14]; exact go 1 _ _ (Or.inr rfl) ⟨fun _ => Or.inr (Or.inl c14), fun _ => rfl⟩
        · rw [if_neg c14]
          by_cases c23 : c < 23
          · rw [if_pos c23]
            by_cases w4 : wb ν c = -4
            · rw [if_pos w4]; exact go 0 _ _ (Or.inl rfl) ⟨fun z => by omega, fun z => by omega⟩
            · rw [if_neg w4]
              by_cases wa : wb ν c < ahead
              · rw [if_pos wa]; exact go 1 _ _ (Or.inr rfl) ⟨fun _ => Or.inr (Or.inr (Or.inr ⟨c23, w4, wa⟩)), fun _ => rfl⟩
              · rw [if_neg wa]; exact go 0 _ _ (Or.inl rfl) ⟨fun z => by omega, fun z => by omega⟩
          · rw [if_neg c23]
            have w4 : wb ν c = -4 := Decidable.not_not.mp (fun z => by have := wbl z; omega)
            by_cases cn : c < 23 + names
            · rw [if_pos cn]; exact go 1 _ _ (Or.inr rfl) ⟨fun _ => Or.inr (Or.inr (Or.inl ⟨by omega, cn⟩)), fun _ => rfl⟩
            · rw [if_neg cn, if_pos w4]; exact go 0 _ _ (Or.inl rfl) ⟨fun z => by omega, fun z => by omega⟩
/-- the reference reads a TERM -/
theorem r_readTerm {ν1 : Mem} {k : Int} (hW : RelW μ νw) (ew : wb νw = wb ν) (ea : ar νw = ar ν) (hn : 0 ≤ names ∧ names ≤ 3) (h25 : 0 ≤ ν 0 25 ∧ ν 0 25 ≤ 240) (hb : ∀ i : Nat, (i : Int) < ν 0 25 → 0 ≤ ν 18 i) (h4 : 0 ≤ ν 0 23 ∧ ν 0 23 ≤ 4) (hF : FrK ν ν1) (hk : k = 1 → RN ν 1 f t) (ht : (t : Int) ≤ ν 0 25) (h1 : tok1 k f t) (hTok : TokR ν1 ν f t k) : ∃ ν', f_X12_readTerm [vR 12 0, vI names, vI ahead] ν1 = some (none, ν') ∧ FrK ν ν' ∧ ((k = 1 ∧ okRw ν names ahead (rowL ν f t) ∧ t - f ≤ 20 ∧ RHL ν' 19 (rowL ν f t) ∧ ν' 0 33 = ((t - f : Nat) : Int) ∧ ∃ f' t' k', TK ν t f' t' k' ∧ (f' : Int) ≤ ν 0 25 ∧ (tok1 k' f' t' → (t' : Int) ≤ ν 0 25) ∧ TokR ν' ν f' t' k') ∨ (k = 1 ∧ ¬ (okRw ν names ahead (rowL ν f t) ∧ t - f ≤ 20) ∧ ν' 0 30 = 5 ∧ ν' 0 31 = (f : Int)) ∨ (k ≠ 1 ∧ ν' 0 30 = 2 ∧ ν' 0 31 = (f : Int))) := by
  rcases hTok with ⟨_, t30, t26, t27, t28, _⟩ | ⟨z, _⟩
  · rw [q_X12_readTerm, t28]
    by_cases q : k = 1
    · have hr := hk q
      have hlen : (rowL ν f t).length = t - f := rowL_len ν f t
      have hav : ∀ x, ar ν x = -4 ∨ ar ν x = 0 ∨ ar ν x = 1 ∨ ar ν x = 2 := fun x => by rw [← ea]; exact ar_vals hW x
      have hft := hr.1
      rw [if_pos (show (if k = 4 then 3 else k) = 1 by rw [if_neg (by omega)]; exact q), q_X12_wants, if_neg ten, cV_t, t30, if_pos (by decide), up_same, t26, t27, wr_eq (x := (t : Int) - (f : Int)) (by omega) (by omega), show (t : Int) - (f : Int) = ((t - f : Nat) : Int) by omega]
      have F1 : FrK ν (up ν1 0 33 ((t - f : Nat) : Int)) := ⟨fun c a b => by rw [up_cell a]; exact hF.1 c a b, fun k a b => by rw [up_slot b]; exact hF.2 k a b⟩
      have mem : (∀ q, q < t - f → mS ν names ahead (lk ν (f + q) - 97)) ↔ ∀ c ∈ rowL ν f t, mS ν names ahead c := by
        unfold rowL
        constructor
        · intro z c hc
          obtain ⟨i, hi, rfl⟩ := List.mem_map.mp hc
          exact z i (List.mem_range.mp hi)
        · intro z i hi
          exact z _ (List.mem_map.mpr ⟨i, List.mem_range.mpr hi, rfl⟩)
      have main : ∀ fl : Int, (fl = 0 ∨ fl = 1) → (fl = 1 ↔ t - f ≤ 20) → ∃ ν', e_X12_readTerm_57 names ahead fl 0 none none (up ν1 0 33 ((t - f : Nat) : Int)) = some (none, ν') ∧ FrK ν ν' ∧ ((k = 1 ∧ okRw ν names ahead (rowL ν f t) ∧ t - f ≤ 20 ∧ RHL ν' 19 (rowL ν f t) ∧ ν' 0 33 = ((t - f : Nat) : Int) ∧ ∃ f' t' k', TK ν t f' t' k' ∧ (f' : Int) ≤ ν 0 25 ∧ (tok1 k' f' t' → (t' : Int) ≤ ν 0 25) ∧ TokR ν' ν f' t' k') ∨ (k = 1 ∧ ¬ (okRw ν names ahead (rowL ν f t) ∧ t - f ≤ 20) ∧ ν' 0 30 = 5 ∧ ν' 0 31 = (f : Int)) ∨ (k ≠ 1 ∧ ν' 0 30 = 2 ∧ ν' 0 31 = (f : Int))) := fun fl hfl hfl2 => by
        obtain ⟨ν2, fl2, o1, o2, o4, o5, o6, a1, a2, a3, a4, a5, a6, a7, a8, a9⟩ := r_read57 hW ew hn h25 ht hr h4 (ahead := ahead) (t - f) 0 _ fl none none (by omega) F1 (up_same _ _ _ _) (by rw [up_slot (by omega)]; exact t27) (by rw [up_slot (by omega)]; exact t30) (by rw [up_slot (by omega)]; exact t26) hfl ⟨fun z => ⟨hfl2.mp z, fun q hq => by omega⟩, fun z => hfl2.mpr z.1⟩ (fun _ q hq => by omega)
        have a1' : e_X12_readTerm_57 names ahead fl 0 none none (up ν1 0 33 ((t - f : Nat) : Int)) = _ := a1
        have bad : ∃ ν', cV (f_X12_wants [vR 12 0, vI 0, vI 5] ν2) (fun μ1 => cV (f_X12_next [vR 12 0] μ1) (fun μ2 => some (none, μ2))) = some (none, ν') ∧ FrK ν ν' ∧ ν' 0 30 = 5 ∧ ν' 0 31 = (f : Int) := by
          rw [q_X12_wants, if_pos rfl, if_pos a5, cV_t, up_slot (show (27 : Nat) ≠ 30 by omega), a4, q_X12_next, up_slot (show (30 : Nat) ≠ 31 by omega), up_same, if_neg (by decide), cV_t]
          exact ⟨_, rfl, frK_trans a2 (frK_trans (frK_N (frN_up (by omega))) (frK_N (frN_up (by omega)))), by rw [up_slot (by omega), up_same], up_same _ _ _ _⟩
        rw [a1', q_X12_readTerm_158]
        rcases a7 with rfl | rfl
        · obtain ⟨ν', b1, b2, b3, b4⟩ := bad
          rw [if_pos rfl]
          exact ⟨ν', b1, b2, Or.inr (Or.inl ⟨q, fun z => by have := a8.mpr ⟨z.2, mem.mpr z.1.1⟩; omega, b3, b4⟩)⟩
        · obtain ⟨l20, hall⟩ := a8.mp rfl
          have hrow : RHL ν2 19 (rowL ν f t) := ⟨by rw [hlen]; exact l20, fun i x hx => by
            have hi : i < t - f := by
              rcases Nat.lt_or_ge i (t - f) with y | y
              · exact y
              · rw [List.getElem?_eq_none (by rw [hlen]; exact y)] at hx; cases hx
            rw [rowL_get hi] at hx
            rw [a9 rfl i hi]
            exact Option.some.inj hx⟩
          have hav2 : ∀ x, ar ν2 x = -4 ∨ ar ν2 x = 0 ∨ ar ν2 x = 1 ∨ ar ν2 x = 2 := by rw [frK_ar a2]; exact hav
          obtain ⟨r, c1, c2⟩ := r_endAt6 (ν := ν2) (l := rowL ν f t) (by rw [a2.2 23 (by omega) (by omega)]; exact h4) hav2 hrow (fun c hc => by
            rw [frK_ar a2, ← ea]
            have := mem.mp hall c hc
            unfold mS at this
            rw [← ew] at this
            exact mS_ar hW this) (t - f) 0 1 (some (vI 0)) none (by omega) (by omega)
          rw [hlen, List.drop_zero, frK_ar a2] at c2
          rw [hlen] at c1
          have c1' : e_X12_endAt_6 19 (some (vI 0)) ((t - f : Nat) : Int) 1 0 none ν2 = _ := c1
          rw [if_neg ten, q_X12_endAt, a3, c1', cI_t, a3]
          by_cases y : r = ((t - f : Nat) : Int)
          · rw [if_pos y, q_X12_wants, if_neg ten, cV_t]
            obtain ⟨f', t', k', ν', d1, d2, d3, d4, d5, d6⟩ := r_next (ν := ν2) (by rw [a2.2 25 (by omega) (by omega)]; exact h25) (by rw [a2.2 25 (by omega) (by omega), a2.1 18 (by omega) (by omega)]; exact hb) frN_rf (by rw [a2.2 25 (by omega) (by omega)]; exact ht) a6 a5
            have d7 := a2.2 25 (by omega) (by omega)
            rw [d4, cV_t]
            refine ⟨ν', rfl, frK_trans a2 (frK_N d5), Or.inl ⟨q, ⟨mem.mp hall, c2.mp y⟩, l20, hrow.kept (d5.1 19 (by omega)), by rw [d5.2 33 (by omega)]; exact a3, f', t', k', d1.congr (frK_lk a2), by rw [← d7]; exact d2, by rw [← d7]; exact d3, d6.congr (frK_lk a2)⟩⟩
          · rw [if_neg y]
            obtain ⟨ν', b1, b2, b3, b4⟩ := bad
            exact ⟨ν', b1, b2, Or.inr (Or.inl ⟨q, fun z => y (c2.mpr z.1.2), b3, b4⟩)⟩
      by_cases l20 : ((t - f : Nat) : Int) ≤ 20
      · rw [if_pos l20]
        exact main 1 (Or.inr rfl) ⟨fun _ => by omega, fun _ => rfl⟩
      · rw [if_neg l20]
        exact main 0 (Or.inl rfl) ⟨fun z => by omega, fun z => by omega⟩
    · have k4 : ¬ (if k = 4 then (3 : Int) else k) = 1 := by split <;> omega
      rw [if_neg k4, q_X12_wants, if_pos rfl, if_pos t30, cV_t, up_slot (show (30 : Nat) ≠ 31 by omega), up_same, if_neg (by decide), up_slot (show (27 : Nat) ≠ 30 by omega), t27]
      exact ⟨_, rfl, frK_trans hF (frK_trans (frK_N (frN_up (by omega))) (frK_N (frN_up (by omega)))), Or.inr (Or.inr ⟨q, by rw [up_slot (by omega), up_same], up_same _ _ _ _⟩)⟩
  · exact absurd h1 z
end RT57
