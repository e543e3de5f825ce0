/-! the law, from its entry -/
set_option maxRecDepth 100000 in
set_option maxHeartbeats 4000000 in
theorem whole_start {p : Program} {e : Env} {s : State} {m : MethodId} {below : List Frame} {meth : Method} {c : Code} (l : Launch) {b L : Nat} {xs : Nat → Int32} (hL : L ≤ 3072) (C0 : lw_At p s m meth c b L xs) : W p l e room_1 s m #[Value.ref b] below meth c s.heap [] 0 0 (lw_Z below #[Value.ref b] s) (entryFrame m ([Value.ref b] : List Value).toArray 4) := by
  obtain ⟨hx, hb, hr, hml, hown, hts0, hX, hbl, hlocks, hgv⟩ := id C0
  have hts := gtb_of hts0
  obtain ⟨D, hD⟩ := cls_known hts
  obtain ⟨cA, hcA, hNA⟩ := arr_all hts (hts0 _ (by decide +kernel)) (hts0 _ (by decide +kernel)) (hts0 _ (by decide +kernel))
  obtain ⟨sa, hsa⟩ := stat_known hts0 hgv
  have hK : va_K D vwCl (tysL (s.heap.size, cA, D, sa)) s := ⟨hD, fun k q hq => by
    have hlt : k < 10 := by
      have := (List.getElem?_eq_some_iff.mp hq).1
      simpa [tysL] using this
    have := tys_get (G := (s.heap.size, cA, D, sa)) (t := 20 + k) (by omega) (by omega)
    rw [show 20 + k - 20 = k by omega] at this
    rw [this] at hq
    cases hq
    exact hcA (20 + k) (by omega) (by omega)⟩
  have hXW : XW (s.heap.size, cA, D, sa) s := ⟨va_AO.of (A := #[Value.ref b]) (hts0 _ (by decide +kernel)), va_AO.of (A := #[Value.ref b]) (hts0 _ (by decide +kernel)), va_Nw.of rfl (A := #[Value.ref b]) (hts0 _ (by decide +kernel)), hNA⟩
  have hl := lv_entry ([.ref b]) (n := 4) (Nat.le_of_ble_eq_true rfl)
  rw [lg_entry_eq]
  generalize (lg_sl ([.ref b]) ++ List.replicate (4 - (lg_sl ([.ref b])).length) Slot.unset).toArray = ls at hl ⊢
  have hl : lv_has ls 4 [(0, .ref b)] := hl
  refine w_obj (G := (s.heap.size, cA, D, sa)) (L0 := loC) (ws := wsC) (C := RX11) (T := TX11) (NF := 11) (z := 14480) (y := yX11_init) (cc := code) (nL := 4) (own := R_law) (i1 := 7) (i2 := 9) tyX11 hx hb hml hown hts hK hXW hl.1 (by decide +kernel) (by decide +kernel) (by decide +kernel) rfl (by decide) inG_X11 tyX11_ok (by decide +kernel) (hts0 _ (by decide +kernel)) w_116 w_100 (hts0 _ (by decide +kernel)) (List.mem_filter.mpr ⟨by decide +kernel, rfl⟩) (List.mem_filter.mpr ⟨by decide +kernel, rfl⟩) (List.mem_filter.mpr ⟨by decide +kernel, rfl⟩) rfl (by decide +kernel) ⟨by decide, by decide⟩ gg_X11_init ev_C rfl (Nat.le_refl _) va_S.rf (by decide) (by decide) (by decide) fun H1 locs1 hP1 z1 o1 hS1 => ?_
  have z1 : H1.size = s.heap.size + 804 := z1
  refine lv_astore_n (k := 1) (i := 1) (nL := 4) (lv := [(0, .ref b)]) (lv' := [(1, .ref s.heap.size), (0, .ref b)]) hx hb (by decide +kernel) rfl hl (by decide) rfl fun ls1 hl1 => ?_
  refine w_obj (G := (s.heap.size + 804, cA, D, sa)) (L0 := loR) (ws := wsR) (C := RX12) (T := TX12) (NF := 83) (z := 39614) (y := yX12_init) (cc := code) (nL := 4) (own := R_law) (i1 := 10) (i2 := 12) tyX12 hx hb hml hown hts hK hXW hl1.1 (by decide +kernel) (by decide +kernel) (by decide +kernel) rfl (by decide) inG_X12 tyX12_ok (by decide +kernel) (hts0 _ (by decide +kernel)) w_1233 w_113 (hts0 _ (by decide +kernel)) (List.mem_filter.mpr ⟨by decide +kernel, rfl⟩) (List.mem_filter.mpr ⟨by decide +kernel, rfl⟩) (List.mem_filter.mpr ⟨by decide +kernel, rfl⟩) rfl (by decide +kernel) ⟨by decide, by decide⟩ gg_X12_init ev_R z1 (Nat.le_add_right _ _) hS1 (by decide) (by decide) (by decide) fun H2 locs2 hP2 z2 o2 hS2 => ?_
  have z2 : H2.size = s.heap.size + 804 + 54 := z2
  refine lv_astore_n (k := 2) (i := 2) (nL := 4) (lv := [(1, .ref s.heap.size), (0, .ref b)]) (lv' := [(2, .ref (s.heap.size + 804)), (1, .ref s.heap.size), (0, .ref b)]) hx hb (by decide +kernel) rfl hl1 (by decide) rfl fun ls2 hl2 => ?_
  refine lv_iconst (n := 0) (v := nI 0) hx hb (by decide +kernel) rfl ?_
  refine lv_istore_n (k := 3) (i := 3) (nL := 4) (lv := [(2, .ref (s.heap.size + 804)), (1, .ref s.heap.size), (0, .ref b)]) (lv' := [(3, .int (nI 0)), (2, .ref (s.heap.size + 804)), (1, .ref s.heap.size), (0, .ref b)]) hx hb (by decide +kernel) rfl hl2 (by decide) rfl fun ls3 hl3 => ?_
  exact law_loop C0 (RR := Rel) (base := s.heap.size) (cA := cA) (D := D) (sa := sa) hK (va_Z.all (fun q hq => hq.1) hsa) (va_Z.all (fun q hq => Nat.le_trans (Nat.le_add_right _ 804) hq.1) hsa) (by decide) (by decide) hL sim_all (L + 6) 0 (by omega) (by omega) (mm0 wsC) (mm0 wsR) H2 locs2 ls3 hl3 ⟨hP1.kept (fun k q hq => by
    obtain ⟨hk, rfl⟩ := pic_at hq
    have hk : k < 804 := hk
    refine o2 (s.heap.size + k) ?_
    omega), hP2, ok0C, ok0R, rel0, Nat.le_refl _, by omega⟩ hS2
