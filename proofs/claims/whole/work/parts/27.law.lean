/-! THE LAW: its loop, over any relation between the two memories that every call keeps and under which every call answers alike -/
def Sm (RR : Mem → Mem → Prop) (fc fr : List AV → Mem → Option Rs) (as : List AV) (μ ν : Mem) : Prop := ∃ (r : Int) (μ' ν' : Mem), fc (vR 11 0 :: as) μ = some (some (vI r), μ') ∧ fr (vR 12 0 :: as) ν = some (some (vI r), ν') ∧ RR μ' ν'
def SIM (RR : Mem → Mem → Prop) : Prop :=
  (∀ (μ ν : Mem) (v : Int), in64 v → RR μ ν → Sm RR f_X11_feed f_X12_feed [vL v] μ ν) ∧
  (∀ (μ ν : Mem) (x1 : Int), in32 x1 → RR μ ν → Sm RR f_X11_end f_X12_end [vI x1] μ ν) ∧
  (∀ (μ ν : Mem), RR μ ν → Sm RR f_X11_text f_X12_text [] μ ν) ∧
  (∀ (μ ν : Mem), RR μ ν → Sm RR f_X11_fault f_X12_fault [] μ ν) ∧
  (∀ (μ ν : Mem) (x1 : Int), in32 x1 → RR μ ν → Sm RR f_X11_hand f_X12_hand [vI x1] μ ν) ∧
  (∀ (μ ν : Mem) (x1 : Int), in32 x1 → RR μ ν → Sm RR f_X11_day f_X12_day [vI x1] μ ν) ∧
  (∀ (μ ν : Mem) (x1 x2 : Int), in32 x1 → in32 x2 → RR μ ν → Sm RR f_X11_of f_X12_of [vI x1, vI x2] μ ν) ∧
  (∀ (μ ν : Mem) (x1 x2 x3 : Int), in32 x1 → in32 x2 → in32 x3 → RR μ ν → Sm RR f_X11_sign f_X12_sign [vI x1, vI x2, vI x3] μ ν) ∧
  (∀ (μ ν : Mem) (x1 x2 : Int), in32 x1 → in32 x2 → RR μ ν → Sm RR f_X11_word f_X12_word [vI x1, vI x2] μ ν) ∧
  (∀ (μ ν : Mem) (x1 x2 : Int), in32 x1 → in32 x2 → RR μ ν → Sm RR f_X11_as f_X12_as [vI x1, vI x2] μ ν) ∧
  (∀ (μ ν : Mem) (x1 : Int), in32 x1 → RR μ ν → Sm RR f_X11_prove f_X12_prove [vI x1] μ ν) ∧
  (∀ (μ ν : Mem) (x1 x2 x3 : Int), in32 x1 → in32 x2 → in32 x3 → RR μ ν → Sm RR f_X11_step f_X12_step [vI x1, vI x2, vI x3] μ ν) ∧
  (∀ (μ ν : Mem), RR μ ν → Sm RR f_X11_undo f_X12_undo [] μ ν) ∧
  (∀ (μ ν : Mem) (x1 : Int), in32 x1 → RR μ ν → Sm RR f_X11_proof f_X12_proof [vI x1] μ ν) ∧
  (∀ (μ ν : Mem), RR μ ν → Sm RR f_X11_show f_X12_show [] μ ν) ∧
  (∀ (μ ν : Mem) (x1 x2 x3 : Int), in32 x1 → in32 x2 → in32 x3 → RR μ ν → Sm RR f_X11_stepOf f_X12_stepOf [vI x1, vI x2, vI x3] μ ν) ∧
  (∀ (μ ν : Mem) (x1 x2 : Int), in32 x1 → in32 x2 → RR μ ν → Sm RR f_X11_leans f_X12_leans [vI x1, vI x2] μ ν) ∧
  (∀ (μ ν : Mem) (x1 : Int), in32 x1 → RR μ ν → Sm RR f_X11_change f_X12_change [vI x1] μ ν) ∧
  (∀ (μ ν : Mem) (x1 x2 x3 x4 : Int), in32 x1 → in32 x2 → in32 x3 → in32 x4 → RR μ ν → Sm RR f_X11_seek f_X12_seek [vI x1, vI x2, vI x3, vI x4] μ ν) ∧
  (∀ (μ ν : Mem) (x1 x2 x3 : Int), in32 x1 → in32 x2 → in32 x3 → RR μ ν → Sm RR f_X11_take f_X12_take [vI x1, vI x2, vI x3] μ ν) ∧
  (∀ (μ ν : Mem) (x1 x2 x3 : Int), in32 x1 → in32 x2 → in32 x3 → RR μ ν → Sm RR f_X11_holds f_X12_holds [vI x1, vI x2, vI x3] μ ν) ∧
  (∀ (μ ν : Mem) (x1 x2 : Int), in32 x1 → in32 x2 → RR μ ν → Sm RR f_X11_worlds f_X12_worlds [vI x1, vI x2] μ ν) ∧
  (∀ (μ ν : Mem) (x1 x2 : Int), in32 x1 → in32 x2 → RR μ ν → Sm RR f_X11_denied f_X12_denied [vI x1, vI x2] μ ν) ∧
  (∀ (μ ν : Mem) (x1 x2 x3 : Int), in32 x1 → in32 x2 → in32 x3 → RR μ ν → Sm RR f_X11_like f_X12_like [vI x1, vI x2, vI x3] μ ν) ∧
  (∀ (μ ν : Mem) (x1 x2 x3 : Int), in32 x1 → in32 x2 → in32 x3 → RR μ ν → Sm RR f_X11_find f_X12_find [vI x1, vI x2, vI x3] μ ν) ∧
  (∀ (μ ν : Mem) (x1 x2 x3 : Int), in32 x1 → in32 x2 → in32 x3 → RR μ ν → Sm RR f_X11_teach f_X12_teach [vI x1, vI x2, vI x3] μ ν) ∧
  (∀ (μ ν : Mem) (x1 x2 x3 : Int), in32 x1 → in32 x2 → in32 x3 → RR μ ν → Sm RR f_X11_sheet f_X12_sheet [vI x1, vI x2, vI x3] μ ν) ∧
  (∀ (μ ν : Mem) (x1 x2 x3 : Int), in32 x1 → in32 x2 → in32 x3 → RR μ ν → Sm RR f_X11_lay f_X12_lay [vI x1, vI x2, vI x3] μ ν) ∧
  (∀ (μ ν : Mem) (x1 x2 x3 x4 x5 : Int), in32 x1 → in32 x2 → in32 x3 → in32 x4 → in32 x5 → RR μ ν → Sm RR f_X11_read f_X12_read [vI x1, vI x2, vI x3, vI x4, vI x5] μ ν) ∧
  (∀ (μ ν : Mem) (x1 : Int), in32 x1 → RR μ ν → Sm RR f_X11_count f_X12_count [vI x1] μ ν)

/-- what stands between two calls: both objects' cells, what the relation says; s0: the heap's size at the law's entry -/
def LWd (RR : Mem → Mem → Prop) (base s0 : Nat) (cA : Nat → ClassId) (D : va_G) (sa : Nat → Nat) (μ ν : Mem) (H : Heap) : Prop :=
  va_P D vwCl (pic loC (base, cA, D, sa) μ) H ∧ va_P D vwCl (pic loR (base + 804, cA, D, sa) ν) H ∧ okM loC μ ∧ okM loR ν ∧ RR μ ν ∧ s0 ≤ base ∧ base + 858 ≤ H.size
def nwA (s0 : Nat) : Nat → Prop := fun q => s0 ≤ q
theorem call_coreA {L : Lo} {G : Wp} {A : Nat → Prop} {p : Program} {l : Launch} {e : Env} {R : Room} {s : State} {m : MethodId} {args : Array Value} {below : List Frame} {meth : Method} {c : Code} {H : Heap} {locs : List Loc} {Q : State → Prop} {pc k1 n1 : Nat} {la : Array Slot} {st0 rest : List Value} {r0 : Rs} {av : Array Value}
    (hA : ∀ q, Ar L G q → A q) (hr : va_Run p l e R s m args below meth c H locs k1 n1 0 0 (F0 m pc la st0) rest (Qr L G r0 av) (Ar L G)) (hS : va_S A s.heap H locs)
    (kk : ∀ (H' : Heap) (locs' : List Loc), okM L r0.2 → va_P G.2.2.1 vwCl (pic L G r0.2) H' → H.size ≤ H'.size → (∀ q : Nat, q < H.size → ¬ Ar L G q → H'[q]? = H[q]?) → va_S A s.heap H' locs' → W p l e R s m args below meth c H' locs' k1 n1 Q (F0 m (pc + 3) la ((r0.1.map (cv G)).toList ++ rest))) : W p l e R s m args below meth c H locs k1 n1 Q (F0 m pc la st0) := by
  intro T hT X
  obtain ⟨v, st₀, t, T', L', h0, X', hL, e1, e2, ⟨ho, hok, hM, hP, hF⟩, st⟩ := hr T hT X
  obtain rfl := Outcome.returned.inj ho
  obtain ⟨hF1, hF2⟩ := hF
  rw [h0] at hF1 hF2
  obtain ⟨t2, a1, b1⟩ := kk T'.heap (locs ++ L') hM (by rw [e1]; exact hP) (by rw [e1]; exact hF1) (fun q h1 h2 => by rw [e1]; exact hF2 q h1 h2) ⟨Nat.le_trans hS.1 (by rw [e1]; exact hF1), fun q h1 h2 => by
      rw [e1, hF2 q (Nat.lt_of_lt_of_le h1 hS.1) (fun z => h2 (hA q z))]; exact hS.2.1 q h1 h2, fun q hq => by
      rcases List.mem_append.mp hq with hq | hq
      · exact hS.2.2 q hq
      · exact hA _ (hL q hq)⟩ T' rfl X'
  exact ⟨t2, st t2 a1, b1⟩
theorem law_call {L : Lo} {G : Wp} {A : Nat → Prop} {l : Launch} {pc idx n maxL ci NF c0 : Nat} {C : String} {T : u_T} {y : MethodName} {bytes : ByteArray} {rt : Option FieldType} {rm : Room} {f : List AV → Mem → Option Rs} (hd : decode code pc = .ok (.invokevirtual idx, 3)) (hG : GoodM L G l y bytes maxL rt rm f) (hc : vwCl[ci]? = some (C, T, NF)) (h20 : ci < 20)
    (hy : y.cls = C ∧ y.cls ≠ "java/lang/invoke/MethodHandle" ∧ y.cls ≠ "java/lang/invoke/VarHandle" ∧ (parseMethodDescriptor y.desc).map (fun d => d.parameters.length) = some n)
    (hws : ∀ w ∈ ([.methodLink R_law idx y, .instanceMethod y, .selects C y y, .initialized C] : List Cond) ++ [Cond.code y bytes maxL rt], w ∈ gtb) (hrc : rm.cells = 0) (hrs : rm.slots = 0) (hR : rm.frames + 1 ≤ room_1.frames ∧ 8 + (maxL + 11) + rm.locals ≤ room_1.locals)
    {p : Program} {e : Env} {s : State} {m : MethodId} {args : Array Value} {below : List Frame} {meth : Method} {c : Code} (hx : p.tables.exec = Jvm.exec) (hb : c.code = code) (hml : c.maxLocals = 4) (hown : s.vm.findClass R_law = some m.cls) (hts : ∀ w ∈ gtb, w.before args s = true) (hK : va_K G.2.2.1 vwCl (tysL G) s) (hZ : SZ L G s)
    {Q : State → Prop} {As : List AV} {rest st0 : List Value} {μ : Mem} {H : Heap} {locs : List Loc} {la : Array Slot} {k1 n1 : Nat} (hla : la.size = 4) (hok : ∀ v ∈ vR ci c0 :: As, okV L v) (hAs : As.length = n) (hP : va_P G.2.2.1 vwCl (pic L G μ) H) (hm : okM L μ) (hS : va_S A s.heap H locs) (hA : ∀ q, Ar L G q → A q) (hA2 : ∀ q, q < s.heap.size → ¬ A q)
    (hst : st0 = (As.map (cv G)).reverse ++ .ref (ad G ci c0) :: rest) (hrest : (rest.map fun v => v.category).sum ≤ 8) (hk : k1 ≤ room_1.cells) (hn : n1 ≤ room_1.slots) {r0 : Rs} (hf : f (vR ci c0 :: As) μ = some r0)
    (kk : ∀ (H' : Heap) (locs' : List Loc), okM L r0.2 → va_P G.2.2.1 vwCl (pic L G r0.2) H' → H.size ≤ H'.size → (∀ q : Nat, q < H.size → ¬ Ar L G q → H'[q]? = H[q]?) → va_S A s.heap H' locs' → W p l e room_1 s m args below meth c H' locs' k1 n1 Q (F0 m (pc + 3) la ((r0.1.map (cv G)).toList ++ rest))) :
    W p l e room_1 s m args below meth c H locs k1 n1 Q (F0 m pc la st0) := by
  have hrec : okR L ci c0 := hok (vR ci c0) List.mem_cons_self
  obtain ⟨h8, h9⟩ := okR_cell hrec (by omega)
  have hM := hG _ μ r0 hok hm hf
  have ea : ad G ci c0 = G.1 + c0 := ad_lt (by omega)
  subst hst
  refine call_coreA (r0 := r0) (rest := rest) hA (va_runV (As := As.map (cv G)) (b := ad G ci c0) ⟨hx, hb, hml, hown, hts⟩ hM (cwV n hts (gIn_app (ws := []) hws) rfl hrc hrs hy hR) ⟨pcM_blind, ?_, ?_⟩ rfl (by rw [List.length_map, hAs]) hla rfl (lv_room hrest) hd ⟨hk, hn⟩) hS kk
  · rw [ea]
    exact va_recv hK hP hc ((pic_get h8).trans (by rw [cell_obj hc h20 h9]))
  · intro U hU hW
    exact ⟨rfl, by rw [hU]; exact hP, va_K.moved hW.alike hK, sz_moved hZ hW.alike (fun a ha hn => by rw [hU]; exact hS.2.1 a ha (hA2 a ha))⟩
theorem nwA_no {n : Nat} : ∀ q, q < n → ¬ nwA n q := fun q h h2 => Nat.not_le.mpr h h2
theorem ArC_new {base s0 : Nat} {cA : Nat → ClassId} {D : va_G} {sa : Nat → Nat} (h : s0 ≤ base) : ∀ q, Ar loC (base, cA, D, sa) q → nwA s0 q := fun q hq => Nat.le_trans h hq.1
theorem ArR_new {base s0 : Nat} {cA : Nat → ClassId} {D : va_G} {sa : Nat → Nat} (h : s0 ≤ base) : ∀ q, Ar loR (base + 804, cA, D, sa) q → nwA s0 q := fun q hq => Nat.le_trans h (Nat.le_trans (Nat.le_add_right _ _) hq.1)
theorem pic_keptR {base : Nat} {cA : Nat → ClassId} {D : va_G} {sa : Nat → Nat} {ν : Mem} {H H' : Heap} (hP : va_P D vwCl (pic loR (base + 804, cA, D, sa) ν) H) (hz : base + 858 ≤ H.size) (hq : ∀ q : Nat, q < H.size → ¬ Ar loC (base, cA, D, sa) q → H'[q]? = H[q]?) : va_P D vwCl (pic loR (base + 804, cA, D, sa) ν) H' := by
  refine hP.kept (fun k q h => ?_)
  obtain ⟨hk, rfl⟩ := pic_at h
  have hk2 : k < 54 := hk
  refine hq _ (show base + 804 + k < H.size by omega) (fun z => ?_)
  have z2 : base + 804 + k < base + 804 := z.2
  omega
theorem pic_keptC {base : Nat} {cA : Nat → ClassId} {D : va_G} {sa : Nat → Nat} {μ : Mem} {H H' : Heap} (hP : va_P D vwCl (pic loC (base, cA, D, sa) μ) H) (hz : base + 858 ≤ H.size) (hq : ∀ q : Nat, q < H.size → ¬ Ar loR (base + 804, cA, D, sa) q → H'[q]? = H[q]?) : va_P D vwCl (pic loC (base, cA, D, sa) μ) H' := by
  refine hP.kept (fun k q h => ?_)
  obtain ⟨hk, rfl⟩ := pic_at h
  have hk2 : k < 804 := hk
  refine hq _ (show base + k < H.size by omega) (fun z => ?_)
  have z2 : base + 804 ≤ base + k := z.1
  omega
theorem okC0 : okR loC 11 0 := Or.inl ⟨by decide, by decide, by decide⟩
theorem okR0 : okR loR 12 0 := Or.inl ⟨by decide, by decide, by decide⟩
theorem nI_addk {i k : Nat} : nI i + nI k = nI (i + k) := nI_add i k
set_option maxHeartbeats 4000000 in
set_option maxRecDepth 100000 in
theorem law_feed {p : Program} {e : Env} {s : State} {m : MethodId} {below : List Frame} {meth : Method} {c : Code} {l : Launch} {b L : Nat} {xs : Nat → Int32} (C0 : lw_At p s m meth c b L xs) {RR : Mem → Mem → Prop} {base : Nat} {cA : Nat → ClassId} {D : va_G} {sa : Nat → Nat} (hK : va_K D vwCl (tysL (base, cA, D, sa)) s) (hZC : SZ loC (base, cA, D, sa) s) (hZR : SZ loR (base + 804, cA, D, sa) s) {k1 n1 : Nat} (hk : k1 ≤ room_1.cells) (hn : n1 ≤ room_1.slots) {Q : State → Prop} {i : Nat} (hi : i + 6 ≤ L) (hL : L ≤ 3072) (hsim : ∀ (μ ν : Mem) (v : Int), in64 v → RR μ ν → Sm RR f_X11_feed f_X12_feed [vL v] μ ν) {μ ν : Mem} {H : Heap} {locs : List Loc} {ls : Array Slot} (hl : lv_has ls 4 [(3, .int (nI i)), (2, .ref (base + 804)), (1, .ref base), (0, .ref b)]) (hW : LWd RR base s.heap.size cA D sa μ ν H) (hS : va_S (nwA s.heap.size) s.heap H locs)
    (kk : ∀ (H : Heap) (locs : List Loc) (μ ν : Mem) (ls : Array Slot) (st : Unit), lv_has ls 4 [(3, .int (nI i)), (2, .ref (base + 804)), (1, .ref base), (0, .ref b)] → LWd RR base s.heap.size cA D sa μ ν H → va_S (nwA s.heap.size) s.heap H locs → W p l e room_1 s m #[Value.ref b] below meth c H locs k1 n1 Q (F0 m 1178 ls [])) : W p l e room_1 s m #[Value.ref b] below meth c H locs k1 n1 Q (F0 m 168 ls []) := by
  obtain ⟨hx, hb, hr, hml, hown, hts0, hX, hbl, hlocks, hgv⟩ := C0
  have hts : ∀ w ∈ gtb, w.before #[Value.ref b] s = true := fun w hw => hts0 w (List.mem_filter.mp hw).1
  obtain ⟨hPC, hPR, hmC, hmR, hrel, hs0, hz⟩ := hW
  have hnw := nwA_no (n := s.heap.size)
  have ev : ∀ v : Int64, q64 v.toInt = v := q64_of
  obtain ⟨r, μ1, ν1, hfc, hfr, hrel1⟩ := hsim μ ν ((xs (i + 1)).toInt64 <<< ((32 : Int32).toInt64 &&& 63) ||| ((xs (i + 2)).toInt64 &&& 4294967295)).toInt (i64_in _) hrel
  refine lv_aload_n hx hb dl_168 rfl (lv_at hl 2 rfl) ?_
  refine lv_aload_n hx hb dl_169 rfl (lv_at hl 3 rfl) ?_
  refine lv_iload_n hx hb dl_170 rfl (lv_at hl 0 rfl) ?_
  refine lv_iconst (v := nI 1) hx hb dl_171 (by decide +kernel) ?_
  refine lv_iadd hx hb dl_172 ?_
  rw [nI_addk]
  refine va_sld hx hb hX hbl (hnw b hbl) hS (vp_in_nI (N := L) (by omega) (by omega)) dl_173 ?_
  rw [nI_clamp (show i + 1 < 2 ^ 31 by omega)]
  refine lv_i2l hx hb dl_174 rfl ?_
  refine lv_bipush (v := 32) hx hb dl_175 (by decide +kernel) ?_
  refine lv_lshl hx hb dl_177 rfl ?_
  refine lv_aload_n hx hb dl_178 rfl (lv_at hl 3 rfl) ?_
  refine lv_iload_n hx hb dl_179 rfl (lv_at hl 0 rfl) ?_
  refine lv_iconst (v := nI 2) hx hb dl_180 (by decide +kernel) ?_
  refine lv_iadd hx hb dl_181 ?_
  rw [nI_addk]
  refine va_sld hx hb hX hbl (hnw b hbl) hS (vp_in_nI (N := L) (by omega) (by omega)) dl_182 ?_
  rw [nI_clamp (show i + 2 < 2 ^ 31 by omega)]
  refine lv_i2l hx hb dl_183 rfl ?_
  refine lv_ldc2 (v := 4294967295) hx hb hown (hts _ wl_1866) dl_184 ?_
  refine lv_land hx hb dl_187 ?_
  refine lv_lor hx hb dl_188 ?_
  refine law_call (L := loC) (G := (base, cA, D, sa)) (A := nwA s.heap.size) (ci := 11) (c0 := 0) (n := 1) (idx := 15) (C := RX11) (T := TX11) (NF := 11) (y := yX11_feed) (As := [vL ((xs (i + 1)).toInt64 <<< ((32 : Int32).toInt64 &&& 63) ||| ((xs (i + 2)).toInt64 &&& 4294967295)).toInt]) (rest := []) (r0 := (some (vI r), μ1)) dl_189 gg_X11_feed rfl (by decide) yw_X11_feed (all5 wl_592 wl_593 wl_594 w_100 wl_595) rfl rfl ⟨by decide, by decide⟩ hx hb hml hown hts hK hZC hl.1 (fa1 okC0 (fa1 (i64_in _) fa0)) rfl hPC hmC hS (ArC_new hs0) hnw (by show _ :: _ = [Value.long (q64 _)].reverse ++ _; rw [ev]; rfl) (Nat.le_of_ble_eq_true rfl) hk hn hfc (fun H1 locs1 hm1 hP1 hz1 hq1 hS1 => ?_)
  replace hPR := pic_keptR hPR hz hq1
  clear hPC hmC hS
  rename va_S (nwA s.heap.size) s.heap H1 locs1 => hS
  rename okM loC μ1 => hmC
  rename va_P _ _ (pic loC _ μ1) H1 => hPC
  have hz2 : base + 858 ≤ H1.size := Nat.le_trans hz hz1
  clear hz1 hq1 hz
  rename base + 858 ≤ H1.size => hz
  refine lv_aload_n hx hb dl_192 rfl (lv_at hl 1 rfl) ?_
  refine lv_aload_n hx hb dl_193 rfl (lv_at hl 3 rfl) ?_
  refine lv_iload_n hx hb dl_194 rfl (lv_at hl 0 rfl) ?_
  refine lv_iconst (v := nI 1) hx hb dl_195 (by decide +kernel) ?_
  refine lv_iadd hx hb dl_196 ?_
  rw [nI_addk]
  refine va_sld hx hb hX hbl (hnw b hbl) hS (vp_in_nI (N := L) (by omega) (by omega)) dl_197 ?_
  rw [nI_clamp (show i + 1 < 2 ^ 31 by omega)]
  refine lv_i2l hx hb dl_198 rfl ?_
  refine lv_bipush (v := 32) hx hb dl_199 (by decide +kernel) ?_
  refine lv_lshl hx hb dl_201 rfl ?_
  refine lv_aload_n hx hb dl_202 rfl (lv_at hl 3 rfl) ?_
  refine lv_iload_n hx hb dl_203 rfl (lv_at hl 0 rfl) ?_
  refine lv_iconst (v := nI 2) hx hb dl_204 (by decide +kernel) ?_
  refine lv_iadd hx hb dl_205 ?_
  rw [nI_addk]
  refine va_sld hx hb hX hbl (hnw b hbl) hS (vp_in_nI (N := L) (by omega) (by omega)) dl_206 ?_
  rw [nI_clamp (show i + 2 < 2 ^ 31 by omega)]
  refine lv_i2l hx hb dl_207 rfl ?_
  refine lv_ldc2 (v := 4294967295) hx hb hown (hts _ wl_1866) dl_208 ?_
  refine lv_land hx hb dl_211 ?_
  refine lv_lor hx hb dl_212 ?_
  refine law_call (L := loR) (G := (base + 804, cA, D, sa)) (A := nwA s.heap.size) (ci := 12) (c0 := 0) (n := 1) (idx := 19) (C := RX12) (T := TX12) (NF := 83) (y := yX12_feed) (As := [vL ((xs (i + 1)).toInt64 <<< ((32 : Int32).toInt64 &&& 63) ||| ((xs (i + 2)).toInt64 &&& 4294967295)).toInt]) (rest := [.int (q32 r)]) (r0 := (some (vI r), ν1)) dl_213 gg_X12_feed rfl (by decide) yw_X12_feed (all5 wl_1489 wl_1490 wl_1491 w_113 wl_1492) rfl rfl ⟨by decide, by decide⟩ hx hb hml hown hts hK hZR hl.1 (fa1 okR0 (fa1 (i64_in _) fa0)) rfl hPR hmR hS (ArR_new hs0) hnw (by show _ :: _ = [Value.long (q64 _)].reverse ++ _; rw [ev]; rfl) (Nat.le_of_ble_eq_true rfl) hk hn hfr (fun H1 locs1 hm1 hP1 hz1 hq1 hS1 => ?_)
  replace hPC := pic_keptC hPC hz hq1
  refine lv_icmp_eq (tgt := 1178) hx hb dl_216 (by decide) (fun _ => ?_) (fun q => absurd rfl q)
  exact kk _ _ μ1 ν1 _ () hl ⟨hPC, hP1, hmC, hm1, hrel1, hs0, Nat.le_trans hz hz1⟩ hS1
set_option maxHeartbeats 4000000 in
set_option maxRecDepth 100000 in
theorem law_end {p : Program} {e : Env} {s : State} {m : MethodId} {below : List Frame} {meth : Method} {c : Code} {l : Launch} {b L : Nat} {xs : Nat → Int32} (C0 : lw_At p s m meth c b L xs) {RR : Mem → Mem → Prop} {base : Nat} {cA : Nat → ClassId} {D : va_G} {sa : Nat → Nat} (hK : va_K D vwCl (tysL (base, cA, D, sa)) s) (hZC : SZ loC (base, cA, D, sa) s) (hZR : SZ loR (base + 804, cA, D, sa) s) {k1 n1 : Nat} (hk : k1 ≤ room_1.cells) (hn : n1 ≤ room_1.slots) {Q : State → Prop} {i : Nat} (hi : i + 6 ≤ L) (hL : L ≤ 3072) (hsim : ∀ (μ ν : Mem) (x1 : Int), in32 x1 → RR μ ν → Sm RR f_X11_end f_X12_end [vI x1] μ ν) {μ ν : Mem} {H : Heap} {locs : List Loc} {ls : Array Slot} (hl : lv_has ls 4 [(3, .int (nI i)), (2, .ref (base + 804)), (1, .ref base), (0, .ref b)]) (hW : LWd RR base s.heap.size cA D sa μ ν H) (hS : va_S (nwA s.heap.size) s.heap H locs)
    (kk : ∀ (H : Heap) (locs : List Loc) (μ ν : Mem) (ls : Array Slot) (st : Unit), lv_has ls 4 [(3, .int (nI i)), (2, .ref (base + 804)), (1, .ref base), (0, .ref b)] → LWd RR base s.heap.size cA D sa μ ν H → va_S (nwA s.heap.size) s.heap H locs → W p l e room_1 s m #[Value.ref b] below meth c H locs k1 n1 Q (F0 m 1178 ls [])) : W p l e room_1 s m #[Value.ref b] below meth c H locs k1 n1 Q (F0 m 221 ls []) := by
  obtain ⟨hx, hb, hr, hml, hown, hts0, hX, hbl, hlocks, hgv⟩ := C0
  have hts : ∀ w ∈ gtb, w.before #[Value.ref b] s = true := fun w hw => hts0 w (List.mem_filter.mp hw).1
  obtain ⟨hPC, hPR, hmC, hmR, hrel, hs0, hz⟩ := hW
  have hnw := nwA_no (n := s.heap.size)
  obtain ⟨r, μ1, ν1, hfc, hfr, hrel1⟩ := hsim μ ν (xs (i + 1)).toInt (i32_in _) hrel
  refine lv_aload_n hx hb dl_221 rfl (lv_at hl 2 rfl) ?_
  refine lv_aload_n hx hb dl_222 rfl (lv_at hl 3 rfl) ?_
  refine lv_iload_n hx hb dl_223 rfl (lv_at hl 0 rfl) ?_
  refine lv_iconst (v := nI 1) hx hb dl_224 (by decide +kernel) ?_
  refine lv_iadd hx hb dl_225 ?_
  rw [nI_addk]
  refine va_sld hx hb hX hbl (hnw b hbl) hS (vp_in_nI (N := L) (by omega) (by omega)) dl_226 ?_
  rw [nI_clamp (show i + 1 < 2 ^ 31 by omega)]
  refine law_call (L := loC) (G := (base, cA, D, sa)) (A := nwA s.heap.size) (ci := 11) (c0 := 0) (n := 1) (idx := 20) (C := RX11) (T := TX11) (NF := 11) (y := yX11_end) (As := [vI (xs (i + 1)).toInt]) (rest := []) (r0 := (some (vI r), μ1)) dl_227 gg_X11_end rfl (by decide) yw_X11_end (all5 wl_600 wl_601 wl_602 w_100 wl_603) rfl rfl ⟨by decide, by decide⟩ hx hb hml hown hts hK hZC hl.1 (fa1 okC0 (fa1 (i32_in _) (fa0))) rfl hPC hmC hS (ArC_new hs0) hnw (by simp only [List.map_cons, List.map_nil, cv, q32_of]; rfl) (Nat.le_of_ble_eq_true rfl) hk hn hfc (fun H1 locs1 hm1 hP1 hz1 hq1 hS1 => ?_)
  replace hPR := pic_keptR hPR hz hq1
  clear hPC hmC hS
  rename va_S (nwA s.heap.size) s.heap H1 locs1 => hS
  rename okM loC μ1 => hmC
  rename va_P _ _ (pic loC _ μ1) H1 => hPC
  have hz2 : base + 858 ≤ H1.size := Nat.le_trans hz hz1
  clear hz1 hq1 hz
  rename base + 858 ≤ H1.size => hz
  refine lv_aload_n hx hb dl_230 rfl (lv_at hl 1 rfl) ?_
  refine lv_aload_n hx hb dl_231 rfl (lv_at hl 3 rfl) ?_
  refine lv_iload_n hx hb dl_232 rfl (lv_at hl 0 rfl) ?_
  refine lv_iconst (v := nI 1) hx hb dl_233 (by decide +kernel) ?_
  refine lv_iadd hx hb dl_234 ?_
  rw [nI_addk]
  refine va_sld hx hb hX hbl (hnw b hbl) hS (vp_in_nI (N := L) (by omega) (by omega)) dl_235 ?_
  rw [nI_clamp (show i + 1 < 2 ^ 31 by omega)]
  refine law_call (L := loR) (G := (base + 804, cA, D, sa)) (A := nwA s.heap.size) (ci := 12) (c0 := 0) (n := 1) (idx := 24) (C := RX12) (T := TX12) (NF := 83) (y := yX12_end) (As := [vI (xs (i + 1)).toInt]) (rest := [.int (q32 r)]) (r0 := (some (vI r), ν1)) dl_236 gg_X12_end rfl (by decide) yw_X12_end (all5 wl_1494 wl_1495 wl_1496 w_113 wl_1497) rfl rfl ⟨by decide, by decide⟩ hx hb hml hown hts hK hZR hl.1 (fa1 okR0 (fa1 (i32_in _) (fa0))) rfl hPR hmR hS (ArR_new hs0) hnw (by simp only [List.map_cons, List.map_nil, cv, q32_of]; rfl) (Nat.le_of_ble_eq_true rfl) hk hn hfr (fun H1 locs1 hm1 hP1 hz1 hq1 hS1 => ?_)
  replace hPC := pic_keptC hPC hz hq1
  refine lv_icmp_eq (tgt := 1178) hx hb dl_239 (by decide) (fun _ => ?_) (fun q => absurd rfl q)
  exact kk _ _ μ1 ν1 _ () hl ⟨hPC, hP1, hmC, hm1, hrel1, hs0, Nat.le_trans hz hz1⟩ hS1
set_option maxHeartbeats 4000000 in
set_option maxRecDepth 100000 in
theorem law_text {p : Program} {e : Env} {s : State} {m : MethodId} {below : List Frame} {meth : Method} {c : Code} {l : Launch} {b L : Nat} {xs : Nat → Int32} (C0 : lw_At p s m meth c b L xs) {RR : Mem → Mem → Prop} {base : Nat} {cA : Nat → ClassId} {D : va_G} {sa : Nat → Nat} (hK : va_K D vwCl (tysL (base, cA, D, sa)) s) (hZC : SZ loC (base, cA, D, sa) s) (hZR : SZ loR (base + 804, cA, D, sa) s) {k1 n1 : Nat} (hk : k1 ≤ room_1.cells) (hn : n1 ≤ room_1.slots) {Q : State → Prop} {i : Nat} (hi : i + 6 ≤ L) (hL : L ≤ 3072) (hsim : ∀ (μ ν : Mem), RR μ ν → Sm RR f_X11_text f_X12_text [] μ ν) {μ ν : Mem} {H : Heap} {locs : List Loc} {ls : Array Slot} (hl : lv_has ls 4 [(3, .int (nI i)), (2, .ref (base + 804)), (1, .ref base), (0, .ref b)]) (hW : LWd RR base s.heap.size cA D sa μ ν H) (hS : va_S (nwA s.heap.size) s.heap H locs)
    (kk : ∀ (H : Heap) (locs : List Loc) (μ ν : Mem) (ls : Array Slot) (st : Unit), lv_has ls 4 [(3, .int (nI i)), (2, .ref (base + 804)), (1, .ref base), (0, .ref b)] → LWd RR base s.heap.size cA D sa μ ν H → va_S (nwA s.heap.size) s.heap H locs → W p l e room_1 s m #[Value.ref b] below meth c H locs k1 n1 Q (F0 m 1178 ls [])) : W p l e room_1 s m #[Value.ref b] below meth c H locs k1 n1 Q (F0 m 244 ls []) := by
  obtain ⟨hx, hb, hr, hml, hown, hts0, hX, hbl, hlocks, hgv⟩ := C0
  have hts : ∀ w ∈ gtb, w.before #[Value.ref b] s = true := fun w hw => hts0 w (List.mem_filter.mp hw).1
  obtain ⟨hPC, hPR, hmC, hmR, hrel, hs0, hz⟩ := hW
  have hnw := nwA_no (n := s.heap.size)
  obtain ⟨r, μ1, ν1, hfc, hfr, hrel1⟩ := hsim μ ν   hrel
  refine lv_aload_n hx hb dl_244 rfl (lv_at hl 2 rfl) ?_
  refine law_call (L := loC) (G := (base, cA, D, sa)) (A := nwA s.heap.size) (ci := 11) (c0 := 0) (n := 0) (idx := 25) (C := RX11) (T := TX11) (NF := 11) (y := yX11_text) (As := []) (rest := []) (r0 := (some (vI r), μ1)) dl_245 gg_X11_text rfl (by decide) yw_X11_text (all5 wl_604 wl_605 wl_606 w_100 wl_607) rfl rfl ⟨by decide, by decide⟩ hx hb hml hown hts hK hZC hl.1 (fa1 okC0 (fa0)) rfl hPC hmC hS (ArC_new hs0) hnw (rfl) (Nat.le_of_ble_eq_true rfl) hk hn hfc (fun H1 locs1 hm1 hP1 hz1 hq1 hS1 => ?_)
  replace hPR := pic_keptR hPR hz hq1
  clear hPC hmC hS
  rename va_S (nwA s.heap.size) s.heap H1 locs1 => hS
  rename okM loC μ1 => hmC
  rename va_P _ _ (pic loC _ μ1) H1 => hPC
  have hz2 : base + 858 ≤ H1.size := Nat.le_trans hz hz1
  clear hz1 hq1 hz
  rename base + 858 ≤ H1.size => hz
  refine lv_aload_n hx hb dl_248 rfl (lv_at hl 1 rfl) ?_
  refine law_call (L := loR) (G := (base + 804, cA, D, sa)) (A := nwA s.heap.size) (ci := 12) (c0 := 0) (n := 0) (idx := 29) (C := RX12) (T := TX12) (NF := 83) (y := yX12_text) (As := []) (rest := [.int (q32 r)]) (r0 := (some (vI r), ν1)) dl_249 gg_X12_text rfl (by decide) yw_X12_text (all5 wl_1501 wl_1502 wl_1503 w_113 wl_1504) rfl rfl ⟨by decide, by decide⟩ hx hb hml hown hts hK hZR hl.1 (fa1 okR0 (fa0)) rfl hPR hmR hS (ArR_new hs0) hnw (rfl) (Nat.le_of_ble_eq_true rfl) hk hn hfr (fun H1 locs1 hm1 hP1 hz1 hq1 hS1 => ?_)
  replace hPC := pic_keptC hPC hz hq1
  refine lv_icmp_eq (tgt := 1178) hx hb dl_252 (by decide) (fun _ => ?_) (fun q => absurd rfl q)
  exact kk _ _ μ1 ν1 _ () hl ⟨hPC, hP1, hmC, hm1, hrel1, hs0, Nat.le_trans hz hz1⟩ hS1
set_option maxHeartbeats 4000000 in
set_option maxRecDepth 100000 in
theorem law_fault {p : Program} {e : Env} {s : State} {m : MethodId} {below : List Frame} {meth : Method} {c : Code} {l : Launch} {b L : Nat} {xs : Nat → Int32} (C0 : lw_At p s m meth c b L xs) {RR : Mem → Mem → Prop} {base : Nat} {cA : Nat → ClassId} {D : va_G} {sa : Nat → Nat} (hK : va_K D vwCl (tysL (base, cA, D, sa)) s) (hZC : SZ loC (base, cA, D, sa) s) (hZR : SZ loR (base + 804, cA, D, sa) s) {k1 n1 : Nat} (hk : k1 ≤ room_1.cells) (hn : n1 ≤ room_1.slots) {Q : State → Prop} {i : Nat} (hi : i + 6 ≤ L) (hL : L ≤ 3072) (hsim : ∀ (μ ν : Mem), RR μ ν → Sm RR f_X11_fault f_X12_fault [] μ ν) {μ ν : Mem} {H : Heap} {locs : List Loc} {ls : Array Slot} (hl : lv_has ls 4 [(3, .int (nI i)), (2, .ref (base + 804)), (1, .ref base), (0, .ref b)]) (hW : LWd RR base s.heap.size cA D sa μ ν H) (hS : va_S (nwA s.heap.size) s.heap H locs)
    (kk : ∀ (H : Heap) (locs : List Loc) (μ ν : Mem) (ls : Array Slot) (st : Unit), lv_has ls 4 [(3, .int (nI i)), (2, .ref (base + 804)), (1, .ref base), (0, .ref b)] → LWd RR base s.heap.size cA D sa μ ν H → va_S (nwA s.heap.size) s.heap H locs → W p l e room_1 s m #[Value.ref b] below meth c H locs k1 n1 Q (F0 m 1178 ls [])) : W p l e room_1 s m #[Value.ref b] below meth c H locs k1 n1 Q (F0 m 257 ls []) := by
  obtain ⟨hx, hb, hr, hml, hown, hts0, hX, hbl, hlocks, hgv⟩ := C0
  have hts : ∀ w ∈ gtb, w.before #[Value.ref b] s = true := fun w hw => hts0 w (List.mem_filter.mp hw).1
  obtain ⟨hPC, hPR, hmC, hmR, hrel, hs0, hz⟩ := hW
  have hnw := nwA_no (n := s.heap.size)
  obtain ⟨r, μ1, ν1, hfc, hfr, hrel1⟩ := hsim μ ν   hrel
  refine lv_aload_n hx hb dl_257 rfl (lv_at hl 2 rfl) ?_
  refine law_call (L := loC) (G := (base, cA, D, sa)) (A := nwA s.heap.size) (ci := 11) (c0 := 0) (n := 0) (idx := 30) (C := RX11) (T := TX11) (NF := 11) (y := yX11_fault) (As := []) (rest := []) (r0 := (some (vI r), μ1)) dl_258 gg_X11_fault rfl (by decide) yw_X11_fault (all5 wl_719 wl_720 wl_721 w_100 wl_722) rfl rfl ⟨by decide, by decide⟩ hx hb hml hown hts hK hZC hl.1 (fa1 okC0 (fa0)) rfl hPC hmC hS (ArC_new hs0) hnw (rfl) (Nat.le_of_ble_eq_true rfl) hk hn hfc (fun H1 locs1 hm1 hP1 hz1 hq1 hS1 => ?_)
  replace hPR := pic_keptR hPR hz hq1
  clear hPC hmC hS
  rename va_S (nwA s.heap.size) s.heap H1 locs1 => hS
  rename okM loC μ1 => hmC
  rename va_P _ _ (pic loC _ μ1) H1 => hPC
  have hz2 : base + 858 ≤ H1.size := Nat.le_trans hz hz1
  clear hz1 hq1 hz
  rename base + 858 ≤ H1.size => hz
  refine lv_aload_n hx hb dl_261 rfl (lv_at hl 1 rfl) ?_
  refine law_call (L := loR) (G := (base + 804, cA, D, sa)) (A := nwA s.heap.size) (ci := 12) (c0 := 0) (n := 0) (idx := 33) (C := RX12) (T := TX12) (NF := 83) (y := yX12_fault) (As := []) (rest := [.int (q32 r)]) (r0 := (some (vI r), ν1)) dl_262 gg_X12_fault rfl (by decide) yw_X12_fault (all5 wl_1563 wl_1564 wl_1565 w_113 wl_1566) rfl rfl ⟨by decide, by decide⟩ hx hb hml hown hts hK hZR hl.1 (fa1 okR0 (fa0)) rfl hPR hmR hS (ArR_new hs0) hnw (rfl) (Nat.le_of_ble_eq_true rfl) hk hn hfr (fun H1 locs1 hm1 hP1 hz1 hq1 hS1 => ?_)
  replace hPC := pic_keptC hPC hz hq1
  refine lv_icmp_eq (tgt := 1178) hx hb dl_265 (by decide) (fun _ => ?_) (fun q => absurd rfl q)
  exact kk _ _ μ1 ν1 _ () hl ⟨hPC, hP1, hmC, hm1, hrel1, hs0, Nat.le_trans hz hz1⟩ hS1
set_option maxHeartbeats 4000000 in
set_option maxRecDepth 100000 in
theorem law_hand {p : Program} {e : Env} {s : State} {m : MethodId} {below : List Frame} {meth : Method} {c : Code} {l : Launch} {b L : Nat} {xs : Nat → Int32} (C0 : lw_At p s m meth c b L xs) {RR : Mem → Mem → Prop} {base : Nat} {cA : Nat → ClassId} {D : va_G} {sa : Nat → Nat} (hK : va_K D vwCl (tysL (base, cA, D, sa)) s) (hZC : SZ loC (base, cA, D, sa) s) (hZR : SZ loR (base + 804, cA, D, sa) s) {k1 n1 : Nat} (hk : k1 ≤ room_1.cells) (hn : n1 ≤ room_1.slots) {Q : State → Prop} {i : Nat} (hi : i + 6 ≤ L) (hL : L ≤ 3072) (hsim : ∀ (μ ν : Mem) (x1 : Int), in32 x1 → RR μ ν → Sm RR f_X11_hand f_X12_hand [vI x1] μ ν) {μ ν : Mem} {H : Heap} {locs : List Loc} {ls : Array Slot} (hl : lv_has ls 4 [(3, .int (nI i)), (2, .ref (base + 804)), (1, .ref base), (0, .ref b)]) (hW : LWd RR base s.heap.size cA D sa μ ν H) (hS : va_S (nwA s.heap.size) s.heap H locs)
    (kk : ∀ (H : Heap) (locs : List Loc) (μ ν : Mem) (ls : Array Slot) (st : Unit), lv_has ls 4 [(3, .int (nI i)), (2, .ref (base + 804)), (1, .ref base), (0, .ref b)] → LWd RR base s.heap.size cA D sa μ ν H → va_S (nwA s.heap.size) s.heap H locs → W p l e room_1 s m #[Value.ref b] below meth c H locs k1 n1 Q (F0 m 1178 ls [])) : W p l e room_1 s m #[Value.ref b] below meth c H locs k1 n1 Q (F0 m 270 ls []) := by
  obtain ⟨hx, hb, hr, hml, hown, hts0, hX, hbl, hlocks, hgv⟩ := C0
  have hts : ∀ w ∈ gtb, w.before #[Value.ref b] s = true := fun w hw => hts0 w (List.mem_filter.mp hw).1
  obtain ⟨hPC, hPR, hmC, hmR, hrel, hs0, hz⟩ := hW
  have hnw := nwA_no (n := s.heap.size)
  obtain ⟨r, μ1, ν1, hfc, hfr, hrel1⟩ := hsim μ ν (xs (i + 1)).toInt (i32_in _) hrel
  refine lv_aload_n hx hb dl_270 rfl (lv_at hl 2 rfl) ?_
  refine lv_aload_n hx hb dl_271 rfl (lv_at hl 3 rfl) ?_
  refine lv_iload_n hx hb dl_272 rfl (lv_at hl 0 rfl) ?_
  refine lv_iconst (v := nI 1) hx hb dl_273 (by decide +kernel) ?_
  refine lv_iadd hx hb dl_274 ?_
  rw [nI_addk]
  refine va_sld hx hb hX hbl (hnw b hbl) hS (vp_in_nI (N := L) (by omega) (by omega)) dl_275 ?_
  rw [nI_clamp (show i + 1 < 2 ^ 31 by omega)]
  refine law_call (L := loC) (G := (base, cA, D, sa)) (A := nwA s.heap.size) (ci := 11) (c0 := 0) (n := 1) (idx := 34) (C := RX11) (T := TX11) (NF := 11) (y := yX11_hand) (As := [vI (xs (i + 1)).toInt]) (rest := []) (r0 := (some (vI r), μ1)) dl_276 gg_X11_hand rfl (by decide) yw_X11_hand (all5 wl_723 wl_724 wl_725 w_100 wl_726) rfl rfl ⟨by decide, by decide⟩ hx hb hml hown hts hK hZC hl.1 (fa1 okC0 (fa1 (i32_in _) (fa0))) rfl hPC hmC hS (ArC_new hs0) hnw (by simp only [List.map_cons, List.map_nil, cv, q32_of]; rfl) (Nat.le_of_ble_eq_true rfl) hk hn hfc (fun H1 locs1 hm1 hP1 hz1 hq1 hS1 => ?_)
  replace hPR := pic_keptR hPR hz hq1
  clear hPC hmC hS
  rename va_S (nwA s.heap.size) s.heap H1 locs1 => hS
  rename okM loC μ1 => hmC
  rename va_P _ _ (pic loC _ μ1) H1 => hPC
  have hz2 : base + 858 ≤ H1.size := Nat.le_trans hz hz1
  clear hz1 hq1 hz
  rename base + 858 ≤ H1.size => hz
  refine lv_aload_n hx hb dl_279 rfl (lv_at hl 1 rfl) ?_
  refine lv_aload_n hx hb dl_280 rfl (lv_at hl 3 rfl) ?_
  refine lv_iload_n hx hb dl_281 rfl (lv_at hl 0 rfl) ?_
  refine lv_iconst (v := nI 1) hx hb dl_282 (by decide +kernel) ?_
  refine lv_iadd hx hb dl_283 ?_
  rw [nI_addk]
  refine va_sld hx hb hX hbl (hnw b hbl) hS (vp_in_nI (N := L) (by omega) (by omega)) dl_284 ?_
  rw [nI_clamp (show i + 1 < 2 ^ 31 by omega)]
  refine law_call (L := loR) (G := (base + 804, cA, D, sa)) (A := nwA s.heap.size) (ci := 12) (c0 := 0) (n := 1) (idx := 37) (C := RX12) (T := TX12) (NF := 83) (y := yX12_hand) (As := [vI (xs (i + 1)).toInt]) (rest := [.int (q32 r)]) (r0 := (some (vI r), ν1)) dl_285 gg_X12_hand rfl (by decide) yw_X12_hand (all5 wl_1567 wl_1568 wl_1569 w_113 wl_1570) rfl rfl ⟨by decide, by decide⟩ hx hb hml hown hts hK hZR hl.1 (fa1 okR0 (fa1 (i32_in _) (fa0))) rfl hPR hmR hS (ArR_new hs0) hnw (by simp only [List.map_cons, List.map_nil, cv, q32_of]; rfl) (Nat.le_of_ble_eq_true rfl) hk hn hfr (fun H1 locs1 hm1 hP1 hz1 hq1 hS1 => ?_)
  replace hPC := pic_keptC hPC hz hq1
  refine lv_icmp_eq (tgt := 1178) hx hb dl_288 (by decide) (fun _ => ?_) (fun q => absurd rfl q)
  exact kk _ _ μ1 ν1 _ () hl ⟨hPC, hP1, hmC, hm1, hrel1, hs0, Nat.le_trans hz hz1⟩ hS1
set_option maxHeartbeats 4000000 in
set_option maxRecDepth 100000 in
theorem law_day {p : Program} {e : Env} {s : State} {m : MethodId} {below : List Frame} {meth : Method} {c : Code} {l : Launch} {b L : Nat} {xs : Nat → Int32} (C0 : lw_At p s m meth c b L xs) {RR : Mem → Mem → Prop} {base : Nat} {cA : Nat → ClassId} {D : va_G} {sa : Nat → Nat} (hK : va_K D vwCl (tysL (base, cA, D, sa)) s) (hZC : SZ loC (base, cA, D, sa) s) (hZR : SZ loR (base + 804, cA, D, sa) s) {k1 n1 : Nat} (hk : k1 ≤ room_1.cells) (hn : n1 ≤ room_1.slots) {Q : State → Prop} {i : Nat} (hi : i + 6 ≤ L) (hL : L ≤ 3072) (hsim : ∀ (μ ν : Mem) (x1 : Int), in32 x1 → RR μ ν → Sm RR f_X11_day f_X12_day [vI x1] μ ν) {μ ν : Mem} {H : Heap} {locs : List Loc} {ls : Array Slot} (hl : lv_has ls 4 [(3, .int (nI i)), (2, .ref (base + 804)), (1, .ref base), (0, .ref b)]) (hW : LWd RR base s.heap.size cA D sa μ ν H) (hS : va_S (nwA s.heap.size) s.heap H locs)
    (kk : ∀ (H : Heap) (locs : List Loc) (μ ν : Mem) (ls : Array Slot) (st : Unit), lv_has ls 4 [(3, .int (nI i)), (2, .ref (base + 804)), (1, .ref base), (0, .ref b)] → LWd RR base s.heap.size cA D sa μ ν H → va_S (nwA s.heap.size) s.heap H locs → W p l e room_1 s m #[Value.ref b] below meth c H locs k1 n1 Q (F0 m 1178 ls [])) : W p l e room_1 s m #[Value.ref b] below meth c H locs k1 n1 Q (F0 m 293 ls []) := by
  obtain ⟨hx, hb, hr, hml, hown, hts0, hX, hbl, hlocks, hgv⟩ := C0
  have hts : ∀ w ∈ gtb, w.before #[Value.ref b] s = true := fun w hw => hts0 w (List.mem_filter.mp hw).1
  obtain ⟨hPC, hPR, hmC, hmR, hrel, hs0, hz⟩ := hW
  have hnw := nwA_no (n := s.heap.size)
  obtain ⟨r, μ1, ν1, hfc, hfr, hrel1⟩ := hsim μ ν (xs (i + 1)).toInt (i32_in _) hrel
  refine lv_aload_n hx hb dl_293 rfl (lv_at hl 2 rfl) ?_
  refine lv_aload_n hx hb dl_294 rfl (lv_at hl 3 rfl) ?_
  refine lv_iload_n hx hb dl_295 rfl (lv_at hl 0 rfl) ?_
  refine lv_iconst (v := nI 1) hx hb dl_296 (by decide +kernel) ?_
  refine lv_iadd hx hb dl_297 ?_
  rw [nI_addk]
  refine va_sld hx hb hX hbl (hnw b hbl) hS (vp_in_nI (N := L) (by omega) (by omega)) dl_298 ?_
  rw [nI_clamp (show i + 1 < 2 ^ 31 by omega)]
  refine law_call (L := loC) (G := (base, cA, D, sa)) (A := nwA s.heap.size) (ci := 11) (c0 := 0) (n := 1) (idx := 38) (C := RX11) (T := TX11) (NF := 11) (y := yX11_day) (As := [vI (xs (i + 1)).toInt]) (rest := []) (r0 := (some (vI r), μ1)) dl_299 gg_X11_day rfl (by decide) yw_X11_day (all5 wl_727 wl_728 wl_729 w_100 wl_730) rfl rfl ⟨by decide, by decide⟩ hx hb hml hown hts hK hZC hl.1 (fa1 okC0 (fa1 (i32_in _) (fa0))) rfl hPC hmC hS (ArC_new hs0) hnw (by simp only [List.map_cons, List.map_nil, cv, q32_of]; rfl) (Nat.le_of_ble_eq_true rfl) hk hn hfc (fun H1 locs1 hm1 hP1 hz1 hq1 hS1 => ?_)
  replace hPR := pic_keptR hPR hz hq1
  clear hPC hmC hS
  rename va_S (nwA s.heap.size) s.heap H1 locs1 => hS
  rename okM loC μ1 => hmC
  rename va_P _ _ (pic loC _ μ1) H1 => hPC
  have hz2 : base + 858 ≤ H1.size := Nat.le_trans hz hz1
  clear hz1 hq1 hz
  rename base + 858 ≤ H1.size => hz
  refine lv_aload_n hx hb dl_302 rfl (lv_at hl 1 rfl) ?_
  refine lv_aload_n hx hb dl_303 rfl (lv_at hl 3 rfl) ?_
  refine lv_iload_n hx hb dl_304 rfl (lv_at hl 0 rfl) ?_
  refine lv_iconst (v := nI 1) hx hb dl_305 (by decide +kernel) ?_
  refine lv_iadd hx hb dl_306 ?_
  rw [nI_addk]
  refine va_sld hx hb hX hbl (hnw b hbl) hS (vp_in_nI (N := L) (by omega) (by omega)) dl_307 ?_
  rw [nI_clamp (show i + 1 < 2 ^ 31 by omega)]
  refine law_call (L := loR) (G := (base + 804, cA, D, sa)) (A := nwA s.heap.size) (ci := 12) (c0 := 0) (n := 1) (idx := 41) (C := RX12) (T := TX12) (NF := 83) (y := yX12_day) (As := [vI (xs (i + 1)).toInt]) (rest := [.int (q32 r)]) (r0 := (some (vI r), ν1)) dl_308 gg_X12_day rfl (by decide) yw_X12_day (all5 wl_1572 wl_1573 wl_1574 w_113 wl_1575) rfl rfl ⟨by decide, by decide⟩ hx hb hml hown hts hK hZR hl.1 (fa1 okR0 (fa1 (i32_in _) (fa0))) rfl hPR hmR hS (ArR_new hs0) hnw (by simp only [List.map_cons, List.map_nil, cv, q32_of]; rfl) (Nat.le_of_ble_eq_true rfl) hk hn hfr (fun H1 locs1 hm1 hP1 hz1 hq1 hS1 => ?_)
  replace hPC := pic_keptC hPC hz hq1
  refine lv_icmp_eq (tgt := 1178) hx hb dl_311 (by decide) (fun _ => ?_) (fun q => absurd rfl q)
  exact kk _ _ μ1 ν1 _ () hl ⟨hPC, hP1, hmC, hm1, hrel1, hs0, Nat.le_trans hz hz1⟩ hS1
set_option maxHeartbeats 4000000 in
set_option maxRecDepth 100000 in
theorem law_of {p : Program} {e : Env} {s : State} {m : MethodId} {below : List Frame} {meth : Method} {c : Code} {l : Launch} {b L : Nat} {xs : Nat → Int32} (C0 : lw_At p s m meth c b L xs) {RR : Mem → Mem → Prop} {base : Nat} {cA : Nat → ClassId} {D : va_G} {sa : Nat → Nat} (hK : va_K D vwCl (tysL (base, cA, D, sa)) s) (hZC : SZ loC (base, cA, D, sa) s) (hZR : SZ loR (base + 804, cA, D, sa) s) {k1 n1 : Nat} (hk : k1 ≤ room_1.cells) (hn : n1 ≤ room_1.slots) {Q : State → Prop} {i : Nat} (hi : i + 6 ≤ L) (hL : L ≤ 3072) (hsim : ∀ (μ ν : Mem) (x1 x2 : Int), in32 x1 → in32 x2 → RR μ ν → Sm RR f_X11_of f_X12_of [vI x1, vI x2] μ ν) {μ ν : Mem} {H : Heap} {locs : List Loc} {ls : Array Slot} (hl : lv_has ls 4 [(3, .int (nI i)), (2, .ref (base + 804)), (1, .ref base), (0, .ref b)]) (hW : LWd RR base s.heap.size cA D sa μ ν H) (hS : va_S (nwA s.heap.size) s.heap H locs)
    (kk : ∀ (H : Heap) (locs : List Loc) (μ ν : Mem) (ls : Array Slot) (st : Unit), lv_has ls 4 [(3, .int (nI i)), (2, .ref (base + 804)), (1, .ref base), (0, .ref b)] → LWd RR base s.heap.size cA D sa μ ν H → va_S (nwA s.heap.size) s.heap H locs → W p l e room_1 s m #[Value.ref b] below meth c H locs k1 n1 Q (F0 m 1178 ls [])) : W p l e room_1 s m #[Value.ref b] below meth c H locs k1 n1 Q (F0 m 316 ls []) := by
  obtain ⟨hx, hb, hr, hml, hown, hts0, hX, hbl, hlocks, hgv⟩ := C0
  have hts : ∀ w ∈ gtb, w.before #[Value.ref b] s = true := fun w hw => hts0 w (List.mem_filter.mp hw).1
  obtain ⟨hPC, hPR, hmC, hmR, hrel, hs0, hz⟩ := hW
  have hnw := nwA_no (n := s.heap.size)
  obtain ⟨r, μ1, ν1, hfc, hfr, hrel1⟩ := hsim μ ν (xs (i + 1)).toInt (xs (i + 2)).toInt (i32_in _) (i32_in _) hrel
  refine lv_aload_n hx hb dl_316 rfl (lv_at hl 2 rfl) ?_
  refine lv_aload_n hx hb dl_317 rfl (lv_at hl 3 rfl) ?_
  refine lv_iload_n hx hb dl_318 rfl (lv_at hl 0 rfl) ?_
  refine lv_iconst (v := nI 1) hx hb dl_319 (by decide +kernel) ?_
  refine lv_iadd hx hb dl_320 ?_
  rw [nI_addk]
  refine va_sld hx hb hX hbl (hnw b hbl) hS (vp_in_nI (N := L) (by omega) (by omega)) dl_321 ?_
  rw [nI_clamp (show i + 1 < 2 ^ 31 by omega)]
  refine lv_aload_n hx hb dl_322 rfl (lv_at hl 3 rfl) ?_
  refine lv_iload_n hx hb dl_323 rfl (lv_at hl 0 rfl) ?_
  refine lv_iconst (v := nI 2) hx hb dl_324 (by decide +kernel) ?_
  refine lv_iadd hx hb dl_325 ?_
  rw [nI_addk]
  refine va_sld hx hb hX hbl (hnw b hbl) hS (vp_in_nI (N := L) (by omega) (by omega)) dl_326 ?_
  rw [nI_clamp (show i + 2 < 2 ^ 31 by omega)]
  refine law_call (L := loC) (G := (base, cA, D, sa)) (A := nwA s.heap.size) (ci := 11) (c0 := 0) (n := 2) (idx := 42) (C := RX11) (T := TX11) (NF := 11) (y := yX11_of) (As := [vI (xs (i + 1)).toInt, vI (xs (i + 2)).toInt]) (rest := []) (r0 := (some (vI r), μ1)) dl_327 gg_X11_of rfl (by decide) yw_X11_of (all5 wl_731 wl_732 wl_733 w_100 wl_734) rfl rfl ⟨by decide, by decide⟩ hx hb hml hown hts hK hZC hl.1 (fa1 okC0 (fa1 (i32_in _) (fa1 (i32_in _) (fa0)))) rfl hPC hmC hS (ArC_new hs0) hnw (by simp only [List.map_cons, List.map_nil, cv, q32_of]; rfl) (Nat.le_of_ble_eq_true rfl) hk hn hfc (fun H1 locs1 hm1 hP1 hz1 hq1 hS1 => ?_)
  replace hPR := pic_keptR hPR hz hq1
  clear hPC hmC hS
  rename va_S (nwA s.heap.size) s.heap H1 locs1 => hS
  rename okM loC μ1 => hmC
  rename va_P _ _ (pic loC _ μ1) H1 => hPC
  have hz2 : base + 858 ≤ H1.size := Nat.le_trans hz hz1
  clear hz1 hq1 hz
  rename base + 858 ≤ H1.size => hz
  refine lv_aload_n hx hb dl_330 rfl (lv_at hl 1 rfl) ?_
  refine lv_aload_n hx hb dl_331 rfl (lv_at hl 3 rfl) ?_
  refine lv_iload_n hx hb dl_332 rfl (lv_at hl 0 rfl) ?_
  refine lv_iconst (v := nI 1) hx hb dl_333 (by decide +kernel) ?_
  refine lv_iadd hx hb dl_334 ?_
  rw [nI_addk]
  refine va_sld hx hb hX hbl (hnw b hbl) hS (vp_in_nI (N := L) (by omega) (by omega)) dl_335 ?_
  rw [nI_clamp (show i + 1 < 2 ^ 31 by omega)]
  refine lv_aload_n hx hb dl_336 rfl (lv_at hl 3 rfl) ?_
  refine lv_iload_n hx hb dl_337 rfl (lv_at hl 0 rfl) ?_
  refine lv_iconst (v := nI 2) hx hb dl_338 (by decide +kernel) ?_
  refine lv_iadd hx hb dl_339 ?_
  rw [nI_addk]
  refine va_sld hx hb hX hbl (hnw b hbl) hS (vp_in_nI (N := L) (by omega) (by omega)) dl_340 ?_
  rw [nI_clamp (show i + 2 < 2 ^ 31 by omega)]
  refine law_call (L := loR) (G := (base + 804, cA, D, sa)) (A := nwA s.heap.size) (ci := 12) (c0 := 0) (n := 2) (idx := 46) (C := RX12) (T := TX12) (NF := 83) (y := yX12_of) (As := [vI (xs (i + 1)).toInt, vI (xs (i + 2)).toInt]) (rest := [.int (q32 r)]) (r0 := (some (vI r), ν1)) dl_341 gg_X12_of rfl (by decide) yw_X12_of (all5 wl_1577 wl_1578 wl_1579 w_113 wl_1580) rfl rfl ⟨by decide, by decide⟩ hx hb hml hown hts hK hZR hl.1 (fa1 okR0 (fa1 (i32_in _) (fa1 (i32_in _) (fa0)))) rfl hPR hmR hS (ArR_new hs0) hnw (by simp only [List.map_cons, List.map_nil, cv, q32_of]; rfl) (Nat.le_of_ble_eq_true rfl) hk hn hfr (fun H1 locs1 hm1 hP1 hz1 hq1 hS1 => ?_)
  replace hPC := pic_keptC hPC hz hq1
  refine lv_icmp_eq (tgt := 1178) hx hb dl_344 (by decide) (fun _ => ?_) (fun q => absurd rfl q)
  exact kk _ _ μ1 ν1 _ () hl ⟨hPC, hP1, hmC, hm1, hrel1, hs0, Nat.le_trans hz hz1⟩ hS1
set_option maxHeartbeats 4000000 in
set_option maxRecDepth 100000 in
theorem law_sign {p : Program} {e : Env} {s : State} {m : MethodId} {below : List Frame} {meth : Method} {c : Code} {l : Launch} {b L : Nat} {xs : Nat → Int32} (C0 : lw_At p s m meth c b L xs) {RR : Mem → Mem → Prop} {base : Nat} {cA : Nat → ClassId} {D : va_G} {sa : Nat → Nat} (hK : va_K D vwCl (tysL (base, cA, D, sa)) s) (hZC : SZ loC (base, cA, D, sa) s) (hZR : SZ loR (base + 804, cA, D, sa) s) {k1 n1 : Nat} (hk : k1 ≤ room_1.cells) (hn : n1 ≤ room_1.slots) {Q : State → Prop} {i : Nat} (hi : i + 6 ≤ L) (hL : L ≤ 3072) (hsim : ∀ (μ ν : Mem) (x1 x2 x3 : Int), in32 x1 → in32 x2 → in32 x3 → RR μ ν → Sm RR f_X11_sign f_X12_sign [vI x1, vI x2, vI x3] μ ν) {μ ν : Mem} {H : Heap} {locs : List Loc} {ls : Array Slot} (hl : lv_has ls 4 [(3, .int (nI i)), (2, .ref (base + 804)), (1, .ref base), (0, .ref b)]) (hW : LWd RR base s.heap.size cA D sa μ ν H) (hS : va_S (nwA s.heap.size) s.heap H locs)
    (kk : ∀ (H : Heap) (locs : List Loc) (μ ν : Mem) (ls : Array Slot) (st : Unit), lv_has ls 4 [(3, .int (nI i)), (2, .ref (base + 804)), (1, .ref base), (0, .ref b)] → LWd RR base s.heap.size cA D sa μ ν H → va_S (nwA s.heap.size) s.heap H locs → W p l e room_1 s m #[Value.ref b] below meth c H locs k1 n1 Q (F0 m 1178 ls [])) : W p l e room_1 s m #[Value.ref b] below meth c H locs k1 n1 Q (F0 m 349 ls []) := by
  obtain ⟨hx, hb, hr, hml, hown, hts0, hX, hbl, hlocks, hgv⟩ := C0
  have hts : ∀ w ∈ gtb, w.before #[Value.ref b] s = true := fun w hw => hts0 w (List.mem_filter.mp hw).1
  obtain ⟨hPC, hPR, hmC, hmR, hrel, hs0, hz⟩ := hW
  have hnw := nwA_no (n := s.heap.size)
  obtain ⟨r, μ1, ν1, hfc, hfr, hrel1⟩ := hsim μ ν (xs (i + 1)).toInt (xs (i + 2)).toInt (xs (i + 3)).toInt (i32_in _) (i32_in _) (i32_in _) hrel
  refine lv_aload_n hx hb dl_349 rfl (lv_at hl 2 rfl) ?_
  refine lv_aload_n hx hb dl_350 rfl (lv_at hl 3 rfl) ?_
  refine lv_iload_n hx hb dl_351 rfl (lv_at hl 0 rfl) ?_
  refine lv_iconst (v := nI 1) hx hb dl_352 (by decide +kernel) ?_
  refine lv_iadd hx hb dl_353 ?_
  rw [nI_addk]
  refine va_sld hx hb hX hbl (hnw b hbl) hS (vp_in_nI (N := L) (by omega) (by omega)) dl_354 ?_
  rw [nI_clamp (show i + 1 < 2 ^ 31 by omega)]
  refine lv_aload_n hx hb dl_355 rfl (lv_at hl 3 rfl) ?_
  refine lv_iload_n hx hb dl_356 rfl (lv_at hl 0 rfl) ?_
  refine lv_iconst (v := nI 2) hx hb dl_357 (by decide +kernel) ?_
  refine lv_iadd hx hb dl_358 ?_
  rw [nI_addk]
  refine va_sld hx hb hX hbl (hnw b hbl) hS (vp_in_nI (N := L) (by omega) (by omega)) dl_359 ?_
  rw [nI_clamp (show i + 2 < 2 ^ 31 by omega)]
  refine lv_aload_n hx hb dl_360 rfl (lv_at hl 3 rfl) ?_
  refine lv_iload_n hx hb dl_361 rfl (lv_at hl 0 rfl) ?_
  refine lv_iconst (v := nI 3) hx hb dl_362 (by decide +kernel) ?_
  refine lv_iadd hx hb dl_363 ?_
  rw [nI_addk]
  refine va_sld hx hb hX hbl (hnw b hbl) hS (vp_in_nI (N := L) (by omega) (by omega)) dl_364 ?_
  rw [nI_clamp (show i + 3 < 2 ^ 31 by omega)]
  refine law_call (L := loC) (G := (base, cA, D, sa)) (A := nwA s.heap.size) (ci := 11) (c0 := 0) (n := 3) (idx := 47) (C := RX11) (T := TX11) (NF := 11) (y := yX11_sign) (As := [vI (xs (i + 1)).toInt, vI (xs (i + 2)).toInt, vI (xs (i + 3)).toInt]) (rest := []) (r0 := (some (vI r), μ1)) dl_365 gg_X11_sign rfl (by decide) yw_X11_sign (all5 wl_755 wl_756 wl_757 w_100 wl_758) rfl rfl ⟨by decide, by decide⟩ hx hb hml hown hts hK hZC hl.1 (fa1 okC0 (fa1 (i32_in _) (fa1 (i32_in _) (fa1 (i32_in _) (fa0))))) rfl hPC hmC hS (ArC_new hs0) hnw (by simp only [List.map_cons, List.map_nil, cv, q32_of]; rfl) (Nat.le_of_ble_eq_true rfl) hk hn hfc (fun H1 locs1 hm1 hP1 hz1 hq1 hS1 => ?_)
  replace hPR := pic_keptR hPR hz hq1
  clear hPC hmC hS
  rename va_S (nwA s.heap.size) s.heap H1 locs1 => hS
  rename okM loC μ1 => hmC
  rename va_P _ _ (pic loC _ μ1) H1 => hPC
  have hz2 : base + 858 ≤ H1.size := Nat.le_trans hz hz1
  clear hz1 hq1 hz
  rename base + 858 ≤ H1.size => hz
  refine lv_aload_n hx hb dl_368 rfl (lv_at hl 1 rfl) ?_
  refine lv_aload_n hx hb dl_369 rfl (lv_at hl 3 rfl) ?_
  refine lv_iload_n hx hb dl_370 rfl (lv_at hl 0 rfl) ?_
  refine lv_iconst (v := nI 1) hx hb dl_371 (by decide +kernel) ?_
  refine lv_iadd hx hb dl_372 ?_
  rw [nI_addk]
  refine va_sld hx hb hX hbl (hnw b hbl) hS (vp_in_nI (N := L) (by omega) (by omega)) dl_373 ?_
  rw [nI_clamp (show i + 1 < 2 ^ 31 by omega)]
  refine lv_aload_n hx hb dl_374 rfl (lv_at hl 3 rfl) ?_
  refine lv_iload_n hx hb dl_375 rfl (lv_at hl 0 rfl) ?_
  refine lv_iconst (v := nI 2) hx hb dl_376 (by decide +kernel) ?_
  refine lv_iadd hx hb dl_377 ?_
  rw [nI_addk]
  refine va_sld hx hb hX hbl (hnw b hbl) hS (vp_in_nI (N := L) (by omega) (by omega)) dl_378 ?_
  rw [nI_clamp (show i + 2 < 2 ^ 31 by omega)]
  refine lv_aload_n hx hb dl_379 rfl (lv_at hl 3 rfl) ?_
  refine lv_iload_n hx hb dl_380 rfl (lv_at hl 0 rfl) ?_
  refine lv_iconst (v := nI 3) hx hb dl_381 (by decide +kernel) ?_
  refine lv_iadd hx hb dl_382 ?_
  rw [nI_addk]
  refine va_sld hx hb hX hbl (hnw b hbl) hS (vp_in_nI (N := L) (by omega) (by omega)) dl_383 ?_
  rw [nI_clamp (show i + 3 < 2 ^ 31 by omega)]
  refine law_call (L := loR) (G := (base + 804, cA, D, sa)) (A := nwA s.heap.size) (ci := 12) (c0 := 0) (n := 3) (idx := 51) (C := RX12) (T := TX12) (NF := 83) (y := yX12_sign) (As := [vI (xs (i + 1)).toInt, vI (xs (i + 2)).toInt, vI (xs (i + 3)).toInt]) (rest := [.int (q32 r)]) (r0 := (some (vI r), ν1)) dl_384 gg_X12_sign rfl (by decide) yw_X12_sign (all5 wl_1601 wl_1602 wl_1603 w_113 wl_1604) rfl rfl ⟨by decide, by decide⟩ hx hb hml hown hts hK hZR hl.1 (fa1 okR0 (fa1 (i32_in _) (fa1 (i32_in _) (fa1 (i32_in _) (fa0))))) rfl hPR hmR hS (ArR_new hs0) hnw (by simp only [List.map_cons, List.map_nil, cv, q32_of]; rfl) (Nat.le_of_ble_eq_true rfl) hk hn hfr (fun H1 locs1 hm1 hP1 hz1 hq1 hS1 => ?_)
  replace hPC := pic_keptC hPC hz hq1
  refine lv_icmp_eq (tgt := 1178) hx hb dl_387 (by decide) (fun _ => ?_) (fun q => absurd rfl q)
  exact kk _ _ μ1 ν1 _ () hl ⟨hPC, hP1, hmC, hm1, hrel1, hs0, Nat.le_trans hz hz1⟩ hS1
set_option maxHeartbeats 4000000 in
set_option maxRecDepth 100000 in
theorem law_word {p : Program} {e : Env} {s : State} {m : MethodId} {below : List Frame} {meth : Method} {c : Code} {l : Launch} {b L : Nat} {xs : Nat → Int32} (C0 : lw_At p s m meth c b L xs) {RR : Mem → Mem → Prop} {base : Nat} {cA : Nat → ClassId} {D : va_G} {sa : Nat → Nat} (hK : va_K D vwCl (tysL (base, cA, D, sa)) s) (hZC : SZ loC (base, cA, D, sa) s) (hZR : SZ loR (base + 804, cA, D, sa) s) {k1 n1 : Nat} (hk : k1 ≤ room_1.cells) (hn : n1 ≤ room_1.slots) {Q : State → Prop} {i : Nat} (hi : i + 6 ≤ L) (hL : L ≤ 3072) (hsim : ∀ (μ ν : Mem) (x1 x2 : Int), in32 x1 → in32 x2 → RR μ ν → Sm RR f_X11_word f_X12_word [vI x1, vI x2] μ ν) {μ ν : Mem} {H : Heap} {locs : List Loc} {ls : Array Slot} (hl : lv_has ls 4 [(3, .int (nI i)), (2, .ref (base + 804)), (1, .ref base), (0, .ref b)]) (hW : LWd RR base s.heap.size cA D sa μ ν H) (hS : va_S (nwA s.heap.size) s.heap H locs)
    (kk : ∀ (H : Heap) (locs : List Loc) (μ ν : Mem) (ls : Array Slot) (st : Unit), lv_has ls 4 [(3, .int (nI i)), (2, .ref (base + 804)), (1, .ref base), (0, .ref b)] → LWd RR base s.heap.size cA D sa μ ν H → va_S (nwA s.heap.size) s.heap H locs → W p l e room_1 s m #[Value.ref b] below meth c H locs k1 n1 Q (F0 m 1178 ls [])) : W p l e room_1 s m #[Value.ref b] below meth c H locs k1 n1 Q (F0 m 392 ls []) := by
  obtain ⟨hx, hb, hr, hml, hown, hts0, hX, hbl, hlocks, hgv⟩ := C0
  have hts : ∀ w ∈ gtb, w.before #[Value.ref b] s = true := fun w hw => hts0 w (List.mem_filter.mp hw).1
  obtain ⟨hPC, hPR, hmC, hmR, hrel, hs0, hz⟩ := hW
  have hnw := nwA_no (n := s.heap.size)
  obtain ⟨r, μ1, ν1, hfc, hfr, hrel1⟩ := hsim μ ν (xs (i + 1)).toInt (xs (i + 2)).toInt (i32_in _) (i32_in _) hrel
  refine lv_aload_n hx hb dl_392 rfl (lv_at hl 2 rfl) ?_
  refine lv_aload_n hx hb dl_393 rfl (lv_at hl 3 rfl) ?_
  refine lv_iload_n hx hb dl_394 rfl (lv_at hl 0 rfl) ?_
  refine lv_iconst (v := nI 1) hx hb dl_395 (by decide +kernel) ?_
  refine lv_iadd hx hb dl_396 ?_
  rw [nI_addk]
  refine va_sld hx hb hX hbl (hnw b hbl) hS (vp_in_nI (N := L) (by omega) (by omega)) dl_397 ?_
  rw [nI_clamp (show i + 1 < 2 ^ 31 by omega)]
  refine lv_aload_n hx hb dl_398 rfl (lv_at hl 3 rfl) ?_
  refine lv_iload_n hx hb dl_399 rfl (lv_at hl 0 rfl) ?_
  refine lv_iconst (v := nI 2) hx hb dl_400 (by decide +kernel) ?_
  refine lv_iadd hx hb dl_401 ?_
  rw [nI_addk]
  refine va_sld hx hb hX hbl (hnw b hbl) hS (vp_in_nI (N := L) (by omega) (by omega)) dl_402 ?_
  rw [nI_clamp (show i + 2 < 2 ^ 31 by omega)]
  refine law_call (L := loC) (G := (base, cA, D, sa)) (A := nwA s.heap.size) (ci := 11) (c0 := 0) (n := 2) (idx := 52) (C := RX11) (T := TX11) (NF := 11) (y := yX11_word) (As := [vI (xs (i + 1)).toInt, vI (xs (i + 2)).toInt]) (rest := []) (r0 := (some (vI r), μ1)) dl_403 gg_X11_word rfl (by decide) yw_X11_word (all5 wl_760 wl_761 wl_762 w_100 wl_763) rfl rfl ⟨by decide, by decide⟩ hx hb hml hown hts hK hZC hl.1 (fa1 okC0 (fa1 (i32_in _) (fa1 (i32_in _) (fa0)))) rfl hPC hmC hS (ArC_new hs0) hnw (by simp only [List.map_cons, List.map_nil, cv, q32_of]; rfl) (Nat.le_of_ble_eq_true rfl) hk hn hfc (fun H1 locs1 hm1 hP1 hz1 hq1 hS1 => ?_)
  replace hPR := pic_keptR hPR hz hq1
  clear hPC hmC hS
  rename va_S (nwA s.heap.size) s.heap H1 locs1 => hS
  rename okM loC μ1 => hmC
  rename va_P _ _ (pic loC _ μ1) H1 => hPC
  have hz2 : base + 858 ≤ H1.size := Nat.le_trans hz hz1
  clear hz1 hq1 hz
  rename base + 858 ≤ H1.size => hz
  refine lv_aload_n hx hb dl_406 rfl (lv_at hl 1 rfl) ?_
  refine lv_aload_n hx hb dl_407 rfl (lv_at hl 3 rfl) ?_
  refine lv_iload_n hx hb dl_408 rfl (lv_at hl 0 rfl) ?_
  refine lv_iconst (v := nI 1) hx hb dl_409 (by decide +kernel) ?_
  refine lv_iadd hx hb dl_410 ?_
  rw [nI_addk]
  refine va_sld hx hb hX hbl (hnw b hbl) hS (vp_in_nI (N := L) (by omega) (by omega)) dl_411 ?_
  rw [nI_clamp (show i + 1 < 2 ^ 31 by omega)]
  refine lv_aload_n hx hb dl_412 rfl (lv_at hl 3 rfl) ?_
  refine lv_iload_n hx hb dl_413 rfl (lv_at hl 0 rfl) ?_
  refine lv_iconst (v := nI 2) hx hb dl_414 (by decide +kernel) ?_
  refine lv_iadd hx hb dl_415 ?_
  rw [nI_addk]
  refine va_sld hx hb hX hbl (hnw b hbl) hS (vp_in_nI (N := L) (by omega) (by omega)) dl_416 ?_
  rw [nI_clamp (show i + 2 < 2 ^ 31 by omega)]
  refine law_call (L := loR) (G := (base + 804, cA, D, sa)) (A := nwA s.heap.size) (ci := 12) (c0 := 0) (n := 2) (idx := 55) (C := RX12) (T := TX12) (NF := 83) (y := yX12_word) (As := [vI (xs (i + 1)).toInt, vI (xs (i + 2)).toInt]) (rest := [.int (q32 r)]) (r0 := (some (vI r), ν1)) dl_417 gg_X12_word rfl (by decide) yw_X12_word (all5 wl_1605 wl_1606 wl_1607 w_113 wl_1608) rfl rfl ⟨by decide, by decide⟩ hx hb hml hown hts hK hZR hl.1 (fa1 okR0 (fa1 (i32_in _) (fa1 (i32_in _) (fa0)))) rfl hPR hmR hS (ArR_new hs0) hnw (by simp only [List.map_cons, List.map_nil, cv, q32_of]; rfl) (Nat.le_of_ble_eq_true rfl) hk hn hfr (fun H1 locs1 hm1 hP1 hz1 hq1 hS1 => ?_)
  replace hPC := pic_keptC hPC hz hq1
  refine lv_icmp_eq (tgt := 1178) hx hb dl_420 (by decide) (fun _ => ?_) (fun q => absurd rfl q)
  exact kk _ _ μ1 ν1 _ () hl ⟨hPC, hP1, hmC, hm1, hrel1, hs0, Nat.le_trans hz hz1⟩ hS1
set_option maxHeartbeats 4000000 in
set_option maxRecDepth 100000 in
theorem law_as {p : Program} {e : Env} {s : State} {m : MethodId} {below : List Frame} {meth : Method} {c : Code} {l : Launch} {b L : Nat} {xs : Nat → Int32} (C0 : lw_At p s m meth c b L xs) {RR : Mem → Mem → Prop} {base : Nat} {cA : Nat → ClassId} {D : va_G} {sa : Nat → Nat} (hK : va_K D vwCl (tysL (base, cA, D, sa)) s) (hZC : SZ loC (base, cA, D, sa) s) (hZR : SZ loR (base + 804, cA, D, sa) s) {k1 n1 : Nat} (hk : k1 ≤ room_1.cells) (hn : n1 ≤ room_1.slots) {Q : State → Prop} {i : Nat} (hi : i + 6 ≤ L) (hL : L ≤ 3072) (hsim : ∀ (μ ν : Mem) (x1 x2 : Int), in32 x1 → in32 x2 → RR μ ν → Sm RR f_X11_as f_X12_as [vI x1, vI x2] μ ν) {μ ν : Mem} {H : Heap} {locs : List Loc} {ls : Array Slot} (hl : lv_has ls 4 [(3, .int (nI i)), (2, .ref (base + 804)), (1, .ref base), (0, .ref b)]) (hW : LWd RR base s.heap.size cA D sa μ ν H) (hS : va_S (nwA s.heap.size) s.heap H locs)
    (kk : ∀ (H : Heap) (locs : List Loc) (μ ν : Mem) (ls : Array Slot) (st : Unit), lv_has ls 4 [(3, .int (nI i)), (2, .ref (base + 804)), (1, .ref base), (0, .ref b)] → LWd RR base s.heap.size cA D sa μ ν H → va_S (nwA s.heap.size) s.heap H locs → W p l e room_1 s m #[Value.ref b] below meth c H locs k1 n1 Q (F0 m 1178 ls [])) : W p l e room_1 s m #[Value.ref b] below meth c H locs k1 n1 Q (F0 m 425 ls []) := by
  obtain ⟨hx, hb, hr, hml, hown, hts0, hX, hbl, hlocks, hgv⟩ := C0
  have hts : ∀ w ∈ gtb, w.before #[Value.ref b] s = true := fun w hw => hts0 w (List.mem_filter.mp hw).1
  obtain ⟨hPC, hPR, hmC, hmR, hrel, hs0, hz⟩ := hW
  have hnw := nwA_no (n := s.heap.size)
  obtain ⟨r, μ1, ν1, hfc, hfr, hrel1⟩ := hsim μ ν (xs (i + 1)).toInt (xs (i + 2)).toInt (i32_in _) (i32_in _) hrel
  refine lv_aload_n hx hb dl_425 rfl (lv_at hl 2 rfl) ?_
  refine lv_aload_n hx hb dl_426 rfl (lv_at hl 3 rfl) ?_
  refine lv_iload_n hx hb dl_427 rfl (lv_at hl 0 rfl) ?_
  refine lv_iconst (v := nI 1) hx hb dl_428 (by decide +kernel) ?_
  refine lv_iadd hx hb dl_429 ?_
  rw [nI_addk]
  refine va_sld hx hb hX hbl (hnw b hbl) hS (vp_in_nI (N := L) (by omega) (by omega)) dl_430 ?_
  rw [nI_clamp (show i + 1 < 2 ^ 31 by omega)]
  refine lv_aload_n hx hb dl_431 rfl (lv_at hl 3 rfl) ?_
  refine lv_iload_n hx hb dl_432 rfl (lv_at hl 0 rfl) ?_
  refine lv_iconst (v := nI 2) hx hb dl_433 (by decide +kernel) ?_
  refine lv_iadd hx hb dl_434 ?_
  rw [nI_addk]
  refine va_sld hx hb hX hbl (hnw b hbl) hS (vp_in_nI (N := L) (by omega) (by omega)) dl_435 ?_
  rw [nI_clamp (show i + 2 < 2 ^ 31 by omega)]
  refine law_call (L := loC) (G := (base, cA, D, sa)) (A := nwA s.heap.size) (ci := 11) (c0 := 0) (n := 2) (idx := 56) (C := RX11) (T := TX11) (NF := 11) (y := yX11_as) (As := [vI (xs (i + 1)).toInt, vI (xs (i + 2)).toInt]) (rest := []) (r0 := (some (vI r), μ1)) dl_436 gg_X11_as rfl (by decide) yw_X11_as (all5 wl_784 wl_785 wl_786 w_100 wl_787) rfl rfl ⟨by decide, by decide⟩ hx hb hml hown hts hK hZC hl.1 (fa1 okC0 (fa1 (i32_in _) (fa1 (i32_in _) (fa0)))) rfl hPC hmC hS (ArC_new hs0) hnw (by simp only [List.map_cons, List.map_nil, cv, q32_of]; rfl) (Nat.le_of_ble_eq_true rfl) hk hn hfc (fun H1 locs1 hm1 hP1 hz1 hq1 hS1 => ?_)
  replace hPR := pic_keptR hPR hz hq1
  clear hPC hmC hS
  rename va_S (nwA s.heap.size) s.heap H1 locs1 => hS
  rename okM loC μ1 => hmC
  rename va_P _ _ (pic loC _ μ1) H1 => hPC
  have hz2 : base + 858 ≤ H1.size := Nat.le_trans hz hz1
  clear hz1 hq1 hz
  rename base + 858 ≤ H1.size => hz
  refine lv_aload_n hx hb dl_439 rfl (lv_at hl 1 rfl) ?_
  refine lv_aload_n hx hb dl_440 rfl (lv_at hl 3 rfl) ?_
  refine lv_iload_n hx hb dl_441 rfl (lv_at hl 0 rfl) ?_
  refine lv_iconst (v := nI 1) hx hb dl_442 (by decide +kernel) ?_
  refine lv_iadd hx hb dl_443 ?_
  rw [nI_addk]
  refine va_sld hx hb hX hbl (hnw b hbl) hS (vp_in_nI (N := L) (by omega) (by omega)) dl_444 ?_
  rw [nI_clamp (show i + 1 < 2 ^ 31 by omega)]
  refine lv_aload_n hx hb dl_445 rfl (lv_at hl 3 rfl) ?_
  refine lv_iload_n hx hb dl_446 rfl (lv_at hl 0 rfl) ?_
  refine lv_iconst (v := nI 2) hx hb dl_447 (by decide +kernel) ?_
  refine lv_iadd hx hb dl_448 ?_
  rw [nI_addk]
  refine va_sld hx hb hX hbl (hnw b hbl) hS (vp_in_nI (N := L) (by omega) (by omega)) dl_449 ?_
  rw [nI_clamp (show i + 2 < 2 ^ 31 by omega)]
  refine law_call (L := loR) (G := (base + 804, cA, D, sa)) (A := nwA s.heap.size) (ci := 12) (c0 := 0) (n := 2) (idx := 59) (C := RX12) (T := TX12) (NF := 83) (y := yX12_as) (As := [vI (xs (i + 1)).toInt, vI (xs (i + 2)).toInt]) (rest := [.int (q32 r)]) (r0 := (some (vI r), ν1)) dl_450 gg_X12_as rfl (by decide) yw_X12_as (all5 wl_1654 wl_1655 wl_1656 w_113 wl_1657) rfl rfl ⟨by decide, by decide⟩ hx hb hml hown hts hK hZR hl.1 (fa1 okR0 (fa1 (i32_in _) (fa1 (i32_in _) (fa0)))) rfl hPR hmR hS (ArR_new hs0) hnw (by simp only [List.map_cons, List.map_nil, cv, q32_of]; rfl) (Nat.le_of_ble_eq_true rfl) hk hn hfr (fun H1 locs1 hm1 hP1 hz1 hq1 hS1 => ?_)
  replace hPC := pic_keptC hPC hz hq1
  refine lv_icmp_eq (tgt := 1178) hx hb dl_453 (by decide) (fun _ => ?_) (fun q => absurd rfl q)
  exact kk _ _ μ1 ν1 _ () hl ⟨hPC, hP1, hmC, hm1, hrel1, hs0, Nat.le_trans hz hz1⟩ hS1
set_option maxHeartbeats 4000000 in
set_option maxRecDepth 100000 in
theorem law_prove {p : Program} {e : Env} {s : State} {m : MethodId} {below : List Frame} {meth : Method} {c : Code} {l : Launch} {b L : Nat} {xs : Nat → Int32} (C0 : lw_At p s m meth c b L xs) {RR : Mem → Mem → Prop} {base : Nat} {cA : Nat → ClassId} {D : va_G} {sa : Nat → Nat} (hK : va_K D vwCl (tysL (base, cA, D, sa)) s) (hZC : SZ loC (base, cA, D, sa) s) (hZR : SZ loR (base + 804, cA, D, sa) s) {k1 n1 : Nat} (hk : k1 ≤ room_1.cells) (hn : n1 ≤ room_1.slots) {Q : State → Prop} {i : Nat} (hi : i + 6 ≤ L) (hL : L ≤ 3072) (hsim : ∀ (μ ν : Mem) (x1 : Int), in32 x1 → RR μ ν → Sm RR f_X11_prove f_X12_prove [vI x1] μ ν) {μ ν : Mem} {H : Heap} {locs : List Loc} {ls : Array Slot} (hl : lv_has ls 4 [(3, .int (nI i)), (2, .ref (base + 804)), (1, .ref base), (0, .ref b)]) (hW : LWd RR base s.heap.size cA D sa μ ν H) (hS : va_S (nwA s.heap.size) s.heap H locs)
    (kk : ∀ (H : Heap) (locs : List Loc) (μ ν : Mem) (ls : Array Slot) (st : Unit), lv_has ls 4 [(3, .int (nI i)), (2, .ref (base + 804)), (1, .ref base), (0, .ref b)] → LWd RR base s.heap.size cA D sa μ ν H → va_S (nwA s.heap.size) s.heap H locs → W p l e room_1 s m #[Value.ref b] below meth c H locs k1 n1 Q (F0 m 1178 ls [])) : W p l e room_1 s m #[Value.ref b] below meth c H locs k1 n1 Q (F0 m 458 ls []) := by
  obtain ⟨hx, hb, hr, hml, hown, hts0, hX, hbl, hlocks, hgv⟩ := C0
  have hts : ∀ w ∈ gtb, w.before #[Value.ref b] s = true := fun w hw => hts0 w (List.mem_filter.mp hw).1
  obtain ⟨hPC, hPR, hmC, hmR, hrel, hs0, hz⟩ := hW
  have hnw := nwA_no (n := s.heap.size)
  obtain ⟨r, μ1, ν1, hfc, hfr, hrel1⟩ := hsim μ ν (xs (i + 1)).toInt (i32_in _) hrel
  refine lv_aload_n hx hb dl_458 rfl (lv_at hl 2 rfl) ?_
  refine lv_aload_n hx hb dl_459 rfl (lv_at hl 3 rfl) ?_
  refine lv_iload_n hx hb dl_460 rfl (lv_at hl 0 rfl) ?_
  refine lv_iconst (v := nI 1) hx hb dl_461 (by decide +kernel) ?_
  refine lv_iadd hx hb dl_462 ?_
  rw [nI_addk]
  refine va_sld hx hb hX hbl (hnw b hbl) hS (vp_in_nI (N := L) (by omega) (by omega)) dl_463 ?_
  rw [nI_clamp (show i + 1 < 2 ^ 31 by omega)]
  refine law_call (L := loC) (G := (base, cA, D, sa)) (A := nwA s.heap.size) (ci := 11) (c0 := 0) (n := 1) (idx := 60) (C := RX11) (T := TX11) (NF := 11) (y := yX11_prove) (As := [vI (xs (i + 1)).toInt]) (rest := []) (r0 := (some (vI r), μ1)) dl_464 gg_X11_prove rfl (by decide) yw_X11_prove (all5 wl_792 wl_793 wl_794 w_100 wl_795) rfl rfl ⟨by decide, by decide⟩ hx hb hml hown hts hK hZC hl.1 (fa1 okC0 (fa1 (i32_in _) (fa0))) rfl hPC hmC hS (ArC_new hs0) hnw (by simp only [List.map_cons, List.map_nil, cv, q32_of]; rfl) (Nat.le_of_ble_eq_true rfl) hk hn hfc (fun H1 locs1 hm1 hP1 hz1 hq1 hS1 => ?_)
  replace hPR := pic_keptR hPR hz hq1
  clear hPC hmC hS
  rename va_S (nwA s.heap.size) s.heap H1 locs1 => hS
  rename okM loC μ1 => hmC
  rename va_P _ _ (pic loC _ μ1) H1 => hPC
  have hz2 : base + 858 ≤ H1.size := Nat.le_trans hz hz1
  clear hz1 hq1 hz
  rename base + 858 ≤ H1.size => hz
  refine lv_aload_n hx hb dl_467 rfl (lv_at hl 1 rfl) ?_
  refine lv_aload_n hx hb dl_468 rfl (lv_at hl 3 rfl) ?_
  refine lv_iload_n hx hb dl_469 rfl (lv_at hl 0 rfl) ?_
  refine lv_iconst (v := nI 1) hx hb dl_470 (by decide +kernel) ?_
  refine lv_iadd hx hb dl_471 ?_
  rw [nI_addk]
  refine va_sld hx hb hX hbl (hnw b hbl) hS (vp_in_nI (N := L) (by omega) (by omega)) dl_472 ?_
  rw [nI_clamp (show i + 1 < 2 ^ 31 by omega)]
  refine law_call (L := loR) (G := (base + 804, cA, D, sa)) (A := nwA s.heap.size) (ci := 12) (c0 := 0) (n := 1) (idx := 63) (C := RX12) (T := TX12) (NF := 83) (y := yX12_prove) (As := [vI (xs (i + 1)).toInt]) (rest := [.int (q32 r)]) (r0 := (some (vI r), ν1)) dl_473 gg_X12_prove rfl (by decide) yw_X12_prove (all5 wl_1662 wl_1663 wl_1664 w_113 wl_1665) rfl rfl ⟨by decide, by decide⟩ hx hb hml hown hts hK hZR hl.1 (fa1 okR0 (fa1 (i32_in _) (fa0))) rfl hPR hmR hS (ArR_new hs0) hnw (by simp only [List.map_cons, List.map_nil, cv, q32_of]; rfl) (Nat.le_of_ble_eq_true rfl) hk hn hfr (fun H1 locs1 hm1 hP1 hz1 hq1 hS1 => ?_)
  replace hPC := pic_keptC hPC hz hq1
  refine lv_icmp_eq (tgt := 1178) hx hb dl_476 (by decide) (fun _ => ?_) (fun q => absurd rfl q)
  exact kk _ _ μ1 ν1 _ () hl ⟨hPC, hP1, hmC, hm1, hrel1, hs0, Nat.le_trans hz hz1⟩ hS1
set_option maxHeartbeats 4000000 in
set_option maxRecDepth 100000 in
theorem law_step {p : Program} {e : Env} {s : State} {m : MethodId} {below : List Frame} {meth : Method} {c : Code} {l : Launch} {b L : Nat} {xs : Nat → Int32} (C0 : lw_At p s m meth c b L xs) {RR : Mem → Mem → Prop} {base : Nat} {cA : Nat → ClassId} {D : va_G} {sa : Nat → Nat} (hK : va_K D vwCl (tysL (base, cA, D, sa)) s) (hZC : SZ loC (base, cA, D, sa) s) (hZR : SZ loR (base + 804, cA, D, sa) s) {k1 n1 : Nat} (hk : k1 ≤ room_1.cells) (hn : n1 ≤ room_1.slots) {Q : State → Prop} {i : Nat} (hi : i + 6 ≤ L) (hL : L ≤ 3072) (hsim : ∀ (μ ν : Mem) (x1 x2 x3 : Int), in32 x1 → in32 x2 → in32 x3 → RR μ ν → Sm RR f_X11_step f_X12_step [vI x1, vI x2, vI x3] μ ν) {μ ν : Mem} {H : Heap} {locs : List Loc} {ls : Array Slot} (hl : lv_has ls 4 [(3, .int (nI i)), (2, .ref (base + 804)), (1, .ref base), (0, .ref b)]) (hW : LWd RR base s.heap.size cA D sa μ ν H) (hS : va_S (nwA s.heap.size) s.heap H locs)
    (kk : ∀ (H : Heap) (locs : List Loc) (μ ν : Mem) (ls : Array Slot) (st : Unit), lv_has ls 4 [(3, .int (nI i)), (2, .ref (base + 804)), (1, .ref base), (0, .ref b)] → LWd RR base s.heap.size cA D sa μ ν H → va_S (nwA s.heap.size) s.heap H locs → W p l e room_1 s m #[Value.ref b] below meth c H locs k1 n1 Q (F0 m 1178 ls [])) : W p l e room_1 s m #[Value.ref b] below meth c H locs k1 n1 Q (F0 m 481 ls []) := by
  obtain ⟨hx, hb, hr, hml, hown, hts0, hX, hbl, hlocks, hgv⟩ := C0
  have hts : ∀ w ∈ gtb, w.before #[Value.ref b] s = true := fun w hw => hts0 w (List.mem_filter.mp hw).1
  obtain ⟨hPC, hPR, hmC, hmR, hrel, hs0, hz⟩ := hW
  have hnw := nwA_no (n := s.heap.size)
  obtain ⟨r, μ1, ν1, hfc, hfr, hrel1⟩ := hsim μ ν (xs (i + 1)).toInt (xs (i + 2)).toInt (xs (i + 3)).toInt (i32_in _) (i32_in _) (i32_in _) hrel
  refine lv_aload_n hx hb dl_481 rfl (lv_at hl 2 rfl) ?_
  refine lv_aload_n hx hb dl_482 rfl (lv_at hl 3 rfl) ?_
  refine lv_iload_n hx hb dl_483 rfl (lv_at hl 0 rfl) ?_
  refine lv_iconst (v := nI 1) hx hb dl_484 (by decide +kernel) ?_
  refine lv_iadd hx hb dl_485 ?_
  rw [nI_addk]
  refine va_sld hx hb hX hbl (hnw b hbl) hS (vp_in_nI (N := L) (by omega) (by omega)) dl_486 ?_
  rw [nI_clamp (show i + 1 < 2 ^ 31 by omega)]
  refine lv_aload_n hx hb dl_487 rfl (lv_at hl 3 rfl) ?_
  refine lv_iload_n hx hb dl_488 rfl (lv_at hl 0 rfl) ?_
  refine lv_iconst (v := nI 2) hx hb dl_489 (by decide +kernel) ?_
  refine lv_iadd hx hb dl_490 ?_
  rw [nI_addk]
  refine va_sld hx hb hX hbl (hnw b hbl) hS (vp_in_nI (N := L) (by omega) (by omega)) dl_491 ?_
  rw [nI_clamp (show i + 2 < 2 ^ 31 by omega)]
  refine lv_aload_n hx hb dl_492 rfl (lv_at hl 3 rfl) ?_
  refine lv_iload_n hx hb dl_493 rfl (lv_at hl 0 rfl) ?_
  refine lv_iconst (v := nI 3) hx hb dl_494 (by decide +kernel) ?_
  refine lv_iadd hx hb dl_495 ?_
  rw [nI_addk]
  refine va_sld hx hb hX hbl (hnw b hbl) hS (vp_in_nI (N := L) (by omega) (by omega)) dl_496 ?_
  rw [nI_clamp (show i + 3 < 2 ^ 31 by omega)]
  refine law_call (L := loC) (G := (base, cA, D, sa)) (A := nwA s.heap.size) (ci := 11) (c0 := 0) (n := 3) (idx := 64) (C := RX11) (T := TX11) (NF := 11) (y := yX11_step) (As := [vI (xs (i + 1)).toInt, vI (xs (i + 2)).toInt, vI (xs (i + 3)).toInt]) (rest := []) (r0 := (some (vI r), μ1)) dl_497 gg_X11_step rfl (by decide) yw_X11_step (all5 wl_810 wl_811 wl_812 w_100 wl_813) rfl rfl ⟨by decide, by decide⟩ hx hb hml hown hts hK hZC hl.1 (fa1 okC0 (fa1 (i32_in _) (fa1 (i32_in _) (fa1 (i32_in _) (fa0))))) rfl hPC hmC hS (ArC_new hs0) hnw (by simp only [List.map_cons, List.map_nil, cv, q32_of]; rfl) (Nat.le_of_ble_eq_true rfl) hk hn hfc (fun H1 locs1 hm1 hP1 hz1 hq1 hS1 => ?_)
  replace hPR := pic_keptR hPR hz hq1
  clear hPC hmC hS
  rename va_S (nwA s.heap.size) s.heap H1 locs1 => hS
  rename okM loC μ1 => hmC
  rename va_P _ _ (pic loC _ μ1) H1 => hPC
  have hz2 : base + 858 ≤ H1.size := Nat.le_trans hz hz1
  clear hz1 hq1 hz
  rename base + 858 ≤ H1.size => hz
  refine lv_aload_n hx hb dl_500 rfl (lv_at hl 1 rfl) ?_
  refine lv_aload_n hx hb dl_501 rfl (lv_at hl 3 rfl) ?_
  refine lv_iload_n hx hb dl_502 rfl (lv_at hl 0 rfl) ?_
  refine lv_iconst (v := nI 1) hx hb dl_503 (by decide +kernel) ?_
  refine lv_iadd hx hb dl_504 ?_
  rw [nI_addk]
  refine va_sld hx hb hX hbl (hnw b hbl) hS (vp_in_nI (N := L) (by omega) (by omega)) dl_505 ?_
  rw [nI_clamp (show i + 1 < 2 ^ 31 by omega)]
  refine lv_aload_n hx hb dl_506 rfl (lv_at hl 3 rfl) ?_
  refine lv_iload_n hx hb dl_507 rfl (lv_at hl 0 rfl) ?_
  refine lv_iconst (v := nI 2) hx hb dl_508 (by decide +kernel) ?_
  refine lv_iadd hx hb dl_509 ?_
  rw [nI_addk]
  refine va_sld hx hb hX hbl (hnw b hbl) hS (vp_in_nI (N := L) (by omega) (by omega)) dl_510 ?_
  rw [nI_clamp (show i + 2 < 2 ^ 31 by omega)]
  refine lv_aload_n hx hb dl_511 rfl (lv_at hl 3 rfl) ?_
  refine lv_iload_n hx hb dl_512 rfl (lv_at hl 0 rfl) ?_
  refine lv_iconst (v := nI 3) hx hb dl_513 (by decide +kernel) ?_
  refine lv_iadd hx hb dl_514 ?_
  rw [nI_addk]
  refine va_sld hx hb hX hbl (hnw b hbl) hS (vp_in_nI (N := L) (by omega) (by omega)) dl_515 ?_
  rw [nI_clamp (show i + 3 < 2 ^ 31 by omega)]
  refine law_call (L := loR) (G := (base + 804, cA, D, sa)) (A := nwA s.heap.size) (ci := 12) (c0 := 0) (n := 3) (idx := 67) (C := RX12) (T := TX12) (NF := 83) (y := yX12_step) (As := [vI (xs (i + 1)).toInt, vI (xs (i + 2)).toInt, vI (xs (i + 3)).toInt]) (rest := [.int (q32 r)]) (r0 := (some (vI r), ν1)) dl_516 gg_X12_step rfl (by decide) yw_X12_step (all5 wl_1670 wl_1671 wl_1672 w_113 wl_1673) rfl rfl ⟨by decide, by decide⟩ hx hb hml hown hts hK hZR hl.1 (fa1 okR0 (fa1 (i32_in _) (fa1 (i32_in _) (fa1 (i32_in _) (fa0))))) rfl hPR hmR hS (ArR_new hs0) hnw (by simp only [List.map_cons, List.map_nil, cv, q32_of]; rfl) (Nat.le_of_ble_eq_true rfl) hk hn hfr (fun H1 locs1 hm1 hP1 hz1 hq1 hS1 => ?_)
  replace hPC := pic_keptC hPC hz hq1
  refine lv_icmp_eq (tgt := 1178) hx hb dl_519 (by decide) (fun _ => ?_) (fun q => absurd rfl q)
  exact kk _ _ μ1 ν1 _ () hl ⟨hPC, hP1, hmC, hm1, hrel1, hs0, Nat.le_trans hz hz1⟩ hS1
set_option maxHeartbeats 4000000 in
set_option maxRecDepth 100000 in
theorem law_undo {p : Program} {e : Env} {s : State} {m : MethodId} {below : List Frame} {meth : Method} {c : Code} {l : Launch} {b L : Nat} {xs : Nat → Int32} (C0 : lw_At p s m meth c b L xs) {RR : Mem → Mem → Prop} {base : Nat} {cA : Nat → ClassId} {D : va_G} {sa : Nat → Nat} (hK : va_K D vwCl (tysL (base, cA, D, sa)) s) (hZC : SZ loC (base, cA, D, sa) s) (hZR : SZ loR (base + 804, cA, D, sa) s) {k1 n1 : Nat} (hk : k1 ≤ room_1.cells) (hn : n1 ≤ room_1.slots) {Q : State → Prop} {i : Nat} (hi : i + 6 ≤ L) (hL : L ≤ 3072) (hsim : ∀ (μ ν : Mem), RR μ ν → Sm RR f_X11_undo f_X12_undo [] μ ν) {μ ν : Mem} {H : Heap} {locs : List Loc} {ls : Array Slot} (hl : lv_has ls 4 [(3, .int (nI i)), (2, .ref (base + 804)), (1, .ref base), (0, .ref b)]) (hW : LWd RR base s.heap.size cA D sa μ ν H) (hS : va_S (nwA s.heap.size) s.heap H locs)
    (kk : ∀ (H : Heap) (locs : List Loc) (μ ν : Mem) (ls : Array Slot) (st : Unit), lv_has ls 4 [(3, .int (nI i)), (2, .ref (base + 804)), (1, .ref base), (0, .ref b)] → LWd RR base s.heap.size cA D sa μ ν H → va_S (nwA s.heap.size) s.heap H locs → W p l e room_1 s m #[Value.ref b] below meth c H locs k1 n1 Q (F0 m 1178 ls [])) : W p l e room_1 s m #[Value.ref b] below meth c H locs k1 n1 Q (F0 m 524 ls []) := by
  obtain ⟨hx, hb, hr, hml, hown, hts0, hX, hbl, hlocks, hgv⟩ := C0
  have hts : ∀ w ∈ gtb, w.before #[Value.ref b] s = true := fun w hw => hts0 w (List.mem_filter.mp hw).1
  obtain ⟨hPC, hPR, hmC, hmR, hrel, hs0, hz⟩ := hW
  have hnw := nwA_no (n := s.heap.size)
  obtain ⟨r, μ1, ν1, hfc, hfr, hrel1⟩ := hsim μ ν   hrel
  refine lv_aload_n hx hb dl_524 rfl (lv_at hl 2 rfl) ?_
  refine law_call (L := loC) (G := (base, cA, D, sa)) (A := nwA s.heap.size) (ci := 11) (c0 := 0) (n := 0) (idx := 68) (C := RX11) (T := TX11) (NF := 11) (y := yX11_undo) (As := []) (rest := []) (r0 := (some (vI r), μ1)) dl_525 gg_X11_undo rfl (by decide) yw_X11_undo (all5 wl_862 wl_863 wl_864 w_100 wl_865) rfl rfl ⟨by decide, by decide⟩ hx hb hml hown hts hK hZC hl.1 (fa1 okC0 (fa0)) rfl hPC hmC hS (ArC_new hs0) hnw (rfl) (Nat.le_of_ble_eq_true rfl) hk hn hfc (fun H1 locs1 hm1 hP1 hz1 hq1 hS1 => ?_)
  replace hPR := pic_keptR hPR hz hq1
  clear hPC hmC hS
  rename va_S (nwA s.heap.size) s.heap H1 locs1 => hS
  rename okM loC μ1 => hmC
  rename va_P _ _ (pic loC _ μ1) H1 => hPC
  have hz2 : base + 858 ≤ H1.size := Nat.le_trans hz hz1
  clear hz1 hq1 hz
  rename base + 858 ≤ H1.size => hz
  refine lv_aload_n hx hb dl_528 rfl (lv_at hl 1 rfl) ?_
  refine law_call (L := loR) (G := (base + 804, cA, D, sa)) (A := nwA s.heap.size) (ci := 12) (c0 := 0) (n := 0) (idx := 71) (C := RX12) (T := TX12) (NF := 83) (y := yX12_undo) (As := []) (rest := [.int (q32 r)]) (r0 := (some (vI r), ν1)) dl_529 gg_X12_undo rfl (by decide) yw_X12_undo (all5 wl_1679 wl_1680 wl_1681 w_113 wl_1682) rfl rfl ⟨by decide, by decide⟩ hx hb hml hown hts hK hZR hl.1 (fa1 okR0 (fa0)) rfl hPR hmR hS (ArR_new hs0) hnw (rfl) (Nat.le_of_ble_eq_true rfl) hk hn hfr (fun H1 locs1 hm1 hP1 hz1 hq1 hS1 => ?_)
  replace hPC := pic_keptC hPC hz hq1
  refine lv_icmp_eq (tgt := 1178) hx hb dl_532 (by decide) (fun _ => ?_) (fun q => absurd rfl q)
  exact kk _ _ μ1 ν1 _ () hl ⟨hPC, hP1, hmC, hm1, hrel1, hs0, Nat.le_trans hz hz1⟩ hS1
set_option maxHeartbeats 4000000 in
set_option maxRecDepth 100000 in
theorem law_proof {p : Program} {e : Env} {s : State} {m : MethodId} {below : List Frame} {meth : Method} {c : Code} {l : Launch} {b L : Nat} {xs : Nat → Int32} (C0 : lw_At p s m meth c b L xs) {RR : Mem → Mem → Prop} {base : Nat} {cA : Nat → ClassId} {D : va_G} {sa : Nat → Nat} (hK : va_K D vwCl (tysL (base, cA, D, sa)) s) (hZC : SZ loC (base, cA, D, sa) s) (hZR : SZ loR (base + 804, cA, D, sa) s) {k1 n1 : Nat} (hk : k1 ≤ room_1.cells) (hn : n1 ≤ room_1.slots) {Q : State → Prop} {i : Nat} (hi : i + 6 ≤ L) (hL : L ≤ 3072) (hsim : ∀ (μ ν : Mem) (x1 : Int), in32 x1 → RR μ ν → Sm RR f_X11_proof f_X12_proof [vI x1] μ ν) {μ ν : Mem} {H : Heap} {locs : List Loc} {ls : Array Slot} (hl : lv_has ls 4 [(3, .int (nI i)), (2, .ref (base + 804)), (1, .ref base), (0, .ref b)]) (hW : LWd RR base s.heap.size cA D sa μ ν H) (hS : va_S (nwA s.heap.size) s.heap H locs)
    (kk : ∀ (H : Heap) (locs : List Loc) (μ ν : Mem) (ls : Array Slot) (st : Unit), lv_has ls 4 [(3, .int (nI i)), (2, .ref (base + 804)), (1, .ref base), (0, .ref b)] → LWd RR base s.heap.size cA D sa μ ν H → va_S (nwA s.heap.size) s.heap H locs → W p l e room_1 s m #[Value.ref b] below meth c H locs k1 n1 Q (F0 m 1178 ls [])) : W p l e room_1 s m #[Value.ref b] below meth c H locs k1 n1 Q (F0 m 537 ls []) := by
  obtain ⟨hx, hb, hr, hml, hown, hts0, hX, hbl, hlocks, hgv⟩ := C0
  have hts : ∀ w ∈ gtb, w.before #[Value.ref b] s = true := fun w hw => hts0 w (List.mem_filter.mp hw).1
  obtain ⟨hPC, hPR, hmC, hmR, hrel, hs0, hz⟩ := hW
  have hnw := nwA_no (n := s.heap.size)
  obtain ⟨r, μ1, ν1, hfc, hfr, hrel1⟩ := hsim μ ν (xs (i + 1)).toInt (i32_in _) hrel
  refine lv_aload_n hx hb dl_537 rfl (lv_at hl 2 rfl) ?_
  refine lv_aload_n hx hb dl_538 rfl (lv_at hl 3 rfl) ?_
  refine lv_iload_n hx hb dl_539 rfl (lv_at hl 0 rfl) ?_
  refine lv_iconst (v := nI 1) hx hb dl_540 (by decide +kernel) ?_
  refine lv_iadd hx hb dl_541 ?_
  rw [nI_addk]
  refine va_sld hx hb hX hbl (hnw b hbl) hS (vp_in_nI (N := L) (by omega) (by omega)) dl_542 ?_
  rw [nI_clamp (show i + 1 < 2 ^ 31 by omega)]
  refine law_call (L := loC) (G := (base, cA, D, sa)) (A := nwA s.heap.size) (ci := 11) (c0 := 0) (n := 1) (idx := 72) (C := RX11) (T := TX11) (NF := 11) (y := yX11_proof) (As := [vI (xs (i + 1)).toInt]) (rest := []) (r0 := (some (vI r), μ1)) dl_543 gg_X11_proof rfl (by decide) yw_X11_proof (all5 wl_870 wl_871 wl_872 w_100 wl_873) rfl rfl ⟨by decide, by decide⟩ hx hb hml hown hts hK hZC hl.1 (fa1 okC0 (fa1 (i32_in _) (fa0))) rfl hPC hmC hS (ArC_new hs0) hnw (by simp only [List.map_cons, List.map_nil, cv, q32_of]; rfl) (Nat.le_of_ble_eq_true rfl) hk hn hfc (fun H1 locs1 hm1 hP1 hz1 hq1 hS1 => ?_)
  replace hPR := pic_keptR hPR hz hq1
  clear hPC hmC hS
  rename va_S (nwA s.heap.size) s.heap H1 locs1 => hS
  rename okM loC μ1 => hmC
  rename va_P _ _ (pic loC _ μ1) H1 => hPC
  have hz2 : base + 858 ≤ H1.size := Nat.le_trans hz hz1
  clear hz1 hq1 hz
  rename base + 858 ≤ H1.size => hz
  refine lv_aload_n hx hb dl_546 rfl (lv_at hl 1 rfl) ?_
  refine lv_aload_n hx hb dl_547 rfl (lv_at hl 3 rfl) ?_
  refine lv_iload_n hx hb dl_548 rfl (lv_at hl 0 rfl) ?_
  refine lv_iconst (v := nI 1) hx hb dl_549 (by decide +kernel) ?_
  refine lv_iadd hx hb dl_550 ?_
  rw [nI_addk]
  refine va_sld hx hb hX hbl (hnw b hbl) hS (vp_in_nI (N := L) (by omega) (by omega)) dl_551 ?_
  rw [nI_clamp (show i + 1 < 2 ^ 31 by omega)]
  refine law_call (L := loR) (G := (base + 804, cA, D, sa)) (A := nwA s.heap.size) (ci := 12) (c0 := 0) (n := 1) (idx := 75) (C := RX12) (T := TX12) (NF := 83) (y := yX12_proof) (As := [vI (xs (i + 1)).toInt]) (rest := [.int (q32 r)]) (r0 := (some (vI r), ν1)) dl_552 gg_X12_proof rfl (by decide) yw_X12_proof (all5 wl_1683 wl_1684 wl_1685 w_113 wl_1686) rfl rfl ⟨by decide, by decide⟩ hx hb hml hown hts hK hZR hl.1 (fa1 okR0 (fa1 (i32_in _) (fa0))) rfl hPR hmR hS (ArR_new hs0) hnw (by simp only [List.map_cons, List.map_nil, cv, q32_of]; rfl) (Nat.le_of_ble_eq_true rfl) hk hn hfr (fun H1 locs1 hm1 hP1 hz1 hq1 hS1 => ?_)
  replace hPC := pic_keptC hPC hz hq1
  refine lv_icmp_eq (tgt := 1178) hx hb dl_555 (by decide) (fun _ => ?_) (fun q => absurd rfl q)
  exact kk _ _ μ1 ν1 _ () hl ⟨hPC, hP1, hmC, hm1, hrel1, hs0, Nat.le_trans hz hz1⟩ hS1
set_option maxHeartbeats 4000000 in
set_option maxRecDepth 100000 in
theorem law_show {p : Program} {e : Env} {s : State} {m : MethodId} {below : List Frame} {meth : Method} {c : Code} {l : Launch} {b L : Nat} {xs : Nat → Int32} (C0 : lw_At p s m meth c b L xs) {RR : Mem → Mem → Prop} {base : Nat} {cA : Nat → ClassId} {D : va_G} {sa : Nat → Nat} (hK : va_K D vwCl (tysL (base, cA, D, sa)) s) (hZC : SZ loC (base, cA, D, sa) s) (hZR : SZ loR (base + 804, cA, D, sa) s) {k1 n1 : Nat} (hk : k1 ≤ room_1.cells) (hn : n1 ≤ room_1.slots) {Q : State → Prop} {i : Nat} (hi : i + 6 ≤ L) (hL : L ≤ 3072) (hsim : ∀ (μ ν : Mem), RR μ ν → Sm RR f_X11_show f_X12_show [] μ ν) {μ ν : Mem} {H : Heap} {locs : List Loc} {ls : Array Slot} (hl : lv_has ls 4 [(3, .int (nI i)), (2, .ref (base + 804)), (1, .ref base), (0, .ref b)]) (hW : LWd RR base s.heap.size cA D sa μ ν H) (hS : va_S (nwA s.heap.size) s.heap H locs)
    (kk : ∀ (H : Heap) (locs : List Loc) (μ ν : Mem) (ls : Array Slot) (st : Unit), lv_has ls 4 [(3, .int (nI i)), (2, .ref (base + 804)), (1, .ref base), (0, .ref b)] → LWd RR base s.heap.size cA D sa μ ν H → va_S (nwA s.heap.size) s.heap H locs → W p l e room_1 s m #[Value.ref b] below meth c H locs k1 n1 Q (F0 m 1178 ls [])) : W p l e room_1 s m #[Value.ref b] below meth c H locs k1 n1 Q (F0 m 560 ls []) := by
  obtain ⟨hx, hb, hr, hml, hown, hts0, hX, hbl, hlocks, hgv⟩ := C0
  have hts : ∀ w ∈ gtb, w.before #[Value.ref b] s = true := fun w hw => hts0 w (List.mem_filter.mp hw).1
  obtain ⟨hPC, hPR, hmC, hmR, hrel, hs0, hz⟩ := hW
  have hnw := nwA_no (n := s.heap.size)
  obtain ⟨r, μ1, ν1, hfc, hfr, hrel1⟩ := hsim μ ν   hrel
  refine lv_aload_n hx hb dl_560 rfl (lv_at hl 2 rfl) ?_
  refine law_call (L := loC) (G := (base, cA, D, sa)) (A := nwA s.heap.size) (ci := 11) (c0 := 0) (n := 0) (idx := 76) (C := RX11) (T := TX11) (NF := 11) (y := yX11_show) (As := []) (rest := []) (r0 := (some (vI r), μ1)) dl_561 gg_X11_show rfl (by decide) yw_X11_show (all5 wl_884 wl_885 wl_886 w_100 wl_887) rfl rfl ⟨by decide, by decide⟩ hx hb hml hown hts hK hZC hl.1 (fa1 okC0 (fa0)) rfl hPC hmC hS (ArC_new hs0) hnw (rfl) (Nat.le_of_ble_eq_true rfl) hk hn hfc (fun H1 locs1 hm1 hP1 hz1 hq1 hS1 => ?_)
  replace hPR := pic_keptR hPR hz hq1
  clear hPC hmC hS
  rename va_S (nwA s.heap.size) s.heap H1 locs1 => hS
  rename okM loC μ1 => hmC
  rename va_P _ _ (pic loC _ μ1) H1 => hPC
  have hz2 : base + 858 ≤ H1.size := Nat.le_trans hz hz1
  clear hz1 hq1 hz
  rename base + 858 ≤ H1.size => hz
  refine lv_aload_n hx hb dl_564 rfl (lv_at hl 1 rfl) ?_
  refine law_call (L := loR) (G := (base + 804, cA, D, sa)) (A := nwA s.heap.size) (ci := 12) (c0 := 0) (n := 0) (idx := 79) (C := RX12) (T := TX12) (NF := 83) (y := yX12_show) (As := []) (rest := [.int (q32 r)]) (r0 := (some (vI r), ν1)) dl_565 gg_X12_show rfl (by decide) yw_X12_show (all5 wl_1691 wl_1692 wl_1693 w_113 wl_1694) rfl rfl ⟨by decide, by decide⟩ hx hb hml hown hts hK hZR hl.1 (fa1 okR0 (fa0)) rfl hPR hmR hS (ArR_new hs0) hnw (rfl) (Nat.le_of_ble_eq_true rfl) hk hn hfr (fun H1 locs1 hm1 hP1 hz1 hq1 hS1 => ?_)
  replace hPC := pic_keptC hPC hz hq1
  refine lv_icmp_eq (tgt := 1178) hx hb dl_568 (by decide) (fun _ => ?_) (fun q => absurd rfl q)
  exact kk _ _ μ1 ν1 _ () hl ⟨hPC, hP1, hmC, hm1, hrel1, hs0, Nat.le_trans hz hz1⟩ hS1
set_option maxHeartbeats 4000000 in
set_option maxRecDepth 100000 in
theorem law_stepOf {p : Program} {e : Env} {s : State} {m : MethodId} {below : List Frame} {meth : Method} {c : Code} {l : Launch} {b L : Nat} {xs : Nat → Int32} (C0 : lw_At p s m meth c b L xs) {RR : Mem → Mem → Prop} {base : Nat} {cA : Nat → ClassId} {D : va_G} {sa : Nat → Nat} (hK : va_K D vwCl (tysL (base, cA, D, sa)) s) (hZC : SZ loC (base, cA, D, sa) s) (hZR : SZ loR (base + 804, cA, D, sa) s) {k1 n1 : Nat} (hk : k1 ≤ room_1.cells) (hn : n1 ≤ room_1.slots) {Q : State → Prop} {i : Nat} (hi : i + 6 ≤ L) (hL : L ≤ 3072) (hsim : ∀ (μ ν : Mem) (x1 x2 x3 : Int), in32 x1 → in32 x2 → in32 x3 → RR μ ν → Sm RR f_X11_stepOf f_X12_stepOf [vI x1, vI x2, vI x3] μ ν) {μ ν : Mem} {H : Heap} {locs : List Loc} {ls : Array Slot} (hl : lv_has ls 4 [(3, .int (nI i)), (2, .ref (base + 804)), (1, .ref base), (0, .ref b)]) (hW : LWd RR base s.heap.size cA D sa μ ν H) (hS : va_S (nwA s.heap.size) s.heap H locs)
    (kk : ∀ (H : Heap) (locs : List Loc) (μ ν : Mem) (ls : Array Slot) (st : Unit), lv_has ls 4 [(3, .int (nI i)), (2, .ref (base + 804)), (1, .ref base), (0, .ref b)] → LWd RR base s.heap.size cA D sa μ ν H → va_S (nwA s.heap.size) s.heap H locs → W p l e room_1 s m #[Value.ref b] below meth c H locs k1 n1 Q (F0 m 1178 ls [])) : W p l e room_1 s m #[Value.ref b] below meth c H locs k1 n1 Q (F0 m 573 ls []) := by
  obtain ⟨hx, hb, hr, hml, hown, hts0, hX, hbl, hlocks, hgv⟩ := C0
  have hts : ∀ w ∈ gtb, w.before #[Value.ref b] s = true := fun w hw => hts0 w (List.mem_filter.mp hw).1
  obtain ⟨hPC, hPR, hmC, hmR, hrel, hs0, hz⟩ := hW
  have hnw := nwA_no (n := s.heap.size)
  obtain ⟨r, μ1, ν1, hfc, hfr, hrel1⟩ := hsim μ ν (xs (i + 1)).toInt (xs (i + 2)).toInt (xs (i + 3)).toInt (i32_in _) (i32_in _) (i32_in _) hrel
  refine lv_aload_n hx hb dl_573 rfl (lv_at hl 2 rfl) ?_
  refine lv_aload_n hx hb dl_574 rfl (lv_at hl 3 rfl) ?_
  refine lv_iload_n hx hb dl_575 rfl (lv_at hl 0 rfl) ?_
  refine lv_iconst (v := nI 1) hx hb dl_576 (by decide +kernel) ?_
  refine lv_iadd hx hb dl_577 ?_
  rw [nI_addk]
  refine va_sld hx hb hX hbl (hnw b hbl) hS (vp_in_nI (N := L) (by omega) (by omega)) dl_578 ?_
  rw [nI_clamp (show i + 1 < 2 ^ 31 by omega)]
  refine lv_aload_n hx hb dl_579 rfl (lv_at hl 3 rfl) ?_
  refine lv_iload_n hx hb dl_580 rfl (lv_at hl 0 rfl) ?_
  refine lv_iconst (v := nI 2) hx hb dl_581 (by decide +kernel) ?_
  refine lv_iadd hx hb dl_582 ?_
  rw [nI_addk]
  refine va_sld hx hb hX hbl (hnw b hbl) hS (vp_in_nI (N := L) (by omega) (by omega)) dl_583 ?_
  rw [nI_clamp (show i + 2 < 2 ^ 31 by omega)]
  refine lv_aload_n hx hb dl_584 rfl (lv_at hl 3 rfl) ?_
  refine lv_iload_n hx hb dl_585 rfl (lv_at hl 0 rfl) ?_
  refine lv_iconst (v := nI 3) hx hb dl_586 (by decide +kernel) ?_
  refine lv_iadd hx hb dl_587 ?_
  rw [nI_addk]
  refine va_sld hx hb hX hbl (hnw b hbl) hS (vp_in_nI (N := L) (by omega) (by omega)) dl_588 ?_
  rw [nI_clamp (show i + 3 < 2 ^ 31 by omega)]
  refine law_call (L := loC) (G := (base, cA, D, sa)) (A := nwA s.heap.size) (ci := 11) (c0 := 0) (n := 3) (idx := 80) (C := RX11) (T := TX11) (NF := 11) (y := yX11_stepOf) (As := [vI (xs (i + 1)).toInt, vI (xs (i + 2)).toInt, vI (xs (i + 3)).toInt]) (rest := []) (r0 := (some (vI r), μ1)) dl_589 gg_X11_stepOf rfl (by decide) yw_X11_stepOf (all5 wl_928 wl_929 wl_930 w_100 wl_931) rfl rfl ⟨by decide, by decide⟩ hx hb hml hown hts hK hZC hl.1 (fa1 okC0 (fa1 (i32_in _) (fa1 (i32_in _) (fa1 (i32_in _) (fa0))))) rfl hPC hmC hS (ArC_new hs0) hnw (by simp only [List.map_cons, List.map_nil, cv, q32_of]; rfl) (Nat.le_of_ble_eq_true rfl) hk hn hfc (fun H1 locs1 hm1 hP1 hz1 hq1 hS1 => ?_)
  replace hPR := pic_keptR hPR hz hq1
  clear hPC hmC hS
  rename va_S (nwA s.heap.size) s.heap H1 locs1 => hS
  rename okM loC μ1 => hmC
  rename va_P _ _ (pic loC _ μ1) H1 => hPC
  have hz2 : base + 858 ≤ H1.size := Nat.le_trans hz hz1
  clear hz1 hq1 hz
  rename base + 858 ≤ H1.size => hz
  refine lv_aload_n hx hb dl_592 rfl (lv_at hl 1 rfl) ?_
  refine lv_aload_n hx hb dl_593 rfl (lv_at hl 3 rfl) ?_
  refine lv_iload_n hx hb dl_594 rfl (lv_at hl 0 rfl) ?_
  refine lv_iconst (v := nI 1) hx hb dl_595 (by decide +kernel) ?_
  refine lv_iadd hx hb dl_596 ?_
  rw [nI_addk]
  refine va_sld hx hb hX hbl (hnw b hbl) hS (vp_in_nI (N := L) (by omega) (by omega)) dl_597 ?_
  rw [nI_clamp (show i + 1 < 2 ^ 31 by omega)]
  refine lv_aload_n hx hb dl_598 rfl (lv_at hl 3 rfl) ?_
  refine lv_iload_n hx hb dl_599 rfl (lv_at hl 0 rfl) ?_
  refine lv_iconst (v := nI 2) hx hb dl_600 (by decide +kernel) ?_
  refine lv_iadd hx hb dl_601 ?_
  rw [nI_addk]
  refine va_sld hx hb hX hbl (hnw b hbl) hS (vp_in_nI (N := L) (by omega) (by omega)) dl_602 ?_
  rw [nI_clamp (show i + 2 < 2 ^ 31 by omega)]
  refine lv_aload_n hx hb dl_603 rfl (lv_at hl 3 rfl) ?_
  refine lv_iload_n hx hb dl_604 rfl (lv_at hl 0 rfl) ?_
  refine lv_iconst (v := nI 3) hx hb dl_605 (by decide +kernel) ?_
  refine lv_iadd hx hb dl_606 ?_
  rw [nI_addk]
  refine va_sld hx hb hX hbl (hnw b hbl) hS (vp_in_nI (N := L) (by omega) (by omega)) dl_607 ?_
  rw [nI_clamp (show i + 3 < 2 ^ 31 by omega)]
  refine law_call (L := loR) (G := (base + 804, cA, D, sa)) (A := nwA s.heap.size) (ci := 12) (c0 := 0) (n := 3) (idx := 83) (C := RX12) (T := TX12) (NF := 83) (y := yX12_stepOf) (As := [vI (xs (i + 1)).toInt, vI (xs (i + 2)).toInt, vI (xs (i + 3)).toInt]) (rest := [.int (q32 r)]) (r0 := (some (vI r), ν1)) dl_608 gg_X12_stepOf rfl (by decide) yw_X12_stepOf (all5 wl_1703 wl_1704 wl_1705 w_113 wl_1706) rfl rfl ⟨by decide, by decide⟩ hx hb hml hown hts hK hZR hl.1 (fa1 okR0 (fa1 (i32_in _) (fa1 (i32_in _) (fa1 (i32_in _) (fa0))))) rfl hPR hmR hS (ArR_new hs0) hnw (by simp only [List.map_cons, List.map_nil, cv, q32_of]; rfl) (Nat.le_of_ble_eq_true rfl) hk hn hfr (fun H1 locs1 hm1 hP1 hz1 hq1 hS1 => ?_)
  replace hPC := pic_keptC hPC hz hq1
  refine lv_icmp_eq (tgt := 1178) hx hb dl_611 (by decide) (fun _ => ?_) (fun q => absurd rfl q)
  exact kk _ _ μ1 ν1 _ () hl ⟨hPC, hP1, hmC, hm1, hrel1, hs0, Nat.le_trans hz hz1⟩ hS1
set_option maxHeartbeats 4000000 in
set_option maxRecDepth 100000 in
theorem law_leans {p : Program} {e : Env} {s : State} {m : MethodId} {below : List Frame} {meth : Method} {c : Code} {l : Launch} {b L : Nat} {xs : Nat → Int32} (C0 : lw_At p s m meth c b L xs) {RR : Mem → Mem → Prop} {base : Nat} {cA : Nat → ClassId} {D : va_G} {sa : Nat → Nat} (hK : va_K D vwCl (tysL (base, cA, D, sa)) s) (hZC : SZ loC (base, cA, D, sa) s) (hZR : SZ loR (base + 804, cA, D, sa) s) {k1 n1 : Nat} (hk : k1 ≤ room_1.cells) (hn : n1 ≤ room_1.slots) {Q : State → Prop} {i : Nat} (hi : i + 6 ≤ L) (hL : L ≤ 3072) (hsim : ∀ (μ ν : Mem) (x1 x2 : Int), in32 x1 → in32 x2 → RR μ ν → Sm RR f_X11_leans f_X12_leans [vI x1, vI x2] μ ν) {μ ν : Mem} {H : Heap} {locs : List Loc} {ls : Array Slot} (hl : lv_has ls 4 [(3, .int (nI i)), (2, .ref (base + 804)), (1, .ref base), (0, .ref b)]) (hW : LWd RR base s.heap.size cA D sa μ ν H) (hS : va_S (nwA s.heap.size) s.heap H locs)
    (kk : ∀ (H : Heap) (locs : List Loc) (μ ν : Mem) (ls : Array Slot) (st : Unit), lv_has ls 4 [(3, .int (nI i)), (2, .ref (base + 804)), (1, .ref base), (0, .ref b)] → LWd RR base s.heap.size cA D sa μ ν H → va_S (nwA s.heap.size) s.heap H locs → W p l e room_1 s m #[Value.ref b] below meth c H locs k1 n1 Q (F0 m 1178 ls [])) : W p l e room_1 s m #[Value.ref b] below meth c H locs k1 n1 Q (F0 m 616 ls []) := by
  obtain ⟨hx, hb, hr, hml, hown, hts0, hX, hbl, hlocks, hgv⟩ := C0
  have hts : ∀ w ∈ gtb, w.before #[Value.ref b] s = true := fun w hw => hts0 w (List.mem_filter.mp hw).1
  obtain ⟨hPC, hPR, hmC, hmR, hrel, hs0, hz⟩ := hW
  have hnw := nwA_no (n := s.heap.size)
  obtain ⟨r, μ1, ν1, hfc, hfr, hrel1⟩ := hsim μ ν (xs (i + 1)).toInt (xs (i + 2)).toInt (i32_in _) (i32_in _) hrel
  refine lv_aload_n hx hb dl_616 rfl (lv_at hl 2 rfl) ?_
  refine lv_aload_n hx hb dl_617 rfl (lv_at hl 3 rfl) ?_
  refine lv_iload_n hx hb dl_618 rfl (lv_at hl 0 rfl) ?_
  refine lv_iconst (v := nI 1) hx hb dl_619 (by decide +kernel) ?_
  refine lv_iadd hx hb dl_620 ?_
  rw [nI_addk]
  refine va_sld hx hb hX hbl (hnw b hbl) hS (vp_in_nI (N := L) (by omega) (by omega)) dl_621 ?_
  rw [nI_clamp (show i + 1 < 2 ^ 31 by omega)]
  refine lv_aload_n hx hb dl_622 rfl (lv_at hl 3 rfl) ?_
  refine lv_iload_n hx hb dl_623 rfl (lv_at hl 0 rfl) ?_
  refine lv_iconst (v := nI 2) hx hb dl_624 (by decide +kernel) ?_
  refine lv_iadd hx hb dl_625 ?_
  rw [nI_addk]
  refine va_sld hx hb hX hbl (hnw b hbl) hS (vp_in_nI (N := L) (by omega) (by omega)) dl_626 ?_
  rw [nI_clamp (show i + 2 < 2 ^ 31 by omega)]
  refine law_call (L := loC) (G := (base, cA, D, sa)) (A := nwA s.heap.size) (ci := 11) (c0 := 0) (n := 2) (idx := 84) (C := RX11) (T := TX11) (NF := 11) (y := yX11_leans) (As := [vI (xs (i + 1)).toInt, vI (xs (i + 2)).toInt]) (rest := []) (r0 := (some (vI r), μ1)) dl_627 gg_X11_leans rfl (by decide) yw_X11_leans (all5 wl_936 wl_937 wl_938 w_100 wl_939) rfl rfl ⟨by decide, by decide⟩ hx hb hml hown hts hK hZC hl.1 (fa1 okC0 (fa1 (i32_in _) (fa1 (i32_in _) (fa0)))) rfl hPC hmC hS (ArC_new hs0) hnw (by simp only [List.map_cons, List.map_nil, cv, q32_of]; rfl) (Nat.le_of_ble_eq_true rfl) hk hn hfc (fun H1 locs1 hm1 hP1 hz1 hq1 hS1 => ?_)
  replace hPR := pic_keptR hPR hz hq1
  clear hPC hmC hS
  rename va_S (nwA s.heap.size) s.heap H1 locs1 => hS
  rename okM loC μ1 => hmC
  rename va_P _ _ (pic loC _ μ1) H1 => hPC
  have hz2 : base + 858 ≤ H1.size := Nat.le_trans hz hz1
  clear hz1 hq1 hz
  rename base + 858 ≤ H1.size => hz
  refine lv_aload_n hx hb dl_630 rfl (lv_at hl 1 rfl) ?_
  refine lv_aload_n hx hb dl_631 rfl (lv_at hl 3 rfl) ?_
  refine lv_iload_n hx hb dl_632 rfl (lv_at hl 0 rfl) ?_
  refine lv_iconst (v := nI 1) hx hb dl_633 (by decide +kernel) ?_
  refine lv_iadd hx hb dl_634 ?_
  rw [nI_addk]
  refine va_sld hx hb hX hbl (hnw b hbl) hS (vp_in_nI (N := L) (by omega) (by omega)) dl_635 ?_
  rw [nI_clamp (show i + 1 < 2 ^ 31 by omega)]
  refine lv_aload_n hx hb dl_636 rfl (lv_at hl 3 rfl) ?_
  refine lv_iload_n hx hb dl_637 rfl (lv_at hl 0 rfl) ?_
  refine lv_iconst (v := nI 2) hx hb dl_638 (by decide +kernel) ?_
  refine lv_iadd hx hb dl_639 ?_
  rw [nI_addk]
  refine va_sld hx hb hX hbl (hnw b hbl) hS (vp_in_nI (N := L) (by omega) (by omega)) dl_640 ?_
  rw [nI_clamp (show i + 2 < 2 ^ 31 by omega)]
  refine law_call (L := loR) (G := (base + 804, cA, D, sa)) (A := nwA s.heap.size) (ci := 12) (c0 := 0) (n := 2) (idx := 87) (C := RX12) (T := TX12) (NF := 83) (y := yX12_leans) (As := [vI (xs (i + 1)).toInt, vI (xs (i + 2)).toInt]) (rest := [.int (q32 r)]) (r0 := (some (vI r), ν1)) dl_641 gg_X12_leans rfl (by decide) yw_X12_leans (all5 wl_1658 wl_1659 wl_1660 w_113 wl_1661) rfl rfl ⟨by decide, by decide⟩ hx hb hml hown hts hK hZR hl.1 (fa1 okR0 (fa1 (i32_in _) (fa1 (i32_in _) (fa0)))) rfl hPR hmR hS (ArR_new hs0) hnw (by simp only [List.map_cons, List.map_nil, cv, q32_of]; rfl) (Nat.le_of_ble_eq_true rfl) hk hn hfr (fun H1 locs1 hm1 hP1 hz1 hq1 hS1 => ?_)
  replace hPC := pic_keptC hPC hz hq1
  refine lv_icmp_eq (tgt := 1178) hx hb dl_644 (by decide) (fun _ => ?_) (fun q => absurd rfl q)
  exact kk _ _ μ1 ν1 _ () hl ⟨hPC, hP1, hmC, hm1, hrel1, hs0, Nat.le_trans hz hz1⟩ hS1
set_option maxHeartbeats 4000000 in
set_option maxRecDepth 100000 in
theorem law_change {p : Program} {e : Env} {s : State} {m : MethodId} {below : List Frame} {meth : Method} {c : Code} {l : Launch} {b L : Nat} {xs : Nat → Int32} (C0 : lw_At p s m meth c b L xs) {RR : Mem → Mem → Prop} {base : Nat} {cA : Nat → ClassId} {D : va_G} {sa : Nat → Nat} (hK : va_K D vwCl (tysL (base, cA, D, sa)) s) (hZC : SZ loC (base, cA, D, sa) s) (hZR : SZ loR (base + 804, cA, D, sa) s) {k1 n1 : Nat} (hk : k1 ≤ room_1.cells) (hn : n1 ≤ room_1.slots) {Q : State → Prop} {i : Nat} (hi : i + 6 ≤ L) (hL : L ≤ 3072) (hsim : ∀ (μ ν : Mem) (x1 : Int), in32 x1 → RR μ ν → Sm RR f_X11_change f_X12_change [vI x1] μ ν) {μ ν : Mem} {H : Heap} {locs : List Loc} {ls : Array Slot} (hl : lv_has ls 4 [(3, .int (nI i)), (2, .ref (base + 804)), (1, .ref base), (0, .ref b)]) (hW : LWd RR base s.heap.size cA D sa μ ν H) (hS : va_S (nwA s.heap.size) s.heap H locs)
    (kk : ∀ (H : Heap) (locs : List Loc) (μ ν : Mem) (ls : Array Slot) (st : Unit), lv_has ls 4 [(3, .int (nI i)), (2, .ref (base + 804)), (1, .ref base), (0, .ref b)] → LWd RR base s.heap.size cA D sa μ ν H → va_S (nwA s.heap.size) s.heap H locs → W p l e room_1 s m #[Value.ref b] below meth c H locs k1 n1 Q (F0 m 1178 ls [])) : W p l e room_1 s m #[Value.ref b] below meth c H locs k1 n1 Q (F0 m 649 ls []) := by
  obtain ⟨hx, hb, hr, hml, hown, hts0, hX, hbl, hlocks, hgv⟩ := C0
  have hts : ∀ w ∈ gtb, w.before #[Value.ref b] s = true := fun w hw => hts0 w (List.mem_filter.mp hw).1
  obtain ⟨hPC, hPR, hmC, hmR, hrel, hs0, hz⟩ := hW
  have hnw := nwA_no (n := s.heap.size)
  obtain ⟨r, μ1, ν1, hfc, hfr, hrel1⟩ := hsim μ ν (xs (i + 1)).toInt (i32_in _) hrel
  refine lv_aload_n hx hb dl_649 rfl (lv_at hl 2 rfl) ?_
  refine lv_aload_n hx hb dl_650 rfl (lv_at hl 3 rfl) ?_
  refine lv_iload_n hx hb dl_651 rfl (lv_at hl 0 rfl) ?_
  refine lv_iconst (v := nI 1) hx hb dl_652 (by decide +kernel) ?_
  refine lv_iadd hx hb dl_653 ?_
  rw [nI_addk]
  refine va_sld hx hb hX hbl (hnw b hbl) hS (vp_in_nI (N := L) (by omega) (by omega)) dl_654 ?_
  rw [nI_clamp (show i + 1 < 2 ^ 31 by omega)]
  refine law_call (L := loC) (G := (base, cA, D, sa)) (A := nwA s.heap.size) (ci := 11) (c0 := 0) (n := 1) (idx := 88) (C := RX11) (T := TX11) (NF := 11) (y := yX11_change) (As := [vI (xs (i + 1)).toInt]) (rest := []) (r0 := (some (vI r), μ1)) dl_655 gg_X11_change rfl (by decide) yw_X11_change (all5 wl_944 wl_945 wl_946 w_100 wl_947) rfl rfl ⟨by decide, by decide⟩ hx hb hml hown hts hK hZC hl.1 (fa1 okC0 (fa1 (i32_in _) (fa0))) rfl hPC hmC hS (ArC_new hs0) hnw (by simp only [List.map_cons, List.map_nil, cv, q32_of]; rfl) (Nat.le_of_ble_eq_true rfl) hk hn hfc (fun H1 locs1 hm1 hP1 hz1 hq1 hS1 => ?_)
  replace hPR := pic_keptR hPR hz hq1
  clear hPC hmC hS
  rename va_S (nwA s.heap.size) s.heap H1 locs1 => hS
  rename okM loC μ1 => hmC
  rename va_P _ _ (pic loC _ μ1) H1 => hPC
  have hz2 : base + 858 ≤ H1.size := Nat.le_trans hz hz1
  clear hz1 hq1 hz
  rename base + 858 ≤ H1.size => hz
  refine lv_aload_n hx hb dl_658 rfl (lv_at hl 1 rfl) ?_
  refine lv_aload_n hx hb dl_659 rfl (lv_at hl 3 rfl) ?_
  refine lv_iload_n hx hb dl_660 rfl (lv_at hl 0 rfl) ?_
  refine lv_iconst (v := nI 1) hx hb dl_661 (by decide +kernel) ?_
  refine lv_iadd hx hb dl_662 ?_
  rw [nI_addk]
  refine va_sld hx hb hX hbl (hnw b hbl) hS (vp_in_nI (N := L) (by omega) (by omega)) dl_663 ?_
  rw [nI_clamp (show i + 1 < 2 ^ 31 by omega)]
  refine law_call (L := loR) (G := (base + 804, cA, D, sa)) (A := nwA s.heap.size) (ci := 12) (c0 := 0) (n := 1) (idx := 91) (C := RX12) (T := TX12) (NF := 83) (y := yX12_change) (As := [vI (xs (i + 1)).toInt]) (rest := [.int (q32 r)]) (r0 := (some (vI r), ν1)) dl_664 gg_X12_change rfl (by decide) yw_X12_change (all5 wl_1707 wl_1708 wl_1709 w_113 wl_1710) rfl rfl ⟨by decide, by decide⟩ hx hb hml hown hts hK hZR hl.1 (fa1 okR0 (fa1 (i32_in _) (fa0))) rfl hPR hmR hS (ArR_new hs0) hnw (by simp only [List.map_cons, List.map_nil, cv, q32_of]; rfl) (Nat.le_of_ble_eq_true rfl) hk hn hfr (fun H1 locs1 hm1 hP1 hz1 hq1 hS1 => ?_)
  replace hPC := pic_keptC hPC hz hq1
  refine lv_icmp_eq (tgt := 1178) hx hb dl_667 (by decide) (fun _ => ?_) (fun q => absurd rfl q)
  exact kk _ _ μ1 ν1 _ () hl ⟨hPC, hP1, hmC, hm1, hrel1, hs0, Nat.le_trans hz hz1⟩ hS1
set_option maxHeartbeats 4000000 in
set_option maxRecDepth 100000 in
theorem law_seek {p : Program} {e : Env} {s : State} {m : MethodId} {below : List Frame} {meth : Method} {c : Code} {l : Launch} {b L : Nat} {xs : Nat → Int32} (C0 : lw_At p s m meth c b L xs) {RR : Mem → Mem → Prop} {base : Nat} {cA : Nat → ClassId} {D : va_G} {sa : Nat → Nat} (hK : va_K D vwCl (tysL (base, cA, D, sa)) s) (hZC : SZ loC (base, cA, D, sa) s) (hZR : SZ loR (base + 804, cA, D, sa) s) {k1 n1 : Nat} (hk : k1 ≤ room_1.cells) (hn : n1 ≤ room_1.slots) {Q : State → Prop} {i : Nat} (hi : i + 6 ≤ L) (hL : L ≤ 3072) (hsim : ∀ (μ ν : Mem) (x1 x2 x3 x4 : Int), in32 x1 → in32 x2 → in32 x3 → in32 x4 → RR μ ν → Sm RR f_X11_seek f_X12_seek [vI x1, vI x2, vI x3, vI x4] μ ν) {μ ν : Mem} {H : Heap} {locs : List Loc} {ls : Array Slot} (hl : lv_has ls 4 [(3, .int (nI i)), (2, .ref (base + 804)), (1, .ref base), (0, .ref b)]) (hW : LWd RR base s.heap.size cA D sa μ ν H) (hS : va_S (nwA s.heap.size) s.heap H locs)
    (kk : ∀ (H : Heap) (locs : List Loc) (μ ν : Mem) (ls : Array Slot) (st : Unit), lv_has ls 4 [(3, .int (nI i)), (2, .ref (base + 804)), (1, .ref base), (0, .ref b)] → LWd RR base s.heap.size cA D sa μ ν H → va_S (nwA s.heap.size) s.heap H locs → W p l e room_1 s m #[Value.ref b] below meth c H locs k1 n1 Q (F0 m 1178 ls [])) : W p l e room_1 s m #[Value.ref b] below meth c H locs k1 n1 Q (F0 m 672 ls []) := by
  obtain ⟨hx, hb, hr, hml, hown, hts0, hX, hbl, hlocks, hgv⟩ := C0
  have hts : ∀ w ∈ gtb, w.before #[Value.ref b] s = true := fun w hw => hts0 w (List.mem_filter.mp hw).1
  obtain ⟨hPC, hPR, hmC, hmR, hrel, hs0, hz⟩ := hW
  have hnw := nwA_no (n := s.heap.size)
  obtain ⟨r, μ1, ν1, hfc, hfr, hrel1⟩ := hsim μ ν (xs (i + 1)).toInt (xs (i + 2)).toInt (xs (i + 3)).toInt (xs (i + 4)).toInt (i32_in _) (i32_in _) (i32_in _) (i32_in _) hrel
  refine lv_aload_n hx hb dl_672 rfl (lv_at hl 2 rfl) ?_
  refine lv_aload_n hx hb dl_673 rfl (lv_at hl 3 rfl) ?_
  refine lv_iload_n hx hb dl_674 rfl (lv_at hl 0 rfl) ?_
  refine lv_iconst (v := nI 1) hx hb dl_675 (by decide +kernel) ?_
  refine lv_iadd hx hb dl_676 ?_
  rw [nI_addk]
  refine va_sld hx hb hX hbl (hnw b hbl) hS (vp_in_nI (N := L) (by omega) (by omega)) dl_677 ?_
  rw [nI_clamp (show i + 1 < 2 ^ 31 by omega)]
  refine lv_aload_n hx hb dl_678 rfl (lv_at hl 3 rfl) ?_
  refine lv_iload_n hx hb dl_679 rfl (lv_at hl 0 rfl) ?_
  refine lv_iconst (v := nI 2) hx hb dl_680 (by decide +kernel) ?_
  refine lv_iadd hx hb dl_681 ?_
  rw [nI_addk]
  refine va_sld hx hb hX hbl (hnw b hbl) hS (vp_in_nI (N := L) (by omega) (by omega)) dl_682 ?_
  rw [nI_clamp (show i + 2 < 2 ^ 31 by omega)]
  refine lv_aload_n hx hb dl_683 rfl (lv_at hl 3 rfl) ?_
  refine lv_iload_n hx hb dl_684 rfl (lv_at hl 0 rfl) ?_
  refine lv_iconst (v := nI 3) hx hb dl_685 (by decide +kernel) ?_
  refine lv_iadd hx hb dl_686 ?_
  rw [nI_addk]
  refine va_sld hx hb hX hbl (hnw b hbl) hS (vp_in_nI (N := L) (by omega) (by omega)) dl_687 ?_
  rw [nI_clamp (show i + 3 < 2 ^ 31 by omega)]
  refine lv_aload_n hx hb dl_688 rfl (lv_at hl 3 rfl) ?_
  refine lv_iload_n hx hb dl_689 rfl (lv_at hl 0 rfl) ?_
  refine lv_iconst (v := nI 4) hx hb dl_690 (by decide +kernel) ?_
  refine lv_iadd hx hb dl_691 ?_
  rw [nI_addk]
  refine va_sld hx hb hX hbl (hnw b hbl) hS (vp_in_nI (N := L) (by omega) (by omega)) dl_692 ?_
  rw [nI_clamp (show i + 4 < 2 ^ 31 by omega)]
  refine law_call (L := loC) (G := (base, cA, D, sa)) (A := nwA s.heap.size) (ci := 11) (c0 := 0) (n := 4) (idx := 92) (C := RX11) (T := TX11) (NF := 11) (y := yX11_seek) (As := [vI (xs (i + 1)).toInt, vI (xs (i + 2)).toInt, vI (xs (i + 3)).toInt, vI (xs (i + 4)).toInt]) (rest := []) (r0 := (some (vI r), μ1)) dl_693 gg_X11_seek rfl (by decide) yw_X11_seek (all5 wl_972 wl_973 wl_974 w_100 wl_975) rfl rfl ⟨by decide, by decide⟩ hx hb hml hown hts hK hZC hl.1 (fa1 okC0 (fa1 (i32_in _) (fa1 (i32_in _) (fa1 (i32_in _) (fa1 (i32_in _) (fa0)))))) rfl hPC hmC hS (ArC_new hs0) hnw (by simp only [List.map_cons, List.map_nil, cv, q32_of]; rfl) (Nat.le_of_ble_eq_true rfl) hk hn hfc (fun H1 locs1 hm1 hP1 hz1 hq1 hS1 => ?_)
  replace hPR := pic_keptR hPR hz hq1
  clear hPC hmC hS
  rename va_S (nwA s.heap.size) s.heap H1 locs1 => hS
  rename okM loC μ1 => hmC
  rename va_P _ _ (pic loC _ μ1) H1 => hPC
  have hz2 : base + 858 ≤ H1.size := Nat.le_trans hz hz1
  clear hz1 hq1 hz
  rename base + 858 ≤ H1.size => hz
  refine lv_aload_n hx hb dl_696 rfl (lv_at hl 1 rfl) ?_
  refine lv_aload_n hx hb dl_697 rfl (lv_at hl 3 rfl) ?_
  refine lv_iload_n hx hb dl_698 rfl (lv_at hl 0 rfl) ?_
  refine lv_iconst (v := nI 1) hx hb dl_699 (by decide +kernel) ?_
  refine lv_iadd hx hb dl_700 ?_
  rw [nI_addk]
  refine va_sld hx hb hX hbl (hnw b hbl) hS (vp_in_nI (N := L) (by omega) (by omega)) dl_701 ?_
  rw [nI_clamp (show i + 1 < 2 ^ 31 by omega)]
  refine lv_aload_n hx hb dl_702 rfl (lv_at hl 3 rfl) ?_
  refine lv_iload_n hx hb dl_703 rfl (lv_at hl 0 rfl) ?_
  refine lv_iconst (v := nI 2) hx hb dl_704 (by decide +kernel) ?_
  refine lv_iadd hx hb dl_705 ?_
  rw [nI_addk]
  refine va_sld hx hb hX hbl (hnw b hbl) hS (vp_in_nI (N := L) (by omega) (by omega)) dl_706 ?_
  rw [nI_clamp (show i + 2 < 2 ^ 31 by omega)]
  refine lv_aload_n hx hb dl_707 rfl (lv_at hl 3 rfl) ?_
  refine lv_iload_n hx hb dl_708 rfl (lv_at hl 0 rfl) ?_
  refine lv_iconst (v := nI 3) hx hb dl_709 (by decide +kernel) ?_
  refine lv_iadd hx hb dl_710 ?_
  rw [nI_addk]
  refine va_sld hx hb hX hbl (hnw b hbl) hS (vp_in_nI (N := L) (by omega) (by omega)) dl_711 ?_
  rw [nI_clamp (show i + 3 < 2 ^ 31 by omega)]
  refine lv_aload_n hx hb dl_712 rfl (lv_at hl 3 rfl) ?_
  refine lv_iload_n hx hb dl_713 rfl (lv_at hl 0 rfl) ?_
  refine lv_iconst (v := nI 4) hx hb dl_714 (by decide +kernel) ?_
  refine lv_iadd hx hb dl_715 ?_
  rw [nI_addk]
  refine va_sld hx hb hX hbl (hnw b hbl) hS (vp_in_nI (N := L) (by omega) (by omega)) dl_716 ?_
  rw [nI_clamp (show i + 4 < 2 ^ 31 by omega)]
  refine law_call (L := loR) (G := (base + 804, cA, D, sa)) (A := nwA s.heap.size) (ci := 12) (c0 := 0) (n := 4) (idx := 96) (C := RX12) (T := TX12) (NF := 83) (y := yX12_seek) (As := [vI (xs (i + 1)).toInt, vI (xs (i + 2)).toInt, vI (xs (i + 3)).toInt, vI (xs (i + 4)).toInt]) (rest := [.int (q32 r)]) (r0 := (some (vI r), ν1)) dl_717 gg_X12_seek rfl (by decide) yw_X12_seek (all5 wl_1715 wl_1716 wl_1717 w_113 wl_1718) rfl rfl ⟨by decide, by decide⟩ hx hb hml hown hts hK hZR hl.1 (fa1 okR0 (fa1 (i32_in _) (fa1 (i32_in _) (fa1 (i32_in _) (fa1 (i32_in _) (fa0)))))) rfl hPR hmR hS (ArR_new hs0) hnw (by simp only [List.map_cons, List.map_nil, cv, q32_of]; rfl) (Nat.le_of_ble_eq_true rfl) hk hn hfr (fun H1 locs1 hm1 hP1 hz1 hq1 hS1 => ?_)
  replace hPC := pic_keptC hPC hz hq1
  refine lv_icmp_eq (tgt := 1178) hx hb dl_720 (by decide) (fun _ => ?_) (fun q => absurd rfl q)
  exact kk _ _ μ1 ν1 _ () hl ⟨hPC, hP1, hmC, hm1, hrel1, hs0, Nat.le_trans hz hz1⟩ hS1
set_option maxHeartbeats 4000000 in
set_option maxRecDepth 100000 in
theorem law_take {p : Program} {e : Env} {s : State} {m : MethodId} {below : List Frame} {meth : Method} {c : Code} {l : Launch} {b L : Nat} {xs : Nat → Int32} (C0 : lw_At p s m meth c b L xs) {RR : Mem → Mem → Prop} {base : Nat} {cA : Nat → ClassId} {D : va_G} {sa : Nat → Nat} (hK : va_K D vwCl (tysL (base, cA, D, sa)) s) (hZC : SZ loC (base, cA, D, sa) s) (hZR : SZ loR (base + 804, cA, D, sa) s) {k1 n1 : Nat} (hk : k1 ≤ room_1.cells) (hn : n1 ≤ room_1.slots) {Q : State → Prop} {i : Nat} (hi : i + 6 ≤ L) (hL : L ≤ 3072) (hsim : ∀ (μ ν : Mem) (x1 x2 x3 : Int), in32 x1 → in32 x2 → in32 x3 → RR μ ν → Sm RR f_X11_take f_X12_take [vI x1, vI x2, vI x3] μ ν) {μ ν : Mem} {H : Heap} {locs : List Loc} {ls : Array Slot} (hl : lv_has ls 4 [(3, .int (nI i)), (2, .ref (base + 804)), (1, .ref base), (0, .ref b)]) (hW : LWd RR base s.heap.size cA D sa μ ν H) (hS : va_S (nwA s.heap.size) s.heap H locs)
    (kk : ∀ (H : Heap) (locs : List Loc) (μ ν : Mem) (ls : Array Slot) (st : Unit), lv_has ls 4 [(3, .int (nI i)), (2, .ref (base + 804)), (1, .ref base), (0, .ref b)] → LWd RR base s.heap.size cA D sa μ ν H → va_S (nwA s.heap.size) s.heap H locs → W p l e room_1 s m #[Value.ref b] below meth c H locs k1 n1 Q (F0 m 1178 ls [])) : W p l e room_1 s m #[Value.ref b] below meth c H locs k1 n1 Q (F0 m 725 ls []) := by
  obtain ⟨hx, hb, hr, hml, hown, hts0, hX, hbl, hlocks, hgv⟩ := C0
  have hts : ∀ w ∈ gtb, w.before #[Value.ref b] s = true := fun w hw => hts0 w (List.mem_filter.mp hw).1
  obtain ⟨hPC, hPR, hmC, hmR, hrel, hs0, hz⟩ := hW
  have hnw := nwA_no (n := s.heap.size)
  obtain ⟨r, μ1, ν1, hfc, hfr, hrel1⟩ := hsim μ ν (xs (i + 1)).toInt (xs (i + 2)).toInt (xs (i + 3)).toInt (i32_in _) (i32_in _) (i32_in _) hrel
  refine lv_aload_n hx hb dl_725 rfl (lv_at hl 2 rfl) ?_
  refine lv_aload_n hx hb dl_726 rfl (lv_at hl 3 rfl) ?_
  refine lv_iload_n hx hb dl_727 rfl (lv_at hl 0 rfl) ?_
  refine lv_iconst (v := nI 1) hx hb dl_728 (by decide +kernel) ?_
  refine lv_iadd hx hb dl_729 ?_
  rw [nI_addk]
  refine va_sld hx hb hX hbl (hnw b hbl) hS (vp_in_nI (N := L) (by omega) (by omega)) dl_730 ?_
  rw [nI_clamp (show i + 1 < 2 ^ 31 by omega)]
  refine lv_aload_n hx hb dl_731 rfl (lv_at hl 3 rfl) ?_
  refine lv_iload_n hx hb dl_732 rfl (lv_at hl 0 rfl) ?_
  refine lv_iconst (v := nI 2) hx hb dl_733 (by decide +kernel) ?_
  refine lv_iadd hx hb dl_734 ?_
  rw [nI_addk]
  refine va_sld hx hb hX hbl (hnw b hbl) hS (vp_in_nI (N := L) (by omega) (by omega)) dl_735 ?_
  rw [nI_clamp (show i + 2 < 2 ^ 31 by omega)]
  refine lv_aload_n hx hb dl_736 rfl (lv_at hl 3 rfl) ?_
  refine lv_iload_n hx hb dl_737 rfl (lv_at hl 0 rfl) ?_
  refine lv_iconst (v := nI 3) hx hb dl_738 (by decide +kernel) ?_
  refine lv_iadd hx hb dl_739 ?_
  rw [nI_addk]
  refine va_sld hx hb hX hbl (hnw b hbl) hS (vp_in_nI (N := L) (by omega) (by omega)) dl_740 ?_
  rw [nI_clamp (show i + 3 < 2 ^ 31 by omega)]
  refine law_call (L := loC) (G := (base, cA, D, sa)) (A := nwA s.heap.size) (ci := 11) (c0 := 0) (n := 3) (idx := 97) (C := RX11) (T := TX11) (NF := 11) (y := yX11_take) (As := [vI (xs (i + 1)).toInt, vI (xs (i + 2)).toInt, vI (xs (i + 3)).toInt]) (rest := []) (r0 := (some (vI r), μ1)) dl_741 gg_X11_take rfl (by decide) yw_X11_take (all5 wl_1009 wl_1010 wl_1011 w_100 wl_1012) rfl rfl ⟨by decide, by decide⟩ hx hb hml hown hts hK hZC hl.1 (fa1 okC0 (fa1 (i32_in _) (fa1 (i32_in _) (fa1 (i32_in _) (fa0))))) rfl hPC hmC hS (ArC_new hs0) hnw (by simp only [List.map_cons, List.map_nil, cv, q32_of]; rfl) (Nat.le_of_ble_eq_true rfl) hk hn hfc (fun H1 locs1 hm1 hP1 hz1 hq1 hS1 => ?_)
  replace hPR := pic_keptR hPR hz hq1
  clear hPC hmC hS
  rename va_S (nwA s.heap.size) s.heap H1 locs1 => hS
  rename okM loC μ1 => hmC
  rename va_P _ _ (pic loC _ μ1) H1 => hPC
  have hz2 : base + 858 ≤ H1.size := Nat.le_trans hz hz1
  clear hz1 hq1 hz
  rename base + 858 ≤ H1.size => hz
  refine lv_aload_n hx hb dl_744 rfl (lv_at hl 1 rfl) ?_
  refine lv_aload_n hx hb dl_745 rfl (lv_at hl 3 rfl) ?_
  refine lv_iload_n hx hb dl_746 rfl (lv_at hl 0 rfl) ?_
  refine lv_iconst (v := nI 1) hx hb dl_747 (by decide +kernel) ?_
  refine lv_iadd hx hb dl_748 ?_
  rw [nI_addk]
  refine va_sld hx hb hX hbl (hnw b hbl) hS (vp_in_nI (N := L) (by omega) (by omega)) dl_749 ?_
  rw [nI_clamp (show i + 1 < 2 ^ 31 by omega)]
  refine lv_aload_n hx hb dl_750 rfl (lv_at hl 3 rfl) ?_
  refine lv_iload_n hx hb dl_751 rfl (lv_at hl 0 rfl) ?_
  refine lv_iconst (v := nI 2) hx hb dl_752 (by decide +kernel) ?_
  refine lv_iadd hx hb dl_753 ?_
  rw [nI_addk]
  refine va_sld hx hb hX hbl (hnw b hbl) hS (vp_in_nI (N := L) (by omega) (by omega)) dl_754 ?_
  rw [nI_clamp (show i + 2 < 2 ^ 31 by omega)]
  refine lv_aload_n hx hb dl_755 rfl (lv_at hl 3 rfl) ?_
  refine lv_iload_n hx hb dl_756 rfl (lv_at hl 0 rfl) ?_
  refine lv_iconst (v := nI 3) hx hb dl_757 (by decide +kernel) ?_
  refine lv_iadd hx hb dl_758 ?_
  rw [nI_addk]
  refine va_sld hx hb hX hbl (hnw b hbl) hS (vp_in_nI (N := L) (by omega) (by omega)) dl_759 ?_
  rw [nI_clamp (show i + 3 < 2 ^ 31 by omega)]
  refine law_call (L := loR) (G := (base + 804, cA, D, sa)) (A := nwA s.heap.size) (ci := 12) (c0 := 0) (n := 3) (idx := 100) (C := RX12) (T := TX12) (NF := 83) (y := yX12_take) (As := [vI (xs (i + 1)).toInt, vI (xs (i + 2)).toInt, vI (xs (i + 3)).toInt]) (rest := [.int (q32 r)]) (r0 := (some (vI r), ν1)) dl_760 gg_X12_take rfl (by decide) yw_X12_take (all5 wl_1744 wl_1745 wl_1746 w_113 wl_1747) rfl rfl ⟨by decide, by decide⟩ hx hb hml hown hts hK hZR hl.1 (fa1 okR0 (fa1 (i32_in _) (fa1 (i32_in _) (fa1 (i32_in _) (fa0))))) rfl hPR hmR hS (ArR_new hs0) hnw (by simp only [List.map_cons, List.map_nil, cv, q32_of]; rfl) (Nat.le_of_ble_eq_true rfl) hk hn hfr (fun H1 locs1 hm1 hP1 hz1 hq1 hS1 => ?_)
  replace hPC := pic_keptC hPC hz hq1
  refine lv_icmp_eq (tgt := 1178) hx hb dl_763 (by decide) (fun _ => ?_) (fun q => absurd rfl q)
  exact kk _ _ μ1 ν1 _ () hl ⟨hPC, hP1, hmC, hm1, hrel1, hs0, Nat.le_trans hz hz1⟩ hS1
set_option maxHeartbeats 4000000 in
set_option maxRecDepth 100000 in
theorem law_holds {p : Program} {e : Env} {s : State} {m : MethodId} {below : List Frame} {meth : Method} {c : Code} {l : Launch} {b L : Nat} {xs : Nat → Int32} (C0 : lw_At p s m meth c b L xs) {RR : Mem → Mem → Prop} {base : Nat} {cA : Nat → ClassId} {D : va_G} {sa : Nat → Nat} (hK : va_K D vwCl (tysL (base, cA, D, sa)) s) (hZC : SZ loC (base, cA, D, sa) s) (hZR : SZ loR (base + 804, cA, D, sa) s) {k1 n1 : Nat} (hk : k1 ≤ room_1.cells) (hn : n1 ≤ room_1.slots) {Q : State → Prop} {i : Nat} (hi : i + 6 ≤ L) (hL : L ≤ 3072) (hsim : ∀ (μ ν : Mem) (x1 x2 x3 : Int), in32 x1 → in32 x2 → in32 x3 → RR μ ν → Sm RR f_X11_holds f_X12_holds [vI x1, vI x2, vI x3] μ ν) {μ ν : Mem} {H : Heap} {locs : List Loc} {ls : Array Slot} (hl : lv_has ls 4 [(3, .int (nI i)), (2, .ref (base + 804)), (1, .ref base), (0, .ref b)]) (hW : LWd RR base s.heap.size cA D sa μ ν H) (hS : va_S (nwA s.heap.size) s.heap H locs)
    (kk : ∀ (H : Heap) (locs : List Loc) (μ ν : Mem) (ls : Array Slot) (st : Unit), lv_has ls 4 [(3, .int (nI i)), (2, .ref (base + 804)), (1, .ref base), (0, .ref b)] → LWd RR base s.heap.size cA D sa μ ν H → va_S (nwA s.heap.size) s.heap H locs → W p l e room_1 s m #[Value.ref b] below meth c H locs k1 n1 Q (F0 m 1178 ls [])) : W p l e room_1 s m #[Value.ref b] below meth c H locs k1 n1 Q (F0 m 768 ls []) := by
  obtain ⟨hx, hb, hr, hml, hown, hts0, hX, hbl, hlocks, hgv⟩ := C0
  have hts : ∀ w ∈ gtb, w.before #[Value.ref b] s = true := fun w hw => hts0 w (List.mem_filter.mp hw).1
  obtain ⟨hPC, hPR, hmC, hmR, hrel, hs0, hz⟩ := hW
  have hnw := nwA_no (n := s.heap.size)
  obtain ⟨r, μ1, ν1, hfc, hfr, hrel1⟩ := hsim μ ν (xs (i + 1)).toInt (xs (i + 2)).toInt (xs (i + 3)).toInt (i32_in _) (i32_in _) (i32_in _) hrel
  refine lv_aload_n hx hb dl_768 rfl (lv_at hl 2 rfl) ?_
  refine lv_aload_n hx hb dl_769 rfl (lv_at hl 3 rfl) ?_
  refine lv_iload_n hx hb dl_770 rfl (lv_at hl 0 rfl) ?_
  refine lv_iconst (v := nI 1) hx hb dl_771 (by decide +kernel) ?_
  refine lv_iadd hx hb dl_772 ?_
  rw [nI_addk]
  refine va_sld hx hb hX hbl (hnw b hbl) hS (vp_in_nI (N := L) (by omega) (by omega)) dl_773 ?_
  rw [nI_clamp (show i + 1 < 2 ^ 31 by omega)]
  refine lv_aload_n hx hb dl_774 rfl (lv_at hl 3 rfl) ?_
  refine lv_iload_n hx hb dl_775 rfl (lv_at hl 0 rfl) ?_
  refine lv_iconst (v := nI 2) hx hb dl_776 (by decide +kernel) ?_
  refine lv_iadd hx hb dl_777 ?_
  rw [nI_addk]
  refine va_sld hx hb hX hbl (hnw b hbl) hS (vp_in_nI (N := L) (by omega) (by omega)) dl_778 ?_
  rw [nI_clamp (show i + 2 < 2 ^ 31 by omega)]
  refine lv_aload_n hx hb dl_779 rfl (lv_at hl 3 rfl) ?_
  refine lv_iload_n hx hb dl_780 rfl (lv_at hl 0 rfl) ?_
  refine lv_iconst (v := nI 3) hx hb dl_781 (by decide +kernel) ?_
  refine lv_iadd hx hb dl_782 ?_
  rw [nI_addk]
  refine va_sld hx hb hX hbl (hnw b hbl) hS (vp_in_nI (N := L) (by omega) (by omega)) dl_783 ?_
  rw [nI_clamp (show i + 3 < 2 ^ 31 by omega)]
  refine law_call (L := loC) (G := (base, cA, D, sa)) (A := nwA s.heap.size) (ci := 11) (c0 := 0) (n := 3) (idx := 101) (C := RX11) (T := TX11) (NF := 11) (y := yX11_holds) (As := [vI (xs (i + 1)).toInt, vI (xs (i + 2)).toInt, vI (xs (i + 3)).toInt]) (rest := []) (r0 := (some (vI r), μ1)) dl_784 gg_X11_holds rfl (by decide) yw_X11_holds (all5 wl_1019 wl_1020 wl_1021 w_100 wl_1022) rfl rfl ⟨by decide, by decide⟩ hx hb hml hown hts hK hZC hl.1 (fa1 okC0 (fa1 (i32_in _) (fa1 (i32_in _) (fa1 (i32_in _) (fa0))))) rfl hPC hmC hS (ArC_new hs0) hnw (by simp only [List.map_cons, List.map_nil, cv, q32_of]; rfl) (Nat.le_of_ble_eq_true rfl) hk hn hfc (fun H1 locs1 hm1 hP1 hz1 hq1 hS1 => ?_)
  replace hPR := pic_keptR hPR hz hq1
  clear hPC hmC hS
  rename va_S (nwA s.heap.size) s.heap H1 locs1 => hS
  rename okM loC μ1 => hmC
  rename va_P _ _ (pic loC _ μ1) H1 => hPC
  have hz2 : base + 858 ≤ H1.size := Nat.le_trans hz hz1
  clear hz1 hq1 hz
  rename base + 858 ≤ H1.size => hz
  refine lv_aload_n hx hb dl_787 rfl (lv_at hl 1 rfl) ?_
  refine lv_aload_n hx hb dl_788 rfl (lv_at hl 3 rfl) ?_
  refine lv_iload_n hx hb dl_789 rfl (lv_at hl 0 rfl) ?_
  refine lv_iconst (v := nI 1) hx hb dl_790 (by decide +kernel) ?_
  refine lv_iadd hx hb dl_791 ?_
  rw [nI_addk]
  refine va_sld hx hb hX hbl (hnw b hbl) hS (vp_in_nI (N := L) (by omega) (by omega)) dl_792 ?_
  rw [nI_clamp (show i + 1 < 2 ^ 31 by omega)]
  refine lv_aload_n hx hb dl_793 rfl (lv_at hl 3 rfl) ?_
  refine lv_iload_n hx hb dl_794 rfl (lv_at hl 0 rfl) ?_
  refine lv_iconst (v := nI 2) hx hb dl_795 (by decide +kernel) ?_
  refine lv_iadd hx hb dl_796 ?_
  rw [nI_addk]
  refine va_sld hx hb hX hbl (hnw b hbl) hS (vp_in_nI (N := L) (by omega) (by omega)) dl_797 ?_
  rw [nI_clamp (show i + 2 < 2 ^ 31 by omega)]
  refine lv_aload_n hx hb dl_798 rfl (lv_at hl 3 rfl) ?_
  refine lv_iload_n hx hb dl_799 rfl (lv_at hl 0 rfl) ?_
  refine lv_iconst (v := nI 3) hx hb dl_800 (by decide +kernel) ?_
  refine lv_iadd hx hb dl_801 ?_
  rw [nI_addk]
  refine va_sld hx hb hX hbl (hnw b hbl) hS (vp_in_nI (N := L) (by omega) (by omega)) dl_802 ?_
  rw [nI_clamp (show i + 3 < 2 ^ 31 by omega)]
  refine law_call (L := loR) (G := (base + 804, cA, D, sa)) (A := nwA s.heap.size) (ci := 12) (c0 := 0) (n := 3) (idx := 104) (C := RX12) (T := TX12) (NF := 83) (y := yX12_holds) (As := [vI (xs (i + 1)).toInt, vI (xs (i + 2)).toInt, vI (xs (i + 3)).toInt]) (rest := [.int (q32 r)]) (r0 := (some (vI r), ν1)) dl_803 gg_X12_holds rfl (by decide) yw_X12_holds (all5 wl_1748 wl_1749 wl_1750 w_113 wl_1751) rfl rfl ⟨by decide, by decide⟩ hx hb hml hown hts hK hZR hl.1 (fa1 okR0 (fa1 (i32_in _) (fa1 (i32_in _) (fa1 (i32_in _) (fa0))))) rfl hPR hmR hS (ArR_new hs0) hnw (by simp only [List.map_cons, List.map_nil, cv, q32_of]; rfl) (Nat.le_of_ble_eq_true rfl) hk hn hfr (fun H1 locs1 hm1 hP1 hz1 hq1 hS1 => ?_)
  replace hPC := pic_keptC hPC hz hq1
  refine lv_icmp_eq (tgt := 1178) hx hb dl_806 (by decide) (fun _ => ?_) (fun q => absurd rfl q)
  exact kk _ _ μ1 ν1 _ () hl ⟨hPC, hP1, hmC, hm1, hrel1, hs0, Nat.le_trans hz hz1⟩ hS1
set_option maxHeartbeats 4000000 in
set_option maxRecDepth 100000 in
theorem law_worlds {p : Program} {e : Env} {s : State} {m : MethodId} {below : List Frame} {meth : Method} {c : Code} {l : Launch} {b L : Nat} {xs : Nat → Int32} (C0 : lw_At p s m meth c b L xs) {RR : Mem → Mem → Prop} {base : Nat} {cA : Nat → ClassId} {D : va_G} {sa : Nat → Nat} (hK : va_K D vwCl (tysL (base, cA, D, sa)) s) (hZC : SZ loC (base, cA, D, sa) s) (hZR : SZ loR (base + 804, cA, D, sa) s) {k1 n1 : Nat} (hk : k1 ≤ room_1.cells) (hn : n1 ≤ room_1.slots) {Q : State → Prop} {i : Nat} (hi : i + 6 ≤ L) (hL : L ≤ 3072) (hsim : ∀ (μ ν : Mem) (x1 x2 : Int), in32 x1 → in32 x2 → RR μ ν → Sm RR f_X11_worlds f_X12_worlds [vI x1, vI x2] μ ν) {μ ν : Mem} {H : Heap} {locs : List Loc} {ls : Array Slot} (hl : lv_has ls 4 [(3, .int (nI i)), (2, .ref (base + 804)), (1, .ref base), (0, .ref b)]) (hW : LWd RR base s.heap.size cA D sa μ ν H) (hS : va_S (nwA s.heap.size) s.heap H locs)
    (kk : ∀ (H : Heap) (locs : List Loc) (μ ν : Mem) (ls : Array Slot) (st : Unit), lv_has ls 4 [(3, .int (nI i)), (2, .ref (base + 804)), (1, .ref base), (0, .ref b)] → LWd RR base s.heap.size cA D sa μ ν H → va_S (nwA s.heap.size) s.heap H locs → W p l e room_1 s m #[Value.ref b] below meth c H locs k1 n1 Q (F0 m 1178 ls [])) : W p l e room_1 s m #[Value.ref b] below meth c H locs k1 n1 Q (F0 m 811 ls []) := by
  obtain ⟨hx, hb, hr, hml, hown, hts0, hX, hbl, hlocks, hgv⟩ := C0
  have hts : ∀ w ∈ gtb, w.before #[Value.ref b] s = true := fun w hw => hts0 w (List.mem_filter.mp hw).1
  obtain ⟨hPC, hPR, hmC, hmR, hrel, hs0, hz⟩ := hW
  have hnw := nwA_no (n := s.heap.size)
  obtain ⟨r, μ1, ν1, hfc, hfr, hrel1⟩ := hsim μ ν (xs (i + 1)).toInt (xs (i + 2)).toInt (i32_in _) (i32_in _) hrel
  refine lv_aload_n hx hb dl_811 rfl (lv_at hl 2 rfl) ?_
  refine lv_aload_n hx hb dl_812 rfl (lv_at hl 3 rfl) ?_
  refine lv_iload_n hx hb dl_813 rfl (lv_at hl 0 rfl) ?_
  refine lv_iconst (v := nI 1) hx hb dl_814 (by decide +kernel) ?_
  refine lv_iadd hx hb dl_815 ?_
  rw [nI_addk]
  refine va_sld hx hb hX hbl (hnw b hbl) hS (vp_in_nI (N := L) (by omega) (by omega)) dl_816 ?_
  rw [nI_clamp (show i + 1 < 2 ^ 31 by omega)]
  refine lv_aload_n hx hb dl_817 rfl (lv_at hl 3 rfl) ?_
  refine lv_iload_n hx hb dl_818 rfl (lv_at hl 0 rfl) ?_
  refine lv_iconst (v := nI 2) hx hb dl_819 (by decide +kernel) ?_
  refine lv_iadd hx hb dl_820 ?_
  rw [nI_addk]
  refine va_sld hx hb hX hbl (hnw b hbl) hS (vp_in_nI (N := L) (by omega) (by omega)) dl_821 ?_
  rw [nI_clamp (show i + 2 < 2 ^ 31 by omega)]
  refine law_call (L := loC) (G := (base, cA, D, sa)) (A := nwA s.heap.size) (ci := 11) (c0 := 0) (n := 2) (idx := 105) (C := RX11) (T := TX11) (NF := 11) (y := yX11_worlds) (As := [vI (xs (i + 1)).toInt, vI (xs (i + 2)).toInt]) (rest := []) (r0 := (some (vI r), μ1)) dl_822 gg_X11_worlds rfl (by decide) yw_X11_worlds (all5 wl_1059 wl_1060 wl_1061 w_100 wl_1062) rfl rfl ⟨by decide, by decide⟩ hx hb hml hown hts hK hZC hl.1 (fa1 okC0 (fa1 (i32_in _) (fa1 (i32_in _) (fa0)))) rfl hPC hmC hS (ArC_new hs0) hnw (by simp only [List.map_cons, List.map_nil, cv, q32_of]; rfl) (Nat.le_of_ble_eq_true rfl) hk hn hfc (fun H1 locs1 hm1 hP1 hz1 hq1 hS1 => ?_)
  replace hPR := pic_keptR hPR hz hq1
  clear hPC hmC hS
  rename va_S (nwA s.heap.size) s.heap H1 locs1 => hS
  rename okM loC μ1 => hmC
  rename va_P _ _ (pic loC _ μ1) H1 => hPC
  have hz2 : base + 858 ≤ H1.size := Nat.le_trans hz hz1
  clear hz1 hq1 hz
  rename base + 858 ≤ H1.size => hz
  refine lv_aload_n hx hb dl_825 rfl (lv_at hl 1 rfl) ?_
  refine lv_aload_n hx hb dl_826 rfl (lv_at hl 3 rfl) ?_
  refine lv_iload_n hx hb dl_827 rfl (lv_at hl 0 rfl) ?_
  refine lv_iconst (v := nI 1) hx hb dl_828 (by decide +kernel) ?_
  refine lv_iadd hx hb dl_829 ?_
  rw [nI_addk]
  refine va_sld hx hb hX hbl (hnw b hbl) hS (vp_in_nI (N := L) (by omega) (by omega)) dl_830 ?_
  rw [nI_clamp (show i + 1 < 2 ^ 31 by omega)]
  refine lv_aload_n hx hb dl_831 rfl (lv_at hl 3 rfl) ?_
  refine lv_iload_n hx hb dl_832 rfl (lv_at hl 0 rfl) ?_
  refine lv_iconst (v := nI 2) hx hb dl_833 (by decide +kernel) ?_
  refine lv_iadd hx hb dl_834 ?_
  rw [nI_addk]
  refine va_sld hx hb hX hbl (hnw b hbl) hS (vp_in_nI (N := L) (by omega) (by omega)) dl_835 ?_
  rw [nI_clamp (show i + 2 < 2 ^ 31 by omega)]
  refine law_call (L := loR) (G := (base + 804, cA, D, sa)) (A := nwA s.heap.size) (ci := 12) (c0 := 0) (n := 2) (idx := 108) (C := RX12) (T := TX12) (NF := 83) (y := yX12_worlds) (As := [vI (xs (i + 1)).toInt, vI (xs (i + 2)).toInt]) (rest := [.int (q32 r)]) (r0 := (some (vI r), ν1)) dl_836 gg_X12_worlds rfl (by decide) yw_X12_worlds (all5 wl_1770 wl_1771 wl_1772 w_113 wl_1773) rfl rfl ⟨by decide, by decide⟩ hx hb hml hown hts hK hZR hl.1 (fa1 okR0 (fa1 (i32_in _) (fa1 (i32_in _) (fa0)))) rfl hPR hmR hS (ArR_new hs0) hnw (by simp only [List.map_cons, List.map_nil, cv, q32_of]; rfl) (Nat.le_of_ble_eq_true rfl) hk hn hfr (fun H1 locs1 hm1 hP1 hz1 hq1 hS1 => ?_)
  replace hPC := pic_keptC hPC hz hq1
  refine lv_icmp_eq (tgt := 1178) hx hb dl_839 (by decide) (fun _ => ?_) (fun q => absurd rfl q)
  exact kk _ _ μ1 ν1 _ () hl ⟨hPC, hP1, hmC, hm1, hrel1, hs0, Nat.le_trans hz hz1⟩ hS1
set_option maxHeartbeats 4000000 in
set_option maxRecDepth 100000 in
theorem law_denied {p : Program} {e : Env} {s : State} {m : MethodId} {below : List Frame} {meth : Method} {c : Code} {l : Launch} {b L : Nat} {xs : Nat → Int32} (C0 : lw_At p s m meth c b L xs) {RR : Mem → Mem → Prop} {base : Nat} {cA : Nat → ClassId} {D : va_G} {sa : Nat → Nat} (hK : va_K D vwCl (tysL (base, cA, D, sa)) s) (hZC : SZ loC (base, cA, D, sa) s) (hZR : SZ loR (base + 804, cA, D, sa) s) {k1 n1 : Nat} (hk : k1 ≤ room_1.cells) (hn : n1 ≤ room_1.slots) {Q : State → Prop} {i : Nat} (hi : i + 6 ≤ L) (hL : L ≤ 3072) (hsim : ∀ (μ ν : Mem) (x1 x2 : Int), in32 x1 → in32 x2 → RR μ ν → Sm RR f_X11_denied f_X12_denied [vI x1, vI x2] μ ν) {μ ν : Mem} {H : Heap} {locs : List Loc} {ls : Array Slot} (hl : lv_has ls 4 [(3, .int (nI i)), (2, .ref (base + 804)), (1, .ref base), (0, .ref b)]) (hW : LWd RR base s.heap.size cA D sa μ ν H) (hS : va_S (nwA s.heap.size) s.heap H locs)
    (kk : ∀ (H : Heap) (locs : List Loc) (μ ν : Mem) (ls : Array Slot) (st : Unit), lv_has ls 4 [(3, .int (nI i)), (2, .ref (base + 804)), (1, .ref base), (0, .ref b)] → LWd RR base s.heap.size cA D sa μ ν H → va_S (nwA s.heap.size) s.heap H locs → W p l e room_1 s m #[Value.ref b] below meth c H locs k1 n1 Q (F0 m 1178 ls [])) : W p l e room_1 s m #[Value.ref b] below meth c H locs k1 n1 Q (F0 m 844 ls []) := by
  obtain ⟨hx, hb, hr, hml, hown, hts0, hX, hbl, hlocks, hgv⟩ := C0
  have hts : ∀ w ∈ gtb, w.before #[Value.ref b] s = true := fun w hw => hts0 w (List.mem_filter.mp hw).1
  obtain ⟨hPC, hPR, hmC, hmR, hrel, hs0, hz⟩ := hW
  have hnw := nwA_no (n := s.heap.size)
  obtain ⟨r, μ1, ν1, hfc, hfr, hrel1⟩ := hsim μ ν (xs (i + 1)).toInt (xs (i + 2)).toInt (i32_in _) (i32_in _) hrel
  refine lv_aload_n hx hb dl_844 rfl (lv_at hl 2 rfl) ?_
  refine lv_aload_n hx hb dl_845 rfl (lv_at hl 3 rfl) ?_
  refine lv_iload_n hx hb dl_846 rfl (lv_at hl 0 rfl) ?_
  refine lv_iconst (v := nI 1) hx hb dl_847 (by decide +kernel) ?_
  refine lv_iadd hx hb dl_848 ?_
  rw [nI_addk]
  refine va_sld hx hb hX hbl (hnw b hbl) hS (vp_in_nI (N := L) (by omega) (by omega)) dl_849 ?_
  rw [nI_clamp (show i + 1 < 2 ^ 31 by omega)]
  refine lv_aload_n hx hb dl_850 rfl (lv_at hl 3 rfl) ?_
  refine lv_iload_n hx hb dl_851 rfl (lv_at hl 0 rfl) ?_
  refine lv_iconst (v := nI 2) hx hb dl_852 (by decide +kernel) ?_
  refine lv_iadd hx hb dl_853 ?_
  rw [nI_addk]
  refine va_sld hx hb hX hbl (hnw b hbl) hS (vp_in_nI (N := L) (by omega) (by omega)) dl_854 ?_
  rw [nI_clamp (show i + 2 < 2 ^ 31 by omega)]
  refine law_call (L := loC) (G := (base, cA, D, sa)) (A := nwA s.heap.size) (ci := 11) (c0 := 0) (n := 2) (idx := 109) (C := RX11) (T := TX11) (NF := 11) (y := yX11_denied) (As := [vI (xs (i + 1)).toInt, vI (xs (i + 2)).toInt]) (rest := []) (r0 := (some (vI r), μ1)) dl_855 gg_X11_denied rfl (by decide) yw_X11_denied (all5 wl_1079 wl_1080 wl_1081 w_100 wl_1082) rfl rfl ⟨by decide, by decide⟩ hx hb hml hown hts hK hZC hl.1 (fa1 okC0 (fa1 (i32_in _) (fa1 (i32_in _) (fa0)))) rfl hPC hmC hS (ArC_new hs0) hnw (by simp only [List.map_cons, List.map_nil, cv, q32_of]; rfl) (Nat.le_of_ble_eq_true rfl) hk hn hfc (fun H1 locs1 hm1 hP1 hz1 hq1 hS1 => ?_)
  replace hPR := pic_keptR hPR hz hq1
  clear hPC hmC hS
  rename va_S (nwA s.heap.size) s.heap H1 locs1 => hS
  rename okM loC μ1 => hmC
  rename va_P _ _ (pic loC _ μ1) H1 => hPC
  have hz2 : base + 858 ≤ H1.size := Nat.le_trans hz hz1
  clear hz1 hq1 hz
  rename base + 858 ≤ H1.size => hz
  refine lv_aload_n hx hb dl_858 rfl (lv_at hl 1 rfl) ?_
  refine lv_aload_n hx hb dl_859 rfl (lv_at hl 3 rfl) ?_
  refine lv_iload_n hx hb dl_860 rfl (lv_at hl 0 rfl) ?_
  refine lv_iconst (v := nI 1) hx hb dl_861 (by decide +kernel) ?_
  refine lv_iadd hx hb dl_862 ?_
  rw [nI_addk]
  refine va_sld hx hb hX hbl (hnw b hbl) hS (vp_in_nI (N := L) (by omega) (by omega)) dl_863 ?_
  rw [nI_clamp (show i + 1 < 2 ^ 31 by omega)]
  refine lv_aload_n hx hb dl_864 rfl (lv_at hl 3 rfl) ?_
  refine lv_iload_n hx hb dl_865 rfl (lv_at hl 0 rfl) ?_
  refine lv_iconst (v := nI 2) hx hb dl_866 (by decide +kernel) ?_
  refine lv_iadd hx hb dl_867 ?_
  rw [nI_addk]
  refine va_sld hx hb hX hbl (hnw b hbl) hS (vp_in_nI (N := L) (by omega) (by omega)) dl_868 ?_
  rw [nI_clamp (show i + 2 < 2 ^ 31 by omega)]
  refine law_call (L := loR) (G := (base + 804, cA, D, sa)) (A := nwA s.heap.size) (ci := 12) (c0 := 0) (n := 2) (idx := 112) (C := RX12) (T := TX12) (NF := 83) (y := yX12_denied) (As := [vI (xs (i + 1)).toInt, vI (xs (i + 2)).toInt]) (rest := [.int (q32 r)]) (r0 := (some (vI r), ν1)) dl_869 gg_X12_denied rfl (by decide) yw_X12_denied (all5 wl_1786 wl_1787 wl_1788 w_113 wl_1789) rfl rfl ⟨by decide, by decide⟩ hx hb hml hown hts hK hZR hl.1 (fa1 okR0 (fa1 (i32_in _) (fa1 (i32_in _) (fa0)))) rfl hPR hmR hS (ArR_new hs0) hnw (by simp only [List.map_cons, List.map_nil, cv, q32_of]; rfl) (Nat.le_of_ble_eq_true rfl) hk hn hfr (fun H1 locs1 hm1 hP1 hz1 hq1 hS1 => ?_)
  replace hPC := pic_keptC hPC hz hq1
  refine lv_icmp_eq (tgt := 1178) hx hb dl_872 (by decide) (fun _ => ?_) (fun q => absurd rfl q)
  exact kk _ _ μ1 ν1 _ () hl ⟨hPC, hP1, hmC, hm1, hrel1, hs0, Nat.le_trans hz hz1⟩ hS1
set_option maxHeartbeats 4000000 in
set_option maxRecDepth 100000 in
theorem law_like {p : Program} {e : Env} {s : State} {m : MethodId} {below : List Frame} {meth : Method} {c : Code} {l : Launch} {b L : Nat} {xs : Nat → Int32} (C0 : lw_At p s m meth c b L xs) {RR : Mem → Mem → Prop} {base : Nat} {cA : Nat → ClassId} {D : va_G} {sa : Nat → Nat} (hK : va_K D vwCl (tysL (base, cA, D, sa)) s) (hZC : SZ loC (base, cA, D, sa) s) (hZR : SZ loR (base + 804, cA, D, sa) s) {k1 n1 : Nat} (hk : k1 ≤ room_1.cells) (hn : n1 ≤ room_1.slots) {Q : State → Prop} {i : Nat} (hi : i + 6 ≤ L) (hL : L ≤ 3072) (hsim : ∀ (μ ν : Mem) (x1 x2 x3 : Int), in32 x1 → in32 x2 → in32 x3 → RR μ ν → Sm RR f_X11_like f_X12_like [vI x1, vI x2, vI x3] μ ν) {μ ν : Mem} {H : Heap} {locs : List Loc} {ls : Array Slot} (hl : lv_has ls 4 [(3, .int (nI i)), (2, .ref (base + 804)), (1, .ref base), (0, .ref b)]) (hW : LWd RR base s.heap.size cA D sa μ ν H) (hS : va_S (nwA s.heap.size) s.heap H locs)
    (kk : ∀ (H : Heap) (locs : List Loc) (μ ν : Mem) (ls : Array Slot) (st : Unit), lv_has ls 4 [(3, .int (nI i)), (2, .ref (base + 804)), (1, .ref base), (0, .ref b)] → LWd RR base s.heap.size cA D sa μ ν H → va_S (nwA s.heap.size) s.heap H locs → W p l e room_1 s m #[Value.ref b] below meth c H locs k1 n1 Q (F0 m 1178 ls [])) : W p l e room_1 s m #[Value.ref b] below meth c H locs k1 n1 Q (F0 m 877 ls []) := by
  obtain ⟨hx, hb, hr, hml, hown, hts0, hX, hbl, hlocks, hgv⟩ := C0
  have hts : ∀ w ∈ gtb, w.before #[Value.ref b] s = true := fun w hw => hts0 w (List.mem_filter.mp hw).1
  obtain ⟨hPC, hPR, hmC, hmR, hrel, hs0, hz⟩ := hW
  have hnw := nwA_no (n := s.heap.size)
  obtain ⟨r, μ1, ν1, hfc, hfr, hrel1⟩ := hsim μ ν (xs (i + 1)).toInt (xs (i + 2)).toInt (xs (i + 3)).toInt (i32_in _) (i32_in _) (i32_in _) hrel
  refine lv_aload_n hx hb dl_877 rfl (lv_at hl 2 rfl) ?_
  refine lv_aload_n hx hb dl_878 rfl (lv_at hl 3 rfl) ?_
  refine lv_iload_n hx hb dl_879 rfl (lv_at hl 0 rfl) ?_
  refine lv_iconst (v := nI 1) hx hb dl_880 (by decide +kernel) ?_
  refine lv_iadd hx hb dl_881 ?_
  rw [nI_addk]
  refine va_sld hx hb hX hbl (hnw b hbl) hS (vp_in_nI (N := L) (by omega) (by omega)) dl_882 ?_
  rw [nI_clamp (show i + 1 < 2 ^ 31 by omega)]
  refine lv_aload_n hx hb dl_883 rfl (lv_at hl 3 rfl) ?_
  refine lv_iload_n hx hb dl_884 rfl (lv_at hl 0 rfl) ?_
  refine lv_iconst (v := nI 2) hx hb dl_885 (by decide +kernel) ?_
  refine lv_iadd hx hb dl_886 ?_
  rw [nI_addk]
  refine va_sld hx hb hX hbl (hnw b hbl) hS (vp_in_nI (N := L) (by omega) (by omega)) dl_887 ?_
  rw [nI_clamp (show i + 2 < 2 ^ 31 by omega)]
  refine lv_aload_n hx hb dl_888 rfl (lv_at hl 3 rfl) ?_
  refine lv_iload_n hx hb dl_889 rfl (lv_at hl 0 rfl) ?_
  refine lv_iconst (v := nI 3) hx hb dl_890 (by decide +kernel) ?_
  refine lv_iadd hx hb dl_891 ?_
  rw [nI_addk]
  refine va_sld hx hb hX hbl (hnw b hbl) hS (vp_in_nI (N := L) (by omega) (by omega)) dl_892 ?_
  rw [nI_clamp (show i + 3 < 2 ^ 31 by omega)]
  refine law_call (L := loC) (G := (base, cA, D, sa)) (A := nwA s.heap.size) (ci := 11) (c0 := 0) (n := 3) (idx := 113) (C := RX11) (T := TX11) (NF := 11) (y := yX11_like) (As := [vI (xs (i + 1)).toInt, vI (xs (i + 2)).toInt, vI (xs (i + 3)).toInt]) (rest := []) (r0 := (some (vI r), μ1)) dl_893 gg_X11_like rfl (by decide) yw_X11_like (all5 wl_1083 wl_1084 wl_1085 w_100 wl_1086) rfl rfl ⟨by decide, by decide⟩ hx hb hml hown hts hK hZC hl.1 (fa1 okC0 (fa1 (i32_in _) (fa1 (i32_in _) (fa1 (i32_in _) (fa0))))) rfl hPC hmC hS (ArC_new hs0) hnw (by simp only [List.map_cons, List.map_nil, cv, q32_of]; rfl) (Nat.le_of_ble_eq_true rfl) hk hn hfc (fun H1 locs1 hm1 hP1 hz1 hq1 hS1 => ?_)
  replace hPR := pic_keptR hPR hz hq1
  clear hPC hmC hS
  rename va_S (nwA s.heap.size) s.heap H1 locs1 => hS
  rename okM loC μ1 => hmC
  rename va_P _ _ (pic loC _ μ1) H1 => hPC
  have hz2 : base + 858 ≤ H1.size := Nat.le_trans hz hz1
  clear hz1 hq1 hz
  rename base + 858 ≤ H1.size => hz
  refine lv_aload_n hx hb dl_896 rfl (lv_at hl 1 rfl) ?_
  refine lv_aload_n hx hb dl_897 rfl (lv_at hl 3 rfl) ?_
  refine lv_iload_n hx hb dl_898 rfl (lv_at hl 0 rfl) ?_
  refine lv_iconst (v := nI 1) hx hb dl_899 (by decide +kernel) ?_
  refine lv_iadd hx hb dl_900 ?_
  rw [nI_addk]
  refine va_sld hx hb hX hbl (hnw b hbl) hS (vp_in_nI (N := L) (by omega) (by omega)) dl_901 ?_
  rw [nI_clamp (show i + 1 < 2 ^ 31 by omega)]
  refine lv_aload_n hx hb dl_902 rfl (lv_at hl 3 rfl) ?_
  refine lv_iload_n hx hb dl_903 rfl (lv_at hl 0 rfl) ?_
  refine lv_iconst (v := nI 2) hx hb dl_904 (by decide +kernel) ?_
  refine lv_iadd hx hb dl_905 ?_
  rw [nI_addk]
  refine va_sld hx hb hX hbl (hnw b hbl) hS (vp_in_nI (N := L) (by omega) (by omega)) dl_906 ?_
  rw [nI_clamp (show i + 2 < 2 ^ 31 by omega)]
  refine lv_aload_n hx hb dl_907 rfl (lv_at hl 3 rfl) ?_
  refine lv_iload_n hx hb dl_908 rfl (lv_at hl 0 rfl) ?_
  refine lv_iconst (v := nI 3) hx hb dl_909 (by decide +kernel) ?_
  refine lv_iadd hx hb dl_910 ?_
  rw [nI_addk]
  refine va_sld hx hb hX hbl (hnw b hbl) hS (vp_in_nI (N := L) (by omega) (by omega)) dl_911 ?_
  rw [nI_clamp (show i + 3 < 2 ^ 31 by omega)]
  refine law_call (L := loR) (G := (base + 804, cA, D, sa)) (A := nwA s.heap.size) (ci := 12) (c0 := 0) (n := 3) (idx := 116) (C := RX12) (T := TX12) (NF := 83) (y := yX12_like) (As := [vI (xs (i + 1)).toInt, vI (xs (i + 2)).toInt, vI (xs (i + 3)).toInt]) (rest := [.int (q32 r)]) (r0 := (some (vI r), ν1)) dl_912 gg_X12_like rfl (by decide) yw_X12_like (all5 wl_1790 wl_1791 wl_1792 w_113 wl_1793) rfl rfl ⟨by decide, by decide⟩ hx hb hml hown hts hK hZR hl.1 (fa1 okR0 (fa1 (i32_in _) (fa1 (i32_in _) (fa1 (i32_in _) (fa0))))) rfl hPR hmR hS (ArR_new hs0) hnw (by simp only [List.map_cons, List.map_nil, cv, q32_of]; rfl) (Nat.le_of_ble_eq_true rfl) hk hn hfr (fun H1 locs1 hm1 hP1 hz1 hq1 hS1 => ?_)
  replace hPC := pic_keptC hPC hz hq1
  refine lv_icmp_eq (tgt := 1178) hx hb dl_915 (by decide) (fun _ => ?_) (fun q => absurd rfl q)
  exact kk _ _ μ1 ν1 _ () hl ⟨hPC, hP1, hmC, hm1, hrel1, hs0, Nat.le_trans hz hz1⟩ hS1
set_option maxHeartbeats 4000000 in
set_option maxRecDepth 100000 in
theorem law_find {p : Program} {e : Env} {s : State} {m : MethodId} {below : List Frame} {meth : Method} {c : Code} {l : Launch} {b L : Nat} {xs : Nat → Int32} (C0 : lw_At p s m meth c b L xs) {RR : Mem → Mem → Prop} {base : Nat} {cA : Nat → ClassId} {D : va_G} {sa : Nat → Nat} (hK : va_K D vwCl (tysL (base, cA, D, sa)) s) (hZC : SZ loC (base, cA, D, sa) s) (hZR : SZ loR (base + 804, cA, D, sa) s) {k1 n1 : Nat} (hk : k1 ≤ room_1.cells) (hn : n1 ≤ room_1.slots) {Q : State → Prop} {i : Nat} (hi : i + 6 ≤ L) (hL : L ≤ 3072) (hsim : ∀ (μ ν : Mem) (x1 x2 x3 : Int), in32 x1 → in32 x2 → in32 x3 → RR μ ν → Sm RR f_X11_find f_X12_find [vI x1, vI x2, vI x3] μ ν) {μ ν : Mem} {H : Heap} {locs : List Loc} {ls : Array Slot} (hl : lv_has ls 4 [(3, .int (nI i)), (2, .ref (base + 804)), (1, .ref base), (0, .ref b)]) (hW : LWd RR base s.heap.size cA D sa μ ν H) (hS : va_S (nwA s.heap.size) s.heap H locs)
    (kk : ∀ (H : Heap) (locs : List Loc) (μ ν : Mem) (ls : Array Slot) (st : Unit), lv_has ls 4 [(3, .int (nI i)), (2, .ref (base + 804)), (1, .ref base), (0, .ref b)] → LWd RR base s.heap.size cA D sa μ ν H → va_S (nwA s.heap.size) s.heap H locs → W p l e room_1 s m #[Value.ref b] below meth c H locs k1 n1 Q (F0 m 1178 ls [])) : W p l e room_1 s m #[Value.ref b] below meth c H locs k1 n1 Q (F0 m 920 ls []) := by
  obtain ⟨hx, hb, hr, hml, hown, hts0, hX, hbl, hlocks, hgv⟩ := C0
  have hts : ∀ w ∈ gtb, w.before #[Value.ref b] s = true := fun w hw => hts0 w (List.mem_filter.mp hw).1
  obtain ⟨hPC, hPR, hmC, hmR, hrel, hs0, hz⟩ := hW
  have hnw := nwA_no (n := s.heap.size)
  obtain ⟨r, μ1, ν1, hfc, hfr, hrel1⟩ := hsim μ ν (xs (i + 1)).toInt (xs (i + 2)).toInt (xs (i + 3)).toInt (i32_in _) (i32_in _) (i32_in _) hrel
  refine lv_aload_n hx hb dl_920 rfl (lv_at hl 2 rfl) ?_
  refine lv_aload_n hx hb dl_921 rfl (lv_at hl 3 rfl) ?_
  refine lv_iload_n hx hb dl_922 rfl (lv_at hl 0 rfl) ?_
  refine lv_iconst (v := nI 1) hx hb dl_923 (by decide +kernel) ?_
  refine lv_iadd hx hb dl_924 ?_
  rw [nI_addk]
  refine va_sld hx hb hX hbl (hnw b hbl) hS (vp_in_nI (N := L) (by omega) (by omega)) dl_925 ?_
  rw [nI_clamp (show i + 1 < 2 ^ 31 by omega)]
  refine lv_aload_n hx hb dl_926 rfl (lv_at hl 3 rfl) ?_
  refine lv_iload_n hx hb dl_927 rfl (lv_at hl 0 rfl) ?_
  refine lv_iconst (v := nI 2) hx hb dl_928 (by decide +kernel) ?_
  refine lv_iadd hx hb dl_929 ?_
  rw [nI_addk]
  refine va_sld hx hb hX hbl (hnw b hbl) hS (vp_in_nI (N := L) (by omega) (by omega)) dl_930 ?_
  rw [nI_clamp (show i + 2 < 2 ^ 31 by omega)]
  refine lv_aload_n hx hb dl_931 rfl (lv_at hl 3 rfl) ?_
  refine lv_iload_n hx hb dl_932 rfl (lv_at hl 0 rfl) ?_
  refine lv_iconst (v := nI 3) hx hb dl_933 (by decide +kernel) ?_
  refine lv_iadd hx hb dl_934 ?_
  rw [nI_addk]
  refine va_sld hx hb hX hbl (hnw b hbl) hS (vp_in_nI (N := L) (by omega) (by omega)) dl_935 ?_
  rw [nI_clamp (show i + 3 < 2 ^ 31 by omega)]
  refine law_call (L := loC) (G := (base, cA, D, sa)) (A := nwA s.heap.size) (ci := 11) (c0 := 0) (n := 3) (idx := 117) (C := RX11) (T := TX11) (NF := 11) (y := yX11_find) (As := [vI (xs (i + 1)).toInt, vI (xs (i + 2)).toInt, vI (xs (i + 3)).toInt]) (rest := []) (r0 := (some (vI r), μ1)) dl_936 gg_X11_find rfl (by decide) yw_X11_find (all5 wl_1152 wl_1153 wl_1154 w_100 wl_1155) rfl rfl ⟨by decide, by decide⟩ hx hb hml hown hts hK hZC hl.1 (fa1 okC0 (fa1 (i32_in _) (fa1 (i32_in _) (fa1 (i32_in _) (fa0))))) rfl hPC hmC hS (ArC_new hs0) hnw (by simp only [List.map_cons, List.map_nil, cv, q32_of]; rfl) (Nat.le_of_ble_eq_true rfl) hk hn hfc (fun H1 locs1 hm1 hP1 hz1 hq1 hS1 => ?_)
  replace hPR := pic_keptR hPR hz hq1
  clear hPC hmC hS
  rename va_S (nwA s.heap.size) s.heap H1 locs1 => hS
  rename okM loC μ1 => hmC
  rename va_P _ _ (pic loC _ μ1) H1 => hPC
  have hz2 : base + 858 ≤ H1.size := Nat.le_trans hz hz1
  clear hz1 hq1 hz
  rename base + 858 ≤ H1.size => hz
  refine lv_aload_n hx hb dl_939 rfl (lv_at hl 1 rfl) ?_
  refine lv_aload_n hx hb dl_940 rfl (lv_at hl 3 rfl) ?_
  refine lv_iload_n hx hb dl_941 rfl (lv_at hl 0 rfl) ?_
  refine lv_iconst (v := nI 1) hx hb dl_942 (by decide +kernel) ?_
  refine lv_iadd hx hb dl_943 ?_
  rw [nI_addk]
  refine va_sld hx hb hX hbl (hnw b hbl) hS (vp_in_nI (N := L) (by omega) (by omega)) dl_944 ?_
  rw [nI_clamp (show i + 1 < 2 ^ 31 by omega)]
  refine lv_aload_n hx hb dl_945 rfl (lv_at hl 3 rfl) ?_
  refine lv_iload_n hx hb dl_946 rfl (lv_at hl 0 rfl) ?_
  refine lv_iconst (v := nI 2) hx hb dl_947 (by decide +kernel) ?_
  refine lv_iadd hx hb dl_948 ?_
  rw [nI_addk]
  refine va_sld hx hb hX hbl (hnw b hbl) hS (vp_in_nI (N := L) (by omega) (by omega)) dl_949 ?_
  rw [nI_clamp (show i + 2 < 2 ^ 31 by omega)]
  refine lv_aload_n hx hb dl_950 rfl (lv_at hl 3 rfl) ?_
  refine lv_iload_n hx hb dl_951 rfl (lv_at hl 0 rfl) ?_
  refine lv_iconst (v := nI 3) hx hb dl_952 (by decide +kernel) ?_
  refine lv_iadd hx hb dl_953 ?_
  rw [nI_addk]
  refine va_sld hx hb hX hbl (hnw b hbl) hS (vp_in_nI (N := L) (by omega) (by omega)) dl_954 ?_
  rw [nI_clamp (show i + 3 < 2 ^ 31 by omega)]
  refine law_call (L := loR) (G := (base + 804, cA, D, sa)) (A := nwA s.heap.size) (ci := 12) (c0 := 0) (n := 3) (idx := 120) (C := RX12) (T := TX12) (NF := 83) (y := yX12_find) (As := [vI (xs (i + 1)).toInt, vI (xs (i + 2)).toInt, vI (xs (i + 3)).toInt]) (rest := [.int (q32 r)]) (r0 := (some (vI r), ν1)) dl_955 gg_X12_find rfl (by decide) yw_X12_find (all5 wl_1834 wl_1835 wl_1836 w_113 wl_1837) rfl rfl ⟨by decide, by decide⟩ hx hb hml hown hts hK hZR hl.1 (fa1 okR0 (fa1 (i32_in _) (fa1 (i32_in _) (fa1 (i32_in _) (fa0))))) rfl hPR hmR hS (ArR_new hs0) hnw (by simp only [List.map_cons, List.map_nil, cv, q32_of]; rfl) (Nat.le_of_ble_eq_true rfl) hk hn hfr (fun H1 locs1 hm1 hP1 hz1 hq1 hS1 => ?_)
  replace hPC := pic_keptC hPC hz hq1
  refine lv_icmp_eq (tgt := 1178) hx hb dl_958 (by decide) (fun _ => ?_) (fun q => absurd rfl q)
  exact kk _ _ μ1 ν1 _ () hl ⟨hPC, hP1, hmC, hm1, hrel1, hs0, Nat.le_trans hz hz1⟩ hS1
set_option maxHeartbeats 4000000 in
set_option maxRecDepth 100000 in
theorem law_teach {p : Program} {e : Env} {s : State} {m : MethodId} {below : List Frame} {meth : Method} {c : Code} {l : Launch} {b L : Nat} {xs : Nat → Int32} (C0 : lw_At p s m meth c b L xs) {RR : Mem → Mem → Prop} {base : Nat} {cA : Nat → ClassId} {D : va_G} {sa : Nat → Nat} (hK : va_K D vwCl (tysL (base, cA, D, sa)) s) (hZC : SZ loC (base, cA, D, sa) s) (hZR : SZ loR (base + 804, cA, D, sa) s) {k1 n1 : Nat} (hk : k1 ≤ room_1.cells) (hn : n1 ≤ room_1.slots) {Q : State → Prop} {i : Nat} (hi : i + 6 ≤ L) (hL : L ≤ 3072) (hsim : ∀ (μ ν : Mem) (x1 x2 x3 : Int), in32 x1 → in32 x2 → in32 x3 → RR μ ν → Sm RR f_X11_teach f_X12_teach [vI x1, vI x2, vI x3] μ ν) {μ ν : Mem} {H : Heap} {locs : List Loc} {ls : Array Slot} (hl : lv_has ls 4 [(3, .int (nI i)), (2, .ref (base + 804)), (1, .ref base), (0, .ref b)]) (hW : LWd RR base s.heap.size cA D sa μ ν H) (hS : va_S (nwA s.heap.size) s.heap H locs)
    (kk : ∀ (H : Heap) (locs : List Loc) (μ ν : Mem) (ls : Array Slot) (st : Unit), lv_has ls 4 [(3, .int (nI i)), (2, .ref (base + 804)), (1, .ref base), (0, .ref b)] → LWd RR base s.heap.size cA D sa μ ν H → va_S (nwA s.heap.size) s.heap H locs → W p l e room_1 s m #[Value.ref b] below meth c H locs k1 n1 Q (F0 m 1178 ls [])) : W p l e room_1 s m #[Value.ref b] below meth c H locs k1 n1 Q (F0 m 963 ls []) := by
  obtain ⟨hx, hb, hr, hml, hown, hts0, hX, hbl, hlocks, hgv⟩ := C0
  have hts : ∀ w ∈ gtb, w.before #[Value.ref b] s = true := fun w hw => hts0 w (List.mem_filter.mp hw).1
  obtain ⟨hPC, hPR, hmC, hmR, hrel, hs0, hz⟩ := hW
  have hnw := nwA_no (n := s.heap.size)
  obtain ⟨r, μ1, ν1, hfc, hfr, hrel1⟩ := hsim μ ν (xs (i + 1)).toInt (xs (i + 2)).toInt (xs (i + 3)).toInt (i32_in _) (i32_in _) (i32_in _) hrel
  refine lv_aload_n hx hb dl_963 rfl (lv_at hl 2 rfl) ?_
  refine lv_aload_n hx hb dl_964 rfl (lv_at hl 3 rfl) ?_
  refine lv_iload_n hx hb dl_965 rfl (lv_at hl 0 rfl) ?_
  refine lv_iconst (v := nI 1) hx hb dl_966 (by decide +kernel) ?_
  refine lv_iadd hx hb dl_967 ?_
  rw [nI_addk]
  refine va_sld hx hb hX hbl (hnw b hbl) hS (vp_in_nI (N := L) (by omega) (by omega)) dl_968 ?_
  rw [nI_clamp (show i + 1 < 2 ^ 31 by omega)]
  refine lv_aload_n hx hb dl_969 rfl (lv_at hl 3 rfl) ?_
  refine lv_iload_n hx hb dl_970 rfl (lv_at hl 0 rfl) ?_
  refine lv_iconst (v := nI 2) hx hb dl_971 (by decide +kernel) ?_
  refine lv_iadd hx hb dl_972 ?_
  rw [nI_addk]
  refine va_sld hx hb hX hbl (hnw b hbl) hS (vp_in_nI (N := L) (by omega) (by omega)) dl_973 ?_
  rw [nI_clamp (show i + 2 < 2 ^ 31 by omega)]
  refine lv_aload_n hx hb dl_974 rfl (lv_at hl 3 rfl) ?_
  refine lv_iload_n hx hb dl_975 rfl (lv_at hl 0 rfl) ?_
  refine lv_iconst (v := nI 3) hx hb dl_976 (by decide +kernel) ?_
  refine lv_iadd hx hb dl_977 ?_
  rw [nI_addk]
  refine va_sld hx hb hX hbl (hnw b hbl) hS (vp_in_nI (N := L) (by omega) (by omega)) dl_978 ?_
  rw [nI_clamp (show i + 3 < 2 ^ 31 by omega)]
  refine law_call (L := loC) (G := (base, cA, D, sa)) (A := nwA s.heap.size) (ci := 11) (c0 := 0) (n := 3) (idx := 121) (C := RX11) (T := TX11) (NF := 11) (y := yX11_teach) (As := [vI (xs (i + 1)).toInt, vI (xs (i + 2)).toInt, vI (xs (i + 3)).toInt]) (rest := []) (r0 := (some (vI r), μ1)) dl_979 gg_X11_teach rfl (by decide) yw_X11_teach (all5 wl_1166 wl_1167 wl_1168 w_100 wl_1169) rfl rfl ⟨by decide, by decide⟩ hx hb hml hown hts hK hZC hl.1 (fa1 okC0 (fa1 (i32_in _) (fa1 (i32_in _) (fa1 (i32_in _) (fa0))))) rfl hPC hmC hS (ArC_new hs0) hnw (by simp only [List.map_cons, List.map_nil, cv, q32_of]; rfl) (Nat.le_of_ble_eq_true rfl) hk hn hfc (fun H1 locs1 hm1 hP1 hz1 hq1 hS1 => ?_)
  replace hPR := pic_keptR hPR hz hq1
  clear hPC hmC hS
  rename va_S (nwA s.heap.size) s.heap H1 locs1 => hS
  rename okM loC μ1 => hmC
  rename va_P _ _ (pic loC _ μ1) H1 => hPC
  have hz2 : base + 858 ≤ H1.size := Nat.le_trans hz hz1
  clear hz1 hq1 hz
  rename base + 858 ≤ H1.size => hz
  refine lv_aload_n hx hb dl_982 rfl (lv_at hl 1 rfl) ?_
  refine lv_aload_n hx hb dl_983 rfl (lv_at hl 3 rfl) ?_
  refine lv_iload_n hx hb dl_984 rfl (lv_at hl 0 rfl) ?_
  refine lv_iconst (v := nI 1) hx hb dl_985 (by decide +kernel) ?_
  refine lv_iadd hx hb dl_986 ?_
  rw [nI_addk]
  refine va_sld hx hb hX hbl (hnw b hbl) hS (vp_in_nI (N := L) (by omega) (by omega)) dl_987 ?_
  rw [nI_clamp (show i + 1 < 2 ^ 31 by omega)]
  refine lv_aload_n hx hb dl_988 rfl (lv_at hl 3 rfl) ?_
  refine lv_iload_n hx hb dl_989 rfl (lv_at hl 0 rfl) ?_
  refine lv_iconst (v := nI 2) hx hb dl_990 (by decide +kernel) ?_
  refine lv_iadd hx hb dl_991 ?_
  rw [nI_addk]
  refine va_sld hx hb hX hbl (hnw b hbl) hS (vp_in_nI (N := L) (by omega) (by omega)) dl_992 ?_
  rw [nI_clamp (show i + 2 < 2 ^ 31 by omega)]
  refine lv_aload_n hx hb dl_993 rfl (lv_at hl 3 rfl) ?_
  refine lv_iload_n hx hb dl_994 rfl (lv_at hl 0 rfl) ?_
  refine lv_iconst (v := nI 3) hx hb dl_995 (by decide +kernel) ?_
  refine lv_iadd hx hb dl_996 ?_
  rw [nI_addk]
  refine va_sld hx hb hX hbl (hnw b hbl) hS (vp_in_nI (N := L) (by omega) (by omega)) dl_997 ?_
  rw [nI_clamp (show i + 3 < 2 ^ 31 by omega)]
  refine law_call (L := loR) (G := (base + 804, cA, D, sa)) (A := nwA s.heap.size) (ci := 12) (c0 := 0) (n := 3) (idx := 124) (C := RX12) (T := TX12) (NF := 83) (y := yX12_teach) (As := [vI (xs (i + 1)).toInt, vI (xs (i + 2)).toInt, vI (xs (i + 3)).toInt]) (rest := [.int (q32 r)]) (r0 := (some (vI r), ν1)) dl_998 gg_X12_teach rfl (by decide) yw_X12_teach (all5 wl_1838 wl_1839 wl_1840 w_113 wl_1841) rfl rfl ⟨by decide, by decide⟩ hx hb hml hown hts hK hZR hl.1 (fa1 okR0 (fa1 (i32_in _) (fa1 (i32_in _) (fa1 (i32_in _) (fa0))))) rfl hPR hmR hS (ArR_new hs0) hnw (by simp only [List.map_cons, List.map_nil, cv, q32_of]; rfl) (Nat.le_of_ble_eq_true rfl) hk hn hfr (fun H1 locs1 hm1 hP1 hz1 hq1 hS1 => ?_)
  replace hPC := pic_keptC hPC hz hq1
  refine lv_icmp_eq (tgt := 1178) hx hb dl_1001 (by decide) (fun _ => ?_) (fun q => absurd rfl q)
  exact kk _ _ μ1 ν1 _ () hl ⟨hPC, hP1, hmC, hm1, hrel1, hs0, Nat.le_trans hz hz1⟩ hS1
set_option maxHeartbeats 4000000 in
set_option maxRecDepth 100000 in
theorem law_sheet {p : Program} {e : Env} {s : State} {m : MethodId} {below : List Frame} {meth : Method} {c : Code} {l : Launch} {b L : Nat} {xs : Nat → Int32} (C0 : lw_At p s m meth c b L xs) {RR : Mem → Mem → Prop} {base : Nat} {cA : Nat → ClassId} {D : va_G} {sa : Nat → Nat} (hK : va_K D vwCl (tysL (base, cA, D, sa)) s) (hZC : SZ loC (base, cA, D, sa) s) (hZR : SZ loR (base + 804, cA, D, sa) s) {k1 n1 : Nat} (hk : k1 ≤ room_1.cells) (hn : n1 ≤ room_1.slots) {Q : State → Prop} {i : Nat} (hi : i + 6 ≤ L) (hL : L ≤ 3072) (hsim : ∀ (μ ν : Mem) (x1 x2 x3 : Int), in32 x1 → in32 x2 → in32 x3 → RR μ ν → Sm RR f_X11_sheet f_X12_sheet [vI x1, vI x2, vI x3] μ ν) {μ ν : Mem} {H : Heap} {locs : List Loc} {ls : Array Slot} (hl : lv_has ls 4 [(3, .int (nI i)), (2, .ref (base + 804)), (1, .ref base), (0, .ref b)]) (hW : LWd RR base s.heap.size cA D sa μ ν H) (hS : va_S (nwA s.heap.size) s.heap H locs)
    (kk : ∀ (H : Heap) (locs : List Loc) (μ ν : Mem) (ls : Array Slot) (st : Unit), lv_has ls 4 [(3, .int (nI i)), (2, .ref (base + 804)), (1, .ref base), (0, .ref b)] → LWd RR base s.heap.size cA D sa μ ν H → va_S (nwA s.heap.size) s.heap H locs → W p l e room_1 s m #[Value.ref b] below meth c H locs k1 n1 Q (F0 m 1178 ls [])) : W p l e room_1 s m #[Value.ref b] below meth c H locs k1 n1 Q (F0 m 1006 ls []) := by
  obtain ⟨hx, hb, hr, hml, hown, hts0, hX, hbl, hlocks, hgv⟩ := C0
  have hts : ∀ w ∈ gtb, w.before #[Value.ref b] s = true := fun w hw => hts0 w (List.mem_filter.mp hw).1
  obtain ⟨hPC, hPR, hmC, hmR, hrel, hs0, hz⟩ := hW
  have hnw := nwA_no (n := s.heap.size)
  obtain ⟨r, μ1, ν1, hfc, hfr, hrel1⟩ := hsim μ ν (xs (i + 1)).toInt (xs (i + 2)).toInt (xs (i + 3)).toInt (i32_in _) (i32_in _) (i32_in _) hrel
  refine lv_aload_n hx hb dl_1006 rfl (lv_at hl 2 rfl) ?_
  refine lv_aload_n hx hb dl_1007 rfl (lv_at hl 3 rfl) ?_
  refine lv_iload_n hx hb dl_1008 rfl (lv_at hl 0 rfl) ?_
  refine lv_iconst (v := nI 1) hx hb dl_1009 (by decide +kernel) ?_
  refine lv_iadd hx hb dl_1010 ?_
  rw [nI_addk]
  refine va_sld hx hb hX hbl (hnw b hbl) hS (vp_in_nI (N := L) (by omega) (by omega)) dl_1011 ?_
  rw [nI_clamp (show i + 1 < 2 ^ 31 by omega)]
  refine lv_aload_n hx hb dl_1012 rfl (lv_at hl 3 rfl) ?_
  refine lv_iload_n hx hb dl_1013 rfl (lv_at hl 0 rfl) ?_
  refine lv_iconst (v := nI 2) hx hb dl_1014 (by decide +kernel) ?_
  refine lv_iadd hx hb dl_1015 ?_
  rw [nI_addk]
  refine va_sld hx hb hX hbl (hnw b hbl) hS (vp_in_nI (N := L) (by omega) (by omega)) dl_1016 ?_
  rw [nI_clamp (show i + 2 < 2 ^ 31 by omega)]
  refine lv_aload_n hx hb dl_1017 rfl (lv_at hl 3 rfl) ?_
  refine lv_iload_n hx hb dl_1018 rfl (lv_at hl 0 rfl) ?_
  refine lv_iconst (v := nI 3) hx hb dl_1019 (by decide +kernel) ?_
  refine lv_iadd hx hb dl_1020 ?_
  rw [nI_addk]
  refine va_sld hx hb hX hbl (hnw b hbl) hS (vp_in_nI (N := L) (by omega) (by omega)) dl_1021 ?_
  rw [nI_clamp (show i + 3 < 2 ^ 31 by omega)]
  refine law_call (L := loC) (G := (base, cA, D, sa)) (A := nwA s.heap.size) (ci := 11) (c0 := 0) (n := 3) (idx := 125) (C := RX11) (T := TX11) (NF := 11) (y := yX11_sheet) (As := [vI (xs (i + 1)).toInt, vI (xs (i + 2)).toInt, vI (xs (i + 3)).toInt]) (rest := []) (r0 := (some (vI r), μ1)) dl_1022 gg_X11_sheet rfl (by decide) yw_X11_sheet (all5 wl_1178 wl_1179 wl_1180 w_100 wl_1181) rfl rfl ⟨by decide, by decide⟩ hx hb hml hown hts hK hZC hl.1 (fa1 okC0 (fa1 (i32_in _) (fa1 (i32_in _) (fa1 (i32_in _) (fa0))))) rfl hPC hmC hS (ArC_new hs0) hnw (by simp only [List.map_cons, List.map_nil, cv, q32_of]; rfl) (Nat.le_of_ble_eq_true rfl) hk hn hfc (fun H1 locs1 hm1 hP1 hz1 hq1 hS1 => ?_)
  replace hPR := pic_keptR hPR hz hq1
  clear hPC hmC hS
  rename va_S (nwA s.heap.size) s.heap H1 locs1 => hS
  rename okM loC μ1 => hmC
  rename va_P _ _ (pic loC _ μ1) H1 => hPC
  have hz2 : base + 858 ≤ H1.size := Nat.le_trans hz hz1
  clear hz1 hq1 hz
  rename base + 858 ≤ H1.size => hz
  refine lv_aload_n hx hb dl_1025 rfl (lv_at hl 1 rfl) ?_
  refine lv_aload_n hx hb dl_1026 rfl (lv_at hl 3 rfl) ?_
  refine lv_iload_n hx hb dl_1027 rfl (lv_at hl 0 rfl) ?_
  refine lv_iconst (v := nI 1) hx hb dl_1028 (by decide +kernel) ?_
  refine lv_iadd hx hb dl_1029 ?_
  rw [nI_addk]
  refine va_sld hx hb hX hbl (hnw b hbl) hS (vp_in_nI (N := L) (by omega) (by omega)) dl_1030 ?_
  rw [nI_clamp (show i + 1 < 2 ^ 31 by omega)]
  refine lv_aload_n hx hb dl_1031 rfl (lv_at hl 3 rfl) ?_
  refine lv_iload_n hx hb dl_1032 rfl (lv_at hl 0 rfl) ?_
  refine lv_iconst (v := nI 2) hx hb dl_1033 (by decide +kernel) ?_
  refine lv_iadd hx hb dl_1034 ?_
  rw [nI_addk]
  refine va_sld hx hb hX hbl (hnw b hbl) hS (vp_in_nI (N := L) (by omega) (by omega)) dl_1035 ?_
  rw [nI_clamp (show i + 2 < 2 ^ 31 by omega)]
  refine lv_aload_n hx hb dl_1036 rfl (lv_at hl 3 rfl) ?_
  refine lv_iload_n hx hb dl_1037 rfl (lv_at hl 0 rfl) ?_
  refine lv_iconst (v := nI 3) hx hb dl_1038 (by decide +kernel) ?_
  refine lv_iadd hx hb dl_1039 ?_
  rw [nI_addk]
  refine va_sld hx hb hX hbl (hnw b hbl) hS (vp_in_nI (N := L) (by omega) (by omega)) dl_1040 ?_
  rw [nI_clamp (show i + 3 < 2 ^ 31 by omega)]
  refine law_call (L := loR) (G := (base + 804, cA, D, sa)) (A := nwA s.heap.size) (ci := 12) (c0 := 0) (n := 3) (idx := 128) (C := RX12) (T := TX12) (NF := 83) (y := yX12_sheet) (As := [vI (xs (i + 1)).toInt, vI (xs (i + 2)).toInt, vI (xs (i + 3)).toInt]) (rest := [.int (q32 r)]) (r0 := (some (vI r), ν1)) dl_1041 gg_X12_sheet rfl (by decide) yw_X12_sheet (all5 wl_1843 wl_1844 wl_1845 w_113 wl_1846) rfl rfl ⟨by decide, by decide⟩ hx hb hml hown hts hK hZR hl.1 (fa1 okR0 (fa1 (i32_in _) (fa1 (i32_in _) (fa1 (i32_in _) (fa0))))) rfl hPR hmR hS (ArR_new hs0) hnw (by simp only [List.map_cons, List.map_nil, cv, q32_of]; rfl) (Nat.le_of_ble_eq_true rfl) hk hn hfr (fun H1 locs1 hm1 hP1 hz1 hq1 hS1 => ?_)
  replace hPC := pic_keptC hPC hz hq1
  refine lv_icmp_eq (tgt := 1178) hx hb dl_1044 (by decide) (fun _ => ?_) (fun q => absurd rfl q)
  exact kk _ _ μ1 ν1 _ () hl ⟨hPC, hP1, hmC, hm1, hrel1, hs0, Nat.le_trans hz hz1⟩ hS1
set_option maxHeartbeats 4000000 in
set_option maxRecDepth 100000 in
theorem law_lay {p : Program} {e : Env} {s : State} {m : MethodId} {below : List Frame} {meth : Method} {c : Code} {l : Launch} {b L : Nat} {xs : Nat → Int32} (C0 : lw_At p s m meth c b L xs) {RR : Mem → Mem → Prop} {base : Nat} {cA : Nat → ClassId} {D : va_G} {sa : Nat → Nat} (hK : va_K D vwCl (tysL (base, cA, D, sa)) s) (hZC : SZ loC (base, cA, D, sa) s) (hZR : SZ loR (base + 804, cA, D, sa) s) {k1 n1 : Nat} (hk : k1 ≤ room_1.cells) (hn : n1 ≤ room_1.slots) {Q : State → Prop} {i : Nat} (hi : i + 6 ≤ L) (hL : L ≤ 3072) (hsim : ∀ (μ ν : Mem) (x1 x2 x3 : Int), in32 x1 → in32 x2 → in32 x3 → RR μ ν → Sm RR f_X11_lay f_X12_lay [vI x1, vI x2, vI x3] μ ν) {μ ν : Mem} {H : Heap} {locs : List Loc} {ls : Array Slot} (hl : lv_has ls 4 [(3, .int (nI i)), (2, .ref (base + 804)), (1, .ref base), (0, .ref b)]) (hW : LWd RR base s.heap.size cA D sa μ ν H) (hS : va_S (nwA s.heap.size) s.heap H locs)
    (kk : ∀ (H : Heap) (locs : List Loc) (μ ν : Mem) (ls : Array Slot) (st : Unit), lv_has ls 4 [(3, .int (nI i)), (2, .ref (base + 804)), (1, .ref base), (0, .ref b)] → LWd RR base s.heap.size cA D sa μ ν H → va_S (nwA s.heap.size) s.heap H locs → W p l e room_1 s m #[Value.ref b] below meth c H locs k1 n1 Q (F0 m 1178 ls [])) : W p l e room_1 s m #[Value.ref b] below meth c H locs k1 n1 Q (F0 m 1049 ls []) := by
  obtain ⟨hx, hb, hr, hml, hown, hts0, hX, hbl, hlocks, hgv⟩ := C0
  have hts : ∀ w ∈ gtb, w.before #[Value.ref b] s = true := fun w hw => hts0 w (List.mem_filter.mp hw).1
  obtain ⟨hPC, hPR, hmC, hmR, hrel, hs0, hz⟩ := hW
  have hnw := nwA_no (n := s.heap.size)
  obtain ⟨r, μ1, ν1, hfc, hfr, hrel1⟩ := hsim μ ν (xs (i + 1)).toInt (xs (i + 2)).toInt (xs (i + 3)).toInt (i32_in _) (i32_in _) (i32_in _) hrel
  refine lv_aload_n hx hb dl_1049 rfl (lv_at hl 2 rfl) ?_
  refine lv_aload_n hx hb dl_1050 rfl (lv_at hl 3 rfl) ?_
  refine lv_iload_n hx hb dl_1051 rfl (lv_at hl 0 rfl) ?_
  refine lv_iconst (v := nI 1) hx hb dl_1052 (by decide +kernel) ?_
  refine lv_iadd hx hb dl_1053 ?_
  rw [nI_addk]
  refine va_sld hx hb hX hbl (hnw b hbl) hS (vp_in_nI (N := L) (by omega) (by omega)) dl_1054 ?_
  rw [nI_clamp (show i + 1 < 2 ^ 31 by omega)]
  refine lv_aload_n hx hb dl_1055 rfl (lv_at hl 3 rfl) ?_
  refine lv_iload_n hx hb dl_1056 rfl (lv_at hl 0 rfl) ?_
  refine lv_iconst (v := nI 2) hx hb dl_1057 (by decide +kernel) ?_
  refine lv_iadd hx hb dl_1058 ?_
  rw [nI_addk]
  refine va_sld hx hb hX hbl (hnw b hbl) hS (vp_in_nI (N := L) (by omega) (by omega)) dl_1059 ?_
  rw [nI_clamp (show i + 2 < 2 ^ 31 by omega)]
  refine lv_aload_n hx hb dl_1060 rfl (lv_at hl 3 rfl) ?_
  refine lv_iload_n hx hb dl_1061 rfl (lv_at hl 0 rfl) ?_
  refine lv_iconst (v := nI 3) hx hb dl_1062 (by decide +kernel) ?_
  refine lv_iadd hx hb dl_1063 ?_
  rw [nI_addk]
  refine va_sld hx hb hX hbl (hnw b hbl) hS (vp_in_nI (N := L) (by omega) (by omega)) dl_1064 ?_
  rw [nI_clamp (show i + 3 < 2 ^ 31 by omega)]
  refine law_call (L := loC) (G := (base, cA, D, sa)) (A := nwA s.heap.size) (ci := 11) (c0 := 0) (n := 3) (idx := 129) (C := RX11) (T := TX11) (NF := 11) (y := yX11_lay) (As := [vI (xs (i + 1)).toInt, vI (xs (i + 2)).toInt, vI (xs (i + 3)).toInt]) (rest := []) (r0 := (some (vI r), μ1)) dl_1065 gg_X11_lay rfl (by decide) yw_X11_lay (all5 wl_1195 wl_1196 wl_1197 w_100 wl_1198) rfl rfl ⟨by decide, by decide⟩ hx hb hml hown hts hK hZC hl.1 (fa1 okC0 (fa1 (i32_in _) (fa1 (i32_in _) (fa1 (i32_in _) (fa0))))) rfl hPC hmC hS (ArC_new hs0) hnw (by simp only [List.map_cons, List.map_nil, cv, q32_of]; rfl) (Nat.le_of_ble_eq_true rfl) hk hn hfc (fun H1 locs1 hm1 hP1 hz1 hq1 hS1 => ?_)
  replace hPR := pic_keptR hPR hz hq1
  clear hPC hmC hS
  rename va_S (nwA s.heap.size) s.heap H1 locs1 => hS
  rename okM loC μ1 => hmC
  rename va_P _ _ (pic loC _ μ1) H1 => hPC
  have hz2 : base + 858 ≤ H1.size := Nat.le_trans hz hz1
  clear hz1 hq1 hz
  rename base + 858 ≤ H1.size => hz
  refine lv_aload_n hx hb dl_1068 rfl (lv_at hl 1 rfl) ?_
  refine lv_aload_n hx hb dl_1069 rfl (lv_at hl 3 rfl) ?_
  refine lv_iload_n hx hb dl_1070 rfl (lv_at hl 0 rfl) ?_
  refine lv_iconst (v := nI 1) hx hb dl_1071 (by decide +kernel) ?_
  refine lv_iadd hx hb dl_1072 ?_
  rw [nI_addk]
  refine va_sld hx hb hX hbl (hnw b hbl) hS (vp_in_nI (N := L) (by omega) (by omega)) dl_1073 ?_
  rw [nI_clamp (show i + 1 < 2 ^ 31 by omega)]
  refine lv_aload_n hx hb dl_1074 rfl (lv_at hl 3 rfl) ?_
  refine lv_iload_n hx hb dl_1075 rfl (lv_at hl 0 rfl) ?_
  refine lv_iconst (v := nI 2) hx hb dl_1076 (by decide +kernel) ?_
  refine lv_iadd hx hb dl_1077 ?_
  rw [nI_addk]
  refine va_sld hx hb hX hbl (hnw b hbl) hS (vp_in_nI (N := L) (by omega) (by omega)) dl_1078 ?_
  rw [nI_clamp (show i + 2 < 2 ^ 31 by omega)]
  refine lv_aload_n hx hb dl_1079 rfl (lv_at hl 3 rfl) ?_
  refine lv_iload_n hx hb dl_1080 rfl (lv_at hl 0 rfl) ?_
  refine lv_iconst (v := nI 3) hx hb dl_1081 (by decide +kernel) ?_
  refine lv_iadd hx hb dl_1082 ?_
  rw [nI_addk]
  refine va_sld hx hb hX hbl (hnw b hbl) hS (vp_in_nI (N := L) (by omega) (by omega)) dl_1083 ?_
  rw [nI_clamp (show i + 3 < 2 ^ 31 by omega)]
  refine law_call (L := loR) (G := (base + 804, cA, D, sa)) (A := nwA s.heap.size) (ci := 12) (c0 := 0) (n := 3) (idx := 132) (C := RX12) (T := TX12) (NF := 83) (y := yX12_lay) (As := [vI (xs (i + 1)).toInt, vI (xs (i + 2)).toInt, vI (xs (i + 3)).toInt]) (rest := [.int (q32 r)]) (r0 := (some (vI r), ν1)) dl_1084 gg_X12_lay rfl (by decide) yw_X12_lay (all5 wl_1850 wl_1851 wl_1852 w_113 wl_1853) rfl rfl ⟨by decide, by decide⟩ hx hb hml hown hts hK hZR hl.1 (fa1 okR0 (fa1 (i32_in _) (fa1 (i32_in _) (fa1 (i32_in _) (fa0))))) rfl hPR hmR hS (ArR_new hs0) hnw (by simp only [List.map_cons, List.map_nil, cv, q32_of]; rfl) (Nat.le_of_ble_eq_true rfl) hk hn hfr (fun H1 locs1 hm1 hP1 hz1 hq1 hS1 => ?_)
  replace hPC := pic_keptC hPC hz hq1
  refine lv_icmp_eq (tgt := 1178) hx hb dl_1087 (by decide) (fun _ => ?_) (fun q => absurd rfl q)
  exact kk _ _ μ1 ν1 _ () hl ⟨hPC, hP1, hmC, hm1, hrel1, hs0, Nat.le_trans hz hz1⟩ hS1
set_option maxHeartbeats 4000000 in
set_option maxRecDepth 100000 in
theorem law_read {p : Program} {e : Env} {s : State} {m : MethodId} {below : List Frame} {meth : Method} {c : Code} {l : Launch} {b L : Nat} {xs : Nat → Int32} (C0 : lw_At p s m meth c b L xs) {RR : Mem → Mem → Prop} {base : Nat} {cA : Nat → ClassId} {D : va_G} {sa : Nat → Nat} (hK : va_K D vwCl (tysL (base, cA, D, sa)) s) (hZC : SZ loC (base, cA, D, sa) s) (hZR : SZ loR (base + 804, cA, D, sa) s) {k1 n1 : Nat} (hk : k1 ≤ room_1.cells) (hn : n1 ≤ room_1.slots) {Q : State → Prop} {i : Nat} (hi : i + 6 ≤ L) (hL : L ≤ 3072) (hsim : ∀ (μ ν : Mem) (x1 x2 x3 x4 x5 : Int), in32 x1 → in32 x2 → in32 x3 → in32 x4 → in32 x5 → RR μ ν → Sm RR f_X11_read f_X12_read [vI x1, vI x2, vI x3, vI x4, vI x5] μ ν) {μ ν : Mem} {H : Heap} {locs : List Loc} {ls : Array Slot} (hl : lv_has ls 4 [(3, .int (nI i)), (2, .ref (base + 804)), (1, .ref base), (0, .ref b)]) (hW : LWd RR base s.heap.size cA D sa μ ν H) (hS : va_S (nwA s.heap.size) s.heap H locs)
    (kk : ∀ (H : Heap) (locs : List Loc) (μ ν : Mem) (ls : Array Slot) (st : Unit), lv_has ls 4 [(3, .int (nI i)), (2, .ref (base + 804)), (1, .ref base), (0, .ref b)] → LWd RR base s.heap.size cA D sa μ ν H → va_S (nwA s.heap.size) s.heap H locs → W p l e room_1 s m #[Value.ref b] below meth c H locs k1 n1 Q (F0 m 1178 ls [])) : W p l e room_1 s m #[Value.ref b] below meth c H locs k1 n1 Q (F0 m 1092 ls []) := by
  obtain ⟨hx, hb, hr, hml, hown, hts0, hX, hbl, hlocks, hgv⟩ := C0
  have hts : ∀ w ∈ gtb, w.before #[Value.ref b] s = true := fun w hw => hts0 w (List.mem_filter.mp hw).1
  obtain ⟨hPC, hPR, hmC, hmR, hrel, hs0, hz⟩ := hW
  have hnw := nwA_no (n := s.heap.size)
  obtain ⟨r, μ1, ν1, hfc, hfr, hrel1⟩ := hsim μ ν (xs (i + 1)).toInt (xs (i + 2)).toInt (xs (i + 3)).toInt (xs (i + 4)).toInt (xs (i + 5)).toInt (i32_in _) (i32_in _) (i32_in _) (i32_in _) (i32_in _) hrel
  refine lv_aload_n hx hb dl_1092 rfl (lv_at hl 2 rfl) ?_
  refine lv_aload_n hx hb dl_1093 rfl (lv_at hl 3 rfl) ?_
  refine lv_iload_n hx hb dl_1094 rfl (lv_at hl 0 rfl) ?_
  refine lv_iconst (v := nI 1) hx hb dl_1095 (by decide +kernel) ?_
  refine lv_iadd hx hb dl_1096 ?_
  rw [nI_addk]
  refine va_sld hx hb hX hbl (hnw b hbl) hS (vp_in_nI (N := L) (by omega) (by omega)) dl_1097 ?_
  rw [nI_clamp (show i + 1 < 2 ^ 31 by omega)]
  refine lv_aload_n hx hb dl_1098 rfl (lv_at hl 3 rfl) ?_
  refine lv_iload_n hx hb dl_1099 rfl (lv_at hl 0 rfl) ?_
  refine lv_iconst (v := nI 2) hx hb dl_1100 (by decide +kernel) ?_
  refine lv_iadd hx hb dl_1101 ?_
  rw [nI_addk]
  refine va_sld hx hb hX hbl (hnw b hbl) hS (vp_in_nI (N := L) (by omega) (by omega)) dl_1102 ?_
  rw [nI_clamp (show i + 2 < 2 ^ 31 by omega)]
  refine lv_aload_n hx hb dl_1103 rfl (lv_at hl 3 rfl) ?_
  refine lv_iload_n hx hb dl_1104 rfl (lv_at hl 0 rfl) ?_
  refine lv_iconst (v := nI 3) hx hb dl_1105 (by decide +kernel) ?_
  refine lv_iadd hx hb dl_1106 ?_
  rw [nI_addk]
  refine va_sld hx hb hX hbl (hnw b hbl) hS (vp_in_nI (N := L) (by omega) (by omega)) dl_1107 ?_
  rw [nI_clamp (show i + 3 < 2 ^ 31 by omega)]
  refine lv_aload_n hx hb dl_1108 rfl (lv_at hl 3 rfl) ?_
  refine lv_iload_n hx hb dl_1109 rfl (lv_at hl 0 rfl) ?_
  refine lv_iconst (v := nI 4) hx hb dl_1110 (by decide +kernel) ?_
  refine lv_iadd hx hb dl_1111 ?_
  rw [nI_addk]
  refine va_sld hx hb hX hbl (hnw b hbl) hS (vp_in_nI (N := L) (by omega) (by omega)) dl_1112 ?_
  rw [nI_clamp (show i + 4 < 2 ^ 31 by omega)]
  refine lv_aload_n hx hb dl_1113 rfl (lv_at hl 3 rfl) ?_
  refine lv_iload_n hx hb dl_1114 rfl (lv_at hl 0 rfl) ?_
  refine lv_iconst (v := nI 5) hx hb dl_1115 (by decide +kernel) ?_
  refine lv_iadd hx hb dl_1116 ?_
  rw [nI_addk]
  refine va_sld hx hb hX hbl (hnw b hbl) hS (vp_in_nI (N := L) (by omega) (by omega)) dl_1117 ?_
  rw [nI_clamp (show i + 5 < 2 ^ 31 by omega)]
  refine law_call (L := loC) (G := (base, cA, D, sa)) (A := nwA s.heap.size) (ci := 11) (c0 := 0) (n := 5) (idx := 133) (C := RX11) (T := TX11) (NF := 11) (y := yX11_read) (As := [vI (xs (i + 1)).toInt, vI (xs (i + 2)).toInt, vI (xs (i + 3)).toInt, vI (xs (i + 4)).toInt, vI (xs (i + 5)).toInt]) (rest := []) (r0 := (some (vI r), μ1)) dl_1118 gg_X11_read rfl (by decide) yw_X11_read (all5 wl_1207 wl_1208 wl_1209 w_100 wl_1210) rfl rfl ⟨by decide, by decide⟩ hx hb hml hown hts hK hZC hl.1 (fa1 okC0 (fa1 (i32_in _) (fa1 (i32_in _) (fa1 (i32_in _) (fa1 (i32_in _) (fa1 (i32_in _) (fa0))))))) rfl hPC hmC hS (ArC_new hs0) hnw (by simp only [List.map_cons, List.map_nil, cv, q32_of]; rfl) (Nat.le_of_ble_eq_true rfl) hk hn hfc (fun H1 locs1 hm1 hP1 hz1 hq1 hS1 => ?_)
  replace hPR := pic_keptR hPR hz hq1
  clear hPC hmC hS
  rename va_S (nwA s.heap.size) s.heap H1 locs1 => hS
  rename okM loC μ1 => hmC
  rename va_P _ _ (pic loC _ μ1) H1 => hPC
  have hz2 : base + 858 ≤ H1.size := Nat.le_trans hz hz1
  clear hz1 hq1 hz
  rename base + 858 ≤ H1.size => hz
  refine lv_aload_n hx hb dl_1121 rfl (lv_at hl 1 rfl) ?_
  refine lv_aload_n hx hb dl_1122 rfl (lv_at hl 3 rfl) ?_
  refine lv_iload_n hx hb dl_1123 rfl (lv_at hl 0 rfl) ?_
  refine lv_iconst (v := nI 1) hx hb dl_1124 (by decide +kernel) ?_
  refine lv_iadd hx hb dl_1125 ?_
  rw [nI_addk]
  refine va_sld hx hb hX hbl (hnw b hbl) hS (vp_in_nI (N := L) (by omega) (by omega)) dl_1126 ?_
  rw [nI_clamp (show i + 1 < 2 ^ 31 by omega)]
  refine lv_aload_n hx hb dl_1127 rfl (lv_at hl 3 rfl) ?_
  refine lv_iload_n hx hb dl_1128 rfl (lv_at hl 0 rfl) ?_
  refine lv_iconst (v := nI 2) hx hb dl_1129 (by decide +kernel) ?_
  refine lv_iadd hx hb dl_1130 ?_
  rw [nI_addk]
  refine va_sld hx hb hX hbl (hnw b hbl) hS (vp_in_nI (N := L) (by omega) (by omega)) dl_1131 ?_
  rw [nI_clamp (show i + 2 < 2 ^ 31 by omega)]
  refine lv_aload_n hx hb dl_1132 rfl (lv_at hl 3 rfl) ?_
  refine lv_iload_n hx hb dl_1133 rfl (lv_at hl 0 rfl) ?_
  refine lv_iconst (v := nI 3) hx hb dl_1134 (by decide +kernel) ?_
  refine lv_iadd hx hb dl_1135 ?_
  rw [nI_addk]
  refine va_sld hx hb hX hbl (hnw b hbl) hS (vp_in_nI (N := L) (by omega) (by omega)) dl_1136 ?_
  rw [nI_clamp (show i + 3 < 2 ^ 31 by omega)]
  refine lv_aload_n hx hb dl_1137 rfl (lv_at hl 3 rfl) ?_
  refine lv_iload_n hx hb dl_1138 rfl (lv_at hl 0 rfl) ?_
  refine lv_iconst (v := nI 4) hx hb dl_1139 (by decide +kernel) ?_
  refine lv_iadd hx hb dl_1140 ?_
  rw [nI_addk]
  refine va_sld hx hb hX hbl (hnw b hbl) hS (vp_in_nI (N := L) (by omega) (by omega)) dl_1141 ?_
  rw [nI_clamp (show i + 4 < 2 ^ 31 by omega)]
  refine lv_aload_n hx hb dl_1142 rfl (lv_at hl 3 rfl) ?_
  refine lv_iload_n hx hb dl_1143 rfl (lv_at hl 0 rfl) ?_
  refine lv_iconst (v := nI 5) hx hb dl_1144 (by decide +kernel) ?_
  refine lv_iadd hx hb dl_1145 ?_
  rw [nI_addk]
  refine va_sld hx hb hX hbl (hnw b hbl) hS (vp_in_nI (N := L) (by omega) (by omega)) dl_1146 ?_
  rw [nI_clamp (show i + 5 < 2 ^ 31 by omega)]
  refine law_call (L := loR) (G := (base + 804, cA, D, sa)) (A := nwA s.heap.size) (ci := 12) (c0 := 0) (n := 5) (idx := 137) (C := RX12) (T := TX12) (NF := 83) (y := yX12_read) (As := [vI (xs (i + 1)).toInt, vI (xs (i + 2)).toInt, vI (xs (i + 3)).toInt, vI (xs (i + 4)).toInt, vI (xs (i + 5)).toInt]) (rest := [.int (q32 r)]) (r0 := (some (vI r), ν1)) dl_1147 gg_X12_read rfl (by decide) yw_X12_read (all5 wl_1854 wl_1855 wl_1856 w_113 wl_1857) rfl rfl ⟨by decide, by decide⟩ hx hb hml hown hts hK hZR hl.1 (fa1 okR0 (fa1 (i32_in _) (fa1 (i32_in _) (fa1 (i32_in _) (fa1 (i32_in _) (fa1 (i32_in _) (fa0))))))) rfl hPR hmR hS (ArR_new hs0) hnw (by simp only [List.map_cons, List.map_nil, cv, q32_of]; rfl) (Nat.le_of_ble_eq_true rfl) hk hn hfr (fun H1 locs1 hm1 hP1 hz1 hq1 hS1 => ?_)
  replace hPC := pic_keptC hPC hz hq1
  refine lv_icmp_eq (tgt := 1178) hx hb dl_1150 (by decide) (fun _ => ?_) (fun q => absurd rfl q)
  exact kk _ _ μ1 ν1 _ () hl ⟨hPC, hP1, hmC, hm1, hrel1, hs0, Nat.le_trans hz hz1⟩ hS1
set_option maxHeartbeats 4000000 in
set_option maxRecDepth 100000 in
theorem law_count {p : Program} {e : Env} {s : State} {m : MethodId} {below : List Frame} {meth : Method} {c : Code} {l : Launch} {b L : Nat} {xs : Nat → Int32} (C0 : lw_At p s m meth c b L xs) {RR : Mem → Mem → Prop} {base : Nat} {cA : Nat → ClassId} {D : va_G} {sa : Nat → Nat} (hK : va_K D vwCl (tysL (base, cA, D, sa)) s) (hZC : SZ loC (base, cA, D, sa) s) (hZR : SZ loR (base + 804, cA, D, sa) s) {k1 n1 : Nat} (hk : k1 ≤ room_1.cells) (hn : n1 ≤ room_1.slots) {Q : State → Prop} {i : Nat} (hi : i + 6 ≤ L) (hL : L ≤ 3072) (hsim : ∀ (μ ν : Mem) (x1 : Int), in32 x1 → RR μ ν → Sm RR f_X11_count f_X12_count [vI x1] μ ν) {μ ν : Mem} {H : Heap} {locs : List Loc} {ls : Array Slot} (hl : lv_has ls 4 [(3, .int (nI i)), (2, .ref (base + 804)), (1, .ref base), (0, .ref b)]) (hW : LWd RR base s.heap.size cA D sa μ ν H) (hS : va_S (nwA s.heap.size) s.heap H locs)
    (kk : ∀ (H : Heap) (locs : List Loc) (μ ν : Mem) (ls : Array Slot) (st : Unit), lv_has ls 4 [(3, .int (nI i)), (2, .ref (base + 804)), (1, .ref base), (0, .ref b)] → LWd RR base s.heap.size cA D sa μ ν H → va_S (nwA s.heap.size) s.heap H locs → W p l e room_1 s m #[Value.ref b] below meth c H locs k1 n1 Q (F0 m 1178 ls [])) : W p l e room_1 s m #[Value.ref b] below meth c H locs k1 n1 Q (F0 m 1155 ls []) := by
  obtain ⟨hx, hb, hr, hml, hown, hts0, hX, hbl, hlocks, hgv⟩ := C0
  have hts : ∀ w ∈ gtb, w.before #[Value.ref b] s = true := fun w hw => hts0 w (List.mem_filter.mp hw).1
  obtain ⟨hPC, hPR, hmC, hmR, hrel, hs0, hz⟩ := hW
  have hnw := nwA_no (n := s.heap.size)
  obtain ⟨r, μ1, ν1, hfc, hfr, hrel1⟩ := hsim μ ν (xs (i + 1)).toInt (i32_in _) hrel
  refine lv_aload_n hx hb dl_1155 rfl (lv_at hl 2 rfl) ?_
  refine lv_aload_n hx hb dl_1156 rfl (lv_at hl 3 rfl) ?_
  refine lv_iload_n hx hb dl_1157 rfl (lv_at hl 0 rfl) ?_
  refine lv_iconst (v := nI 1) hx hb dl_1158 (by decide +kernel) ?_
  refine lv_iadd hx hb dl_1159 ?_
  rw [nI_addk]
  refine va_sld hx hb hX hbl (hnw b hbl) hS (vp_in_nI (N := L) (by omega) (by omega)) dl_1160 ?_
  rw [nI_clamp (show i + 1 < 2 ^ 31 by omega)]
  refine law_call (L := loC) (G := (base, cA, D, sa)) (A := nwA s.heap.size) (ci := 11) (c0 := 0) (n := 1) (idx := 138) (C := RX11) (T := TX11) (NF := 11) (y := yX11_count) (As := [vI (xs (i + 1)).toInt]) (rest := []) (r0 := (some (vI r), μ1)) dl_1161 gg_X11_count rfl (by decide) yw_X11_count (all5 wl_1227 wl_1228 wl_1229 w_100 wl_1230) rfl rfl ⟨by decide, by decide⟩ hx hb hml hown hts hK hZC hl.1 (fa1 okC0 (fa1 (i32_in _) (fa0))) rfl hPC hmC hS (ArC_new hs0) hnw (by simp only [List.map_cons, List.map_nil, cv, q32_of]; rfl) (Nat.le_of_ble_eq_true rfl) hk hn hfc (fun H1 locs1 hm1 hP1 hz1 hq1 hS1 => ?_)
  replace hPR := pic_keptR hPR hz hq1
  clear hPC hmC hS
  rename va_S (nwA s.heap.size) s.heap H1 locs1 => hS
  rename okM loC μ1 => hmC
  rename va_P _ _ (pic loC _ μ1) H1 => hPC
  have hz2 : base + 858 ≤ H1.size := Nat.le_trans hz hz1
  clear hz1 hq1 hz
  rename base + 858 ≤ H1.size => hz
  refine lv_aload_n hx hb dl_1164 rfl (lv_at hl 1 rfl) ?_
  refine lv_aload_n hx hb dl_1165 rfl (lv_at hl 3 rfl) ?_
  refine lv_iload_n hx hb dl_1166 rfl (lv_at hl 0 rfl) ?_
  refine lv_iconst (v := nI 1) hx hb dl_1167 (by decide +kernel) ?_
  refine lv_iadd hx hb dl_1168 ?_
  rw [nI_addk]
  refine va_sld hx hb hX hbl (hnw b hbl) hS (vp_in_nI (N := L) (by omega) (by omega)) dl_1169 ?_
  rw [nI_clamp (show i + 1 < 2 ^ 31 by omega)]
  refine law_call (L := loR) (G := (base + 804, cA, D, sa)) (A := nwA s.heap.size) (ci := 12) (c0 := 0) (n := 1) (idx := 141) (C := RX12) (T := TX12) (NF := 83) (y := yX12_count) (As := [vI (xs (i + 1)).toInt]) (rest := [.int (q32 r)]) (r0 := (some (vI r), ν1)) dl_1170 gg_X12_count rfl (by decide) yw_X12_count (all5 wl_1858 wl_1859 wl_1860 w_113 wl_1861) rfl rfl ⟨by decide, by decide⟩ hx hb hml hown hts hK hZR hl.1 (fa1 okR0 (fa1 (i32_in _) (fa0))) rfl hPR hmR hS (ArR_new hs0) hnw (by simp only [List.map_cons, List.map_nil, cv, q32_of]; rfl) (Nat.le_of_ble_eq_true rfl) hk hn hfr (fun H1 locs1 hm1 hP1 hz1 hq1 hS1 => ?_)
  replace hPC := pic_keptC hPC hz hq1
  refine lv_icmp_eq (tgt := 1178) hx hb dl_1173 (by decide) (fun _ => ?_) (fun q => absurd rfl q)
  exact kk _ _ μ1 ν1 _ () hl ⟨hPC, hP1, hmC, hm1, hrel1, hs0, Nat.le_trans hz hz1⟩ hS1
set_option maxHeartbeats 4000000 in
set_option maxRecDepth 100000 in
theorem law_exit {p : Program} {e : Env} {s : State} {m : MethodId} {below : List Frame} {meth : Method} {c : Code} {l : Launch} {b L : Nat} {xs : Nat → Int32} (C0 : lw_At p s m meth c b L xs) {k1 n1 : Nat} (hk : k1 ≤ room_1.cells) (hn : n1 ≤ room_1.slots) (hL : L ≤ 3072) {base i : Nat} {H : Heap} {locs : List Loc} {ls : Array Slot} (hl : lv_has ls 4 [(3, .int (nI i)), (2, .ref (base + 804)), (1, .ref base), (0, .ref b)]) (hS : va_S (nwA s.heap.size) s.heap H locs) (hi : ¬ (i + 6 ≤ L) ∧ i ≤ L + 6) : W p l e room_1 s m #[Value.ref b] below meth c H locs k1 n1 (lw_Z below #[Value.ref b] s) (F0 m 18 ls []) := by
  obtain ⟨hx, hb, hr, hml, hown, hts0, hX, hbl, hlocks, hgv⟩ := C0
  have hnw := nwA_no (n := s.heap.size)
  refine lv_iload_n hx hb dl_18 rfl (lv_at hl 0 rfl) ?_
  refine lv_aload_n hx hb dl_19 rfl (lv_at hl 3 rfl) ?_
  refine va_slen hx hb hX hbl (hnw b hbl) hS dl_20 ?_
  refine lv_bipush (v := q32 6) hx hb dl_21 (by decide +kernel) ?_
  refine lv_isub hx hb dl_23 ?_
  have e1 : Int32.ofNat L - q32 6 = q32 ((L : Int) - 6) := by
    have e0 : Int32.ofNat L = q32 (L : Int) := rfl
    rw [e0, q32_sub, wr_id ⟨by omega, by omega⟩]
  rw [e1]
  refine lv_icmp_gt (tgt := 1184) hx hb dl_24 (by decide) (fun _ => ?_) (fun q => ?_)
  · refine lv_iconst (v := 1) hx hb dl_1184 (by decide) ?_
    refine va_forget (fun q hq => hS.2.2 q hq) ?_
    refine W.widen (k := 600000) (n := 7302249) hk hn ?_
    exact lw_ret hx hb hr hlocks dl_1185
  · exfalso
    have e0 : nI i = q32 (i : Int) := rfl
    rw [e0, q32_lt ⟨by omega, by omega⟩ ⟨by omega, by omega⟩] at q
    omega
set_option maxHeartbeats 4000000 in
set_option maxRecDepth 100000 in
theorem law_loop {p : Program} {e : Env} {s : State} {m : MethodId} {below : List Frame} {meth : Method} {c : Code} {l : Launch} {b L : Nat} {xs : Nat → Int32} (C0 : lw_At p s m meth c b L xs) {RR : Mem → Mem → Prop} {base : Nat} {cA : Nat → ClassId} {D : va_G} {sa : Nat → Nat} (hK : va_K D vwCl (tysL (base, cA, D, sa)) s) (hZC : SZ loC (base, cA, D, sa) s) (hZR : SZ loR (base + 804, cA, D, sa) s) {k1 n1 : Nat} (hk : k1 ≤ room_1.cells) (hn : n1 ≤ room_1.slots) (hL : L ≤ 3072) (hsim : SIM RR) :
    ∀ (n i : Nat), L + 6 ≤ i + n → i ≤ L + 6 → ∀ (μ ν : Mem) (H : Heap) (locs : List Loc) (ls : Array Slot), lv_has ls 4 [(3, .int (nI i)), (2, .ref (base + 804)), (1, .ref base), (0, .ref b)] → LWd RR base s.heap.size cA D sa μ ν H → va_S (nwA s.heap.size) s.heap H locs → W p l e room_1 s m #[Value.ref b] below meth c H locs k1 n1 (lw_Z below #[Value.ref b] s) (F0 m 18 ls []) := by
  obtain ⟨h_feed, h_end, h_text, h_fault, h_hand, h_day, h_of, h_sign, h_word, h_as, h_prove, h_step, h_undo, h_proof, h_show, h_stepOf, h_leans, h_change, h_seek, h_take, h_holds, h_worlds, h_denied, h_like, h_find, h_teach, h_sheet, h_lay, h_read, h_count⟩ := hsim
  obtain ⟨hx, hb, hr, hml, hown, hts0, hX, hbl, hlocks, hgv⟩ := id C0
  have hnw := nwA_no (n := s.heap.size)
  intro n
  induction n with
  | zero =>
    intro i h1 h2 μ ν H locs ls hl hW hS
    exact law_exit C0 hk hn hL hl hS (by omega)
  | succ n ih =>
    intro i h1 h2 μ ν H locs ls hl hW hS
    by_cases hi6 : ¬ (i + 6 ≤ L)
    · exact law_exit C0 hk hn hL hl hS (by omega)
    replace hi6 := Decidable.not_not.mp hi6
    refine lv_iload_n hx hb dl_18 rfl (lv_at hl 0 rfl) ?_
    refine lv_aload_n hx hb dl_19 rfl (lv_at hl 3 rfl) ?_
    refine va_slen hx hb hX hbl (hnw b hbl) hS dl_20 ?_
    refine lv_bipush (v := q32 6) hx hb dl_21 (by decide +kernel) ?_
    refine lv_isub hx hb dl_23 ?_
    have e1 : Int32.ofNat L - q32 6 = q32 ((L : Int) - 6) := by
      have e0 : Int32.ofNat L = q32 (L : Int) := rfl
      rw [e0, q32_sub, wr_id ⟨by omega, by omega⟩]
    rw [e1]
    refine lv_icmp_gt (tgt := 1184) hx hb dl_24 (by decide) (fun q => ?_) (fun _ => ?_)
    · exfalso
      have e0 : nI i = q32 (i : Int) := rfl
      rw [e0, q32_lt ⟨by omega, by omega⟩ ⟨by omega, by omega⟩] at q
      omega
    refine lv_aload_n hx hb dl_27 rfl (lv_at hl 3 rfl) ?_
    refine lv_iload_n hx hb dl_28 rfl (lv_at hl 0 rfl) ?_
    refine va_sld hx hb hX hbl (hnw b hbl) hS (vp_in_nI (N := L) (by omega) (by omega)) dl_29 ?_
    refine lv_bipush (v := q32 31) hx hb dl_30 (by decide +kernel) ?_
    refine lv_iand hx hb dl_32 ?_
    have kkk : ∀ (H : Heap) (locs : List Loc) (μ ν : Mem) (ls : Array Slot) (st : Unit), lv_has ls 4 [(3, .int (nI i)), (2, .ref (base + 804)), (1, .ref base), (0, .ref b)] → LWd RR base s.heap.size cA D sa μ ν H → va_S (nwA s.heap.size) s.heap H locs → W p l e room_1 s m #[Value.ref b] below meth c H locs k1 n1 (lw_Z below #[Value.ref b] s) (F0 m 1178 ls []) := by
      intro H locs μ ν ls _ hl hW hS
      refine lv_iinc (k := 0) (v := nI (i + 6)) (lv' := [(3, .int (nI (i + 6))), (2, .ref (base + 804)), (1, .ref base), (0, .ref b)]) hx hb dl_1178 hl rfl ?_ (by decide) rfl (fun ls hl => ?_)
      · exact nI_add i 6
      refine lv_goto (tgt := 18) hx hb dl_1181 (by decide) ?_
      exact ih (i + 6) (by omega) (by omega) μ ν H locs ls hl hW hS
    generalize (xs (nI i).toNatClampNeg) &&& q32 31 = d
    by_cases ho : d.toInt < 0 ∨ 29 < d.toInt
    · refine lv_tableOut (tgt := 1178) hx hb dl_33 ho (by decide) ?_
      exact kkk H locs μ ν ls () hl hW hS
    have hcs : d.toInt = 0 ∨ d.toInt = 1 ∨ d.toInt = 2 ∨ d.toInt = 3 ∨ d.toInt = 4 ∨ d.toInt = 5 ∨ d.toInt = 6 ∨ d.toInt = 7 ∨ d.toInt = 8 ∨ d.toInt = 9 ∨ d.toInt = 10 ∨ d.toInt = 11 ∨ d.toInt = 12 ∨ d.toInt = 13 ∨ d.toInt = 14 ∨ d.toInt = 15 ∨ d.toInt = 16 ∨ d.toInt = 17 ∨ d.toInt = 18 ∨ d.toInt = 19 ∨ d.toInt = 20 ∨ d.toInt = 21 ∨ d.toInt = 22 ∨ d.toInt = 23 ∨ d.toInt = 24 ∨ d.toInt = 25 ∨ d.toInt = 26 ∨ d.toInt = 27 ∨ d.toInt = 28 ∨ d.toInt = 29 := by omega
    rcases hcs with hd | hd | hd | hd | hd | hd | hd | hd | hd | hd | hd | hd | hd | hd | hd | hd | hd | hd | hd | hd | hd | hd | hd | hd | hd | hd | hd | hd | hd | hd
    · refine lv_tableIn (off := 135) (tgt := 168) hx hb dl_33 (by rw [hd]; decide) (by rw [hd]; decide) (by rw [hd]; rfl) (by decide) ?_
      exact law_feed C0 hK hZC hZR hk hn hi6 hL h_feed hl hW hS kkk
    · refine lv_tableIn (off := 188) (tgt := 221) hx hb dl_33 (by rw [hd]; decide) (by rw [hd]; decide) (by rw [hd]; rfl) (by decide) ?_
      exact law_end C0 hK hZC hZR hk hn hi6 hL h_end hl hW hS kkk
    · refine lv_tableIn (off := 211) (tgt := 244) hx hb dl_33 (by rw [hd]; decide) (by rw [hd]; decide) (by rw [hd]; rfl) (by decide) ?_
      exact law_text C0 hK hZC hZR hk hn hi6 hL h_text hl hW hS kkk
    · refine lv_tableIn (off := 224) (tgt := 257) hx hb dl_33 (by rw [hd]; decide) (by rw [hd]; decide) (by rw [hd]; rfl) (by decide) ?_
      exact law_fault C0 hK hZC hZR hk hn hi6 hL h_fault hl hW hS kkk
    · refine lv_tableIn (off := 237) (tgt := 270) hx hb dl_33 (by rw [hd]; decide) (by rw [hd]; decide) (by rw [hd]; rfl) (by decide) ?_
      exact law_hand C0 hK hZC hZR hk hn hi6 hL h_hand hl hW hS kkk
    · refine lv_tableIn (off := 260) (tgt := 293) hx hb dl_33 (by rw [hd]; decide) (by rw [hd]; decide) (by rw [hd]; rfl) (by decide) ?_
      exact law_day C0 hK hZC hZR hk hn hi6 hL h_day hl hW hS kkk
    · refine lv_tableIn (off := 283) (tgt := 316) hx hb dl_33 (by rw [hd]; decide) (by rw [hd]; decide) (by rw [hd]; rfl) (by decide) ?_
      exact law_of C0 hK hZC hZR hk hn hi6 hL h_of hl hW hS kkk
    · refine lv_tableIn (off := 316) (tgt := 349) hx hb dl_33 (by rw [hd]; decide) (by rw [hd]; decide) (by rw [hd]; rfl) (by decide) ?_
      exact law_sign C0 hK hZC hZR hk hn hi6 hL h_sign hl hW hS kkk
    · refine lv_tableIn (off := 359) (tgt := 392) hx hb dl_33 (by rw [hd]; decide) (by rw [hd]; decide) (by rw [hd]; rfl) (by decide) ?_
      exact law_word C0 hK hZC hZR hk hn hi6 hL h_word hl hW hS kkk
    · refine lv_tableIn (off := 392) (tgt := 425) hx hb dl_33 (by rw [hd]; decide) (by rw [hd]; decide) (by rw [hd]; rfl) (by decide) ?_
      exact law_as C0 hK hZC hZR hk hn hi6 hL h_as hl hW hS kkk
    · refine lv_tableIn (off := 425) (tgt := 458) hx hb dl_33 (by rw [hd]; decide) (by rw [hd]; decide) (by rw [hd]; rfl) (by decide) ?_
      exact law_prove C0 hK hZC hZR hk hn hi6 hL h_prove hl hW hS kkk
    · refine lv_tableIn (off := 448) (tgt := 481) hx hb dl_33 (by rw [hd]; decide) (by rw [hd]; decide) (by rw [hd]; rfl) (by decide) ?_
      exact law_step C0 hK hZC hZR hk hn hi6 hL h_step hl hW hS kkk
    · refine lv_tableIn (off := 491) (tgt := 524) hx hb dl_33 (by rw [hd]; decide) (by rw [hd]; decide) (by rw [hd]; rfl) (by decide) ?_
      exact law_undo C0 hK hZC hZR hk hn hi6 hL h_undo hl hW hS kkk
    · refine lv_tableIn (off := 504) (tgt := 537) hx hb dl_33 (by rw [hd]; decide) (by rw [hd]; decide) (by rw [hd]; rfl) (by decide) ?_
      exact law_proof C0 hK hZC hZR hk hn hi6 hL h_proof hl hW hS kkk
    · refine lv_tableIn (off := 527) (tgt := 560) hx hb dl_33 (by rw [hd]; decide) (by rw [hd]; decide) (by rw [hd]; rfl) (by decide) ?_
      exact law_show C0 hK hZC hZR hk hn hi6 hL h_show hl hW hS kkk
    · refine lv_tableIn (off := 540) (tgt := 573) hx hb dl_33 (by rw [hd]; decide) (by rw [hd]; decide) (by rw [hd]; rfl) (by decide) ?_
      exact law_stepOf C0 hK hZC hZR hk hn hi6 hL h_stepOf hl hW hS kkk
    · refine lv_tableIn (off := 583) (tgt := 616) hx hb dl_33 (by rw [hd]; decide) (by rw [hd]; decide) (by rw [hd]; rfl) (by decide) ?_
      exact law_leans C0 hK hZC hZR hk hn hi6 hL h_leans hl hW hS kkk
    · refine lv_tableIn (off := 616) (tgt := 649) hx hb dl_33 (by rw [hd]; decide) (by rw [hd]; decide) (by rw [hd]; rfl) (by decide) ?_
      exact law_change C0 hK hZC hZR hk hn hi6 hL h_change hl hW hS kkk
    · refine lv_tableIn (off := 639) (tgt := 672) hx hb dl_33 (by rw [hd]; decide) (by rw [hd]; decide) (by rw [hd]; rfl) (by decide) ?_
      exact law_seek C0 hK hZC hZR hk hn hi6 hL h_seek hl hW hS kkk
    · refine lv_tableIn (off := 692) (tgt := 725) hx hb dl_33 (by rw [hd]; decide) (by rw [hd]; decide) (by rw [hd]; rfl) (by decide) ?_
      exact law_take C0 hK hZC hZR hk hn hi6 hL h_take hl hW hS kkk
    · refine lv_tableIn (off := 735) (tgt := 768) hx hb dl_33 (by rw [hd]; decide) (by rw [hd]; decide) (by rw [hd]; rfl) (by decide) ?_
      exact law_holds C0 hK hZC hZR hk hn hi6 hL h_holds hl hW hS kkk
    · refine lv_tableIn (off := 778) (tgt := 811) hx hb dl_33 (by rw [hd]; decide) (by rw [hd]; decide) (by rw [hd]; rfl) (by decide) ?_
      exact law_worlds C0 hK hZC hZR hk hn hi6 hL h_worlds hl hW hS kkk
    · refine lv_tableIn (off := 811) (tgt := 844) hx hb dl_33 (by rw [hd]; decide) (by rw [hd]; decide) (by rw [hd]; rfl) (by decide) ?_
      exact law_denied C0 hK hZC hZR hk hn hi6 hL h_denied hl hW hS kkk
    · refine lv_tableIn (off := 844) (tgt := 877) hx hb dl_33 (by rw [hd]; decide) (by rw [hd]; decide) (by rw [hd]; rfl) (by decide) ?_
      exact law_like C0 hK hZC hZR hk hn hi6 hL h_like hl hW hS kkk
    · refine lv_tableIn (off := 887) (tgt := 920) hx hb dl_33 (by rw [hd]; decide) (by rw [hd]; decide) (by rw [hd]; rfl) (by decide) ?_
      exact law_find C0 hK hZC hZR hk hn hi6 hL h_find hl hW hS kkk
    · refine lv_tableIn (off := 930) (tgt := 963) hx hb dl_33 (by rw [hd]; decide) (by rw [hd]; decide) (by rw [hd]; rfl) (by decide) ?_
      exact law_teach C0 hK hZC hZR hk hn hi6 hL h_teach hl hW hS kkk
    · refine lv_tableIn (off := 973) (tgt := 1006) hx hb dl_33 (by rw [hd]; decide) (by rw [hd]; decide) (by rw [hd]; rfl) (by decide) ?_
      exact law_sheet C0 hK hZC hZR hk hn hi6 hL h_sheet hl hW hS kkk
    · refine lv_tableIn (off := 1016) (tgt := 1049) hx hb dl_33 (by rw [hd]; decide) (by rw [hd]; decide) (by rw [hd]; rfl) (by decide) ?_
      exact law_lay C0 hK hZC hZR hk hn hi6 hL h_lay hl hW hS kkk
    · refine lv_tableIn (off := 1059) (tgt := 1092) hx hb dl_33 (by rw [hd]; decide) (by rw [hd]; decide) (by rw [hd]; rfl) (by decide) ?_
      exact law_read C0 hK hZC hZR hk hn hi6 hL h_read hl hW hS kkk
    · refine lv_tableIn (off := 1122) (tgt := 1155) hx hb dl_33 (by rw [hd]; decide) (by rw [hd]; decide) (by rw [hd]; rfl) (by decide) ?_
      exact law_count C0 hK hZC hZR hk hn hi6 hL h_count hl hW hS kkk
