/-! the law makes an object -/
theorem w_obj {G : Wp} {L0 : Lo} {ws : Nat → List (Nat × Int)} {p : Program} {l : Launch} {e : Env} {R : Room} {s : State} {m : MethodId} {args : Array Value} {below : List Frame} {meth : Method} {c : Code} {H : Heap} {locs : List Loc} {cells slots : Nat} {Q : State → Prop} {cc bytes : ByteArray} {nL maxL fr lo i1 i2 pc ci NF z : Nat} {own C : String} {T : u_T} {y : MethodName} {la : Array Slot} {f : List AV → KS → Option KS} (ty : Nat → FieldType)
    (hx : p.tables.exec = Jvm.exec) (hb : c.code = cc) (hml : c.maxLocals = nL) (hown : s.vm.findClass own = some m.cls) (hts : ∀ w ∈ gtb, w.before args s = true) (hK : va_K G.2.2.1 vwCl (tysL G) s) (hXW : XW G s) (hla : la.size = nL)
    (hd0 : decode cc pc = .ok (.new i1, 3)) (hd1 : decode cc (pc + 3) = .ok (.dup, 1)) (hd2 : decode cc (pc + 3 + 1) = .ok (.invokespecial i2, 3)) (hc : vwCl[ci]? = some (C, T, NF)) (h20 : ci < 20) (hin : ∀ w ∈ u_ws C T NF, w ∈ gtb) (hty : ∀ k, k < NF → parseFieldDescriptor (T k).2.2.1 = some (ty k)) (hok : ∀ k, k < NF → dok (ty k) = true)
    (w1 : (Cond.classLink own i1 C).before args s = true) (w2 : Cond.instantiable C NF ∈ gtb) (w3 : Cond.initialized C ∈ gtb) (w4 : (Cond.methodLink own i2 y).before args s = true) (w5 : Cond.instanceMethod y ∈ gtb) (w6 : Cond.initialized y.cls ∈ gtb) (w7 : Cond.code y bytes maxL none ∈ gtb) (hy1 : y.name = "<init>")
    (hy : y.cls ≠ "java/lang/invoke/MethodHandle" ∧ y.cls ≠ "java/lang/invoke/VarHandle" ∧ (parseMethodDescriptor y.desc).map (fun d => d.parameters.length) = some 0) (hR : fr + 1 ≤ R.frames ∧ 8 + (maxL + 11) + lo ≤ R.locals) (hg : KGood G l y bytes maxL fr lo f) (hev : okE L0 ws z (f [vR ci 0] (rs [.inl (ci, blk NF ty)] 0)) = true)
    (hH : H.size = G.1) (hG : s.heap.size ≤ G.1) (hS : va_S (nwA s.heap.size) s.heap H locs) (hcells : cells + L0.1 ≤ R.cells) (hslots : slots + (NF + z) ≤ R.slots) (h1 : 1 ≤ L0.1)
    (kk : ∀ (H1 : Heap) (locs1 : List Loc), va_P G.2.2.1 vwCl (pic L0 G (mm0 ws)) H1 → H1.size = G.1 + L0.1 → (∀ q, q < H.size → H1[q]? = H[q]?) → va_S (nwA s.heap.size) s.heap H1 locs1 → W p l e R s m args below meth c H1 locs1 (cells + L0.1) (slots + (NF + z)) Q (F0 m (pc + 7) la [.ref G.1])) : W p l e R s m args below meth c H locs cells slots Q (F0 m pc la []) := by
  have hKn := hK.1 ci _ hc
  refine W.newcK hx hb hown w1 (hts _ w2) (hts _ w3) rfl hd0 (by omega) (by omega) hKn.2.1 hH fun H1 kC hkC e1 z1 o1 => ?_
  refine lv_dup hx hb hd1 rfl ?_
  have hP1 : va_P G.2.2.1 vwCl (pK G 0 [.inl (ci, blk NF ty)]) H1 := by
    intro k q hq
    have hz : k < 1 := (List.getElem?_eq_some_iff.mp hq).1
    rw [show k = 0 by omega] at hq
    cases hq
    exact ⟨_, hc, (u_born ty hts hin hKn hkC e1 hty).to (fun j hj => by
      unfold blk vp_V
      rw [List.getD_eq_getElem?_getD, List.getElem?_map, List.getElem?_map, List.getElem?_range hj]
      show defaultValue (ty j) = cv G (dfl (ty j))
      rw [cv_dfl (hok j hj)])⟩
  cases hf : f [vR ci 0] (rs [.inl (ci, blk NF ty)] 0) with
  | none => rw [hf] at hev; cases hev
  | some r =>
    rw [hf] at hev
    have hev : (ckL L0 ws r.1 L0.1 && (Nat.beq r.2.1 L0.1 && Nat.beq r.2.2 z)) = true := hev
    rw [Bool.and_eq_true, Bool.and_eq_true] at hev
    obtain ⟨v1, v2, v3⟩ := hev
    have v2 := Nat.eq_of_beq_eq_true v2
    have v3 := Nat.eq_of_beq_eq_true v3
    have hM := hg [vR ci 0] [.inl (ci, blk NF ty)] 0 r (fun v hv => by rw [List.mem_singleton.mp hv]; trivial) hf
    have ea : cv G (vR ci 0) = .ref G.1 := by show Value.ref (ad G ci 0) = _; rw [ad_lt (by omega)]; rfl
    have hpre : PreS s H1 (PcK G [vR ci 0] [.inl (ci, blk NF ty)]) (.ref G.1 :: []) := by
      refine ⟨pcK_blind, fun U hU hW => ⟨?_, by rw [hU]; exact hP1, va_K.moved hW.alike hK, by rw [hU]; exact z1, hXW.warm hW⟩⟩
      rw [List.map_cons, ea]
      rfl
    have hgi : GoodIn gtb (Cond.code y bytes maxL none :: gtb) := gIn (fun w hw => by
      rcases List.mem_cons.mp hw with hw | hw
      · rw [hw]; exact w7
      · exact hw)
    have hrun := va_runI (e := e) (b := G.1) (As := []) (rest := [.ref G.1]) (g := F0 m (pc + 3 + 1) la [.ref G.1, .ref G.1]) (H := H1) (locs := locs) (cells := cells + 1) (slots := slots + NF) (below := below) (meth := meth) ⟨hx, hb, hml, hown, hts⟩ hM (cwI 0 hts hgi rfl rfl rfl (hts _ w6) w4 (hts _ w5) hy1 hy hR) hpre rfl rfl hla rfl (by show 2 * 0 + 1 ≤ 8; omega) hd2 ⟨by show cells + 1 + (r.2.1 - 1) ≤ _; omega, by show slots + NF + (r.2.2 - 0) ≤ _; omega⟩
    intro T hT X
    obtain ⟨v, st₀, t, T', L', h0, X', hL, e1', e2, ⟨ho, hlen, hP, hZ, hF⟩, st⟩ := hrun T hT X
    obtain rfl := Outcome.returned.inj ho
    obtain ⟨hF1, hF2⟩ := hF
    rw [h0] at hF1 hF2
    have hz1 : H1.size = G.1 + 1 := z1
    have hold : ∀ q, q < H.size → T'.heap[q]? = H[q]? := fun q hq => by
      rw [e1', hF2 q (by omega) (fun hA => by have : G.1 ≤ q := hA; omega)]
      exact o1 q (by omega)
    have X'' := X'
    rw [show cells + 1 + (r.2.1 - [(.inl (ci, blk NF ty) : KC)].length) = cells + L0.1 by show cells + 1 + (r.2.1 - 1) = _; omega, show slots + NF + (r.2.2 - 0) = slots + (NF + z) by omega] at X''
    obtain ⟨t2, a1, b1⟩ := kk T'.heap (locs ++ L') (by rw [e1']; exact ck_pic v1 hP) (by rw [e1', hZ, v2]) hold ⟨by have := hS.1; rw [e1']; omega, fun q q1 q2 => by
        have := hS.1
        rw [hold q (by omega)]
        exact hS.2.1 q q1 q2, fun q hq => by
        rcases List.mem_append.mp hq with hq | hq
        · exact hS.2.2 q hq
        · exact Nat.le_trans hG (hL q hq)⟩ T' rfl X''
    exact ⟨t2, st t2 a1, b1⟩
