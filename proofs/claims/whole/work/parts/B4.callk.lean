/-! the building machine: contracts of constructors, and their calls -/
def PcK (G : Wp) (vals : List AV) (h : List KC) : Array Value → State → Prop := fun a U => a = (vals.map (cv G)).toArray ∧ va_P G.2.2.1 vwCl (pK G 0 h) U.heap ∧ va_K G.2.2.1 vwCl (tysL G) U ∧ U.heap.size = G.1 + h.length ∧ XW G U
def KGood (G : Wp) (l : Launch) (y : MethodName) (bytes : ByteArray) (maxL fr lo : Nat) (f : List AV → KS → Option KS) : Prop :=
  ∀ (vals : List AV) (h : List KC) (z : Nat) (r : KS), (∀ v ∈ vals, okK v) → f vals (rs h z) = some r → Met l y (Cond.code y bytes maxL none :: gtb) { frames := fr, cells := r.2.1 - h.length, slots := r.2.2 - z, locals := lo } (PcK G vals h) (QK G r) (r.2.1 - h.length) (r.2.2 - z) (Af G)
theorem pcK_blind {G : Wp} {vals : List AV} {h : List KC} : FrameBlind (PcK G vals h) := by
  intro a U g mk hh
  obtain ⟨h1, h2, h3, h4, h5⟩ := hh
  exact ⟨h1, h2, va_K.moved (u := U) (U := U.calling g mk a) (Vm.Alike.refl U.vm) h3, h4, h5.same rfl⟩
def k_call (n a : Nat) (t : Nat) (f : List AV → KS → Option KS) (N Z : Nat) : KI := fun ls st h k => if okc a (rcv t) st = true then (match f (st.take a).reverse h with
  | some h' => if h'.2.1 ≤ N ∧ h'.2.2 ≤ Z ∧ h.2.1 ≤ h'.2.1 ∧ h.2.2 ≤ h'.2.2 then k n ls (st.drop a) h' else none
  | none => none) else none
section CALLK
variable {G : Wp} {l : Launch} {own : String} {cc : ByteArray} {nL fr lo n0 z0 N Z : Nat} {pc : Nat}
theorem callK_core {p : Program} {e : Env} {R : Room} {s : State} {m : MethodId} {args : Array Value} {below : List Frame} {meth : Method} {c : Code} {H : Heap} {locs : List Loc} {cells slots mc ms : Nat} {Q : State → Prop} {la : Array Slot} {st0 rest : List Value} {r0 : KS} {av : Array Value} {h : List KC}
    (hr : va_Run p l e R s m args below meth c H locs cells slots mc ms (F0 m pc la st0) rest (QK G r0 av) (Af G)) (hw : WoK G s h H locs)
    (kk : ∀ (H' : Heap) (locs' : List Loc), r0.2.1 = r0.1.length → WoK G s r0.1.reverse H' locs' → W p l e R s m args below meth c H' locs' (cells + mc) (slots + ms) Q (F0 m (pc + 3) la rest)) : W p l e R s m args below meth c H locs cells slots Q (F0 m pc la st0) := by
  intro T hT X
  obtain ⟨v, st₀, t, T', L', h0, X', hL, e1, e2, ⟨ho, hlen, hP, hZ, hF⟩, st⟩ := hr T hT X
  obtain rfl := Outcome.returned.inj ho
  obtain ⟨hF1, hF2⟩ := hF
  rw [h0] at hF1 hF2
  obtain ⟨t2, a1, b1⟩ := kk T'.heap (locs ++ L') hlen ⟨by rw [e1]; exact hP, ⟨Nat.le_trans hw.2.1.1 (by rw [e1]; exact hF1), fun q h1 h2 => by
      rw [e1, hF2 q (Nat.lt_of_lt_of_le h1 hw.2.1.1) h2]; exact hw.2.1.2.1 q h1 h2, fun q hq => by
      rcases List.mem_append.mp hq with hq | hq
      · exact hw.2.1.2.2 q hq
      · exact hL q hq⟩, by rw [e1, List.length_reverse, ← hlen]; exact hZ⟩ T' rfl X'
  exact ⟨t2, st t2 a1, b1⟩
theorem ks_call {y : MethodName} {ci idx n maxL fr' lo' : Nat} {bytes : ByteArray} {f : List AV → KS → Option KS} (hd : decode cc pc = .ok (.invokespecial idx, 3)) (hGd : KGood G l y bytes maxL fr' lo' f)
    (hlink : ∀ (args : Array Value) (s : State), (∀ w ∈ gtb, w.before args s = true) → XW G s → (Cond.methodLink own idx y).before args s = true ∨ va_Nw (.methodLinkNest own idx y "ShownLibrary") s)
    (hy : y.cls ≠ "java/lang/invoke/MethodHandle" ∧ y.cls ≠ "java/lang/invoke/VarHandle" ∧ (parseMethodDescriptor y.desc).map (fun d => d.parameters.length) = some n) (hy1 : y.name = "<init>")
    (w1 : Cond.instanceMethod y ∈ gtb) (w2 : Cond.initialized y.cls ∈ gtb) (w3 : Cond.code y bytes maxL none ∈ gtb) (hR : fr' + 1 ≤ fr ∧ 8 + (maxL + 11) + lo' ≤ lo) : SdK G l own cc nL fr lo n0 z0 N Z pc (k_call (pc + 3) (n + 1) ci f N Z) := by
  intro p e s m args below meth c hC r k ls st h0 z H locs la hl hs hw hn hz hi hk
  obtain ⟨hx, hb, hml, hown, hts, hlk, hrt, hK, hmn, hG, hX⟩ := hC
  unfold k_call at hi
  split at hi
  · rename_i ho
    split at hi
    · rename_i r0 hf
      split at hi
      · rename_i hq
        obtain ⟨q1, q2, q3, q4⟩ := hq
        have q3' : h0.length ≤ r0.2.1 := q3
        have q4' : z ≤ r0.2.2 := q4
        obtain ⟨h1, h2, h3⟩ := okc_spec ho
        obtain ⟨c0, As, hv⟩ := rcv_spec h3
        have hst : st = As.reverse ++ .inr (.inr (some (ci, c0))) :: st.drop (n + 1) := by
          have h4 : st.take (n + 1) = As.reverse ++ [.inr (.inr (some (ci, c0)))] := by
            have h5 := congrArg List.reverse hv
            rw [List.reverse_reverse, List.reverse_cons] at h5
            exact h5
          have h6 := (List.take_append_drop (n + 1) st).symm
          rw [h4] at h6
          simpa using h6
        have hAs : As.length = n := by
          have h7 := congrArg List.length hv
          rw [List.length_reverse, List.length_take, List.length_cons] at h7
          omega
        have hall : ∀ v ∈ (st.take (n + 1)).reverse, okK v := fun v hv => hs v (List.mem_of_mem_take (List.mem_reverse.mp hv))
        have hM := hGd _ h0 z r0 hall hf
        have hpre : PreS s H (PcK G (st.take (n + 1)).reverse h0) (.ref (ad G ci c0) :: As.map (cv G)) := by
          refine ⟨pcK_blind, fun U hU hW => ⟨?_, by rw [hU]; exact hw.1, va_K.moved hW.alike hK, by rw [hU]; exact hw.2.2, hX.warm hW⟩⟩
          rw [hv]
          rfl
        have hstk : (F0 m pc la (st.map (cv G))).stack = (As.map (cv G)).reverse ++ .ref (ad G ci c0) :: (st.drop (n + 1)).map (cv G) := by
          show st.map (cv G) = _
          have h10 := congrArg (List.map (cv G)) hst
          rw [List.map_append, List.map_cons, List.map_reverse] at h10
          exact h10
        have hroom : 2 * (F0 m pc la (st.map (cv G))).monitorRoom + (((st.drop (n + 1)).map (cv G)).map fun v => v.category).sum ≤ 8 := by
          refine lv_room ?_
          refine Nat.le_trans (catsum _) ?_
          rw [List.length_map, List.length_drop]
          omega
        have hgi : GoodIn gtb (Cond.code y bytes maxL none :: gtb) := gIn (fun w hw => by
          rcases List.mem_cons.mp hw with hw | hw
          · rw [hw]; exact w3
          · exact hw)
        have hfit : h0.length - n0 + (r0.2.1 - h0.length) ≤ N - n0 ∧ z - z0 + (r0.2.2 - z) ≤ Z - z0 := ⟨by omega, by omega⟩
        have hrun : va_Run p l e { frames := fr, cells := N - n0, slots := Z - z0, locals := lo } s m args below meth c H locs (h0.length - n0) (z - z0) (r0.2.1 - h0.length) (r0.2.2 - z) (F0 m pc la (st.map (cv G))) ((st.drop (n + 1)).map (cv G)) (QK G r0 (Value.ref (ad G ci c0) :: As.map (cv G)).toArray) (Af G) := by
          rcases hlink args s hts hX with hlk2 | hlk2
          · exact va_runI (As := As.map (cv G)) ⟨hx, hb, hml, hown, hts⟩ hM (cwI n hts hgi rfl rfl rfl (hts _ w2) hlk2 (hts _ w1) hy1 hy hR) hpre rfl (by rw [List.length_map, hAs]) hl.1 hstk hroom hd hfit
          · exact va_runIN (As := As.map (cv G)) (host := "ShownLibrary") ⟨hx, hb, hml, hown, hts⟩ hM ⟨va_cnB n hts hgi rfl rfl rfl hlk2 (hts _ w2) hy hR, hy1, hts _ w1⟩ hpre rfl (by rw [List.length_map, hAs]) hl.1 hstk hroom hd hfit
        refine callK_core hrun hw fun H' locs' hlen hw' => ?_
        have hr0 : rs r0.1.reverse r0.2.2 = r0 := by unfold rs; rw [List.reverse_reverse, List.length_reverse, ← hlen]
        have hlr : r0.1.reverse.length = r0.2.1 := by rw [List.length_reverse, hlen]
        have hsd : StK (st.drop (n + 1)) := fun v hv => hs v (List.mem_of_mem_drop hv)
        have := hk (pc + 3) ls (st.drop (n + 1)) r0.1.reverse r0.2.2 H' locs' la hl hsd hw' (by omega) (by omega) (by rw [hr0]; exact hi)
        rw [hlr, show r0.2.1 - n0 = h0.length - n0 + (r0.2.1 - h0.length) by omega, show r0.2.2 - z0 = z - z0 + (r0.2.2 - z) by omega] at this
        exact this
      · exact nnK hi
    · exact nnK hi
  · exact nnK hi
end CALLK
def evK (code : Nat → Option KI) : Nat → KK
  | 0 => fun _ _ _ _ => none
  | n + 1 => fun pc ls st h => match code pc with
    | some i => i ls st h (evK code n)
    | none => none
def denK (nL : Nat) (code : Nat → Nat → Nat → Option KI) (dN : Nat) (dZ : List AV → Nat) (fuel : Nat) : List AV → KS → Option KS := fun vals h => bif Nat.ble (exv vals).length nL then (match evK (code (h.2.1 + dN) (h.2.2 + dZ vals)) fuel 0 (loc0 nL vals) [] h with
  | some r => if r.2.1 = h.2.1 + dN ∧ r.2.2 = h.2.2 + dZ vals then some r else none
  | none => none) else none
section METK
variable {G : Wp} {l : Launch} {own : String} {cc : ByteArray} {nL fr lo : Nat}
theorem evK_W {n0 z0 N Z : Nat} {code : Nat → Option KI} (hS : ∀ pc i, code pc = some i → SdK G l own cc nL fr lo n0 z0 N Z pc i) {p : Program} {e : Env} {s : State} {m : MethodId} {args : Array Value} {below : List Frame} {meth : Method} {c : Code} (hC : CxK G own cc nL n0 p s m args meth c) {r : KS} : ∀ (n pc : Nat) (ls : Lc) (st : List AV) (h : List KC) (z : Nat) (H : Heap) (locs : List Loc) (la : Array Slot), LsK G nL ls la → StK st → WoK G s h H locs → n0 ≤ h.length → z0 ≤ z → evK code n pc ls st (rs h z) = some r → W p l e { frames := fr, cells := N - n0, slots := Z - z0, locals := lo } s m args below meth c H locs (h.length - n0) (z - z0) (MQ below (QK G r) args s (N - n0) (Z - z0) (Af G)) (F0 m pc la (st.map (cv G)))
  | 0, _, _, _, _, _, _, _, _, _, _, _, _, _, h => nnK h
  | n + 1, pc, ls, st, h, z, H, locs, la, hl, hs, hw, hn, hz, he => by
    cases hc : code pc with
    | none => simp only [evK, hc] at he; cases he
    | some i =>
      simp only [evK, hc] at he
      exact hS pc i hc p e s m args below meth c hC r (evK code n) ls st h z H locs la hl hs hw hn hz he (fun pc' ls' st' h' z' H' locs' la' hl' hs' hw' hn' hz' h' => evK_W hS hC n pc' ls' st' _ z' H' locs' la' hl' hs' hw' hn' hz' h')
theorem metK_of {y : MethodName} {code : Nat → Nat → Nat → Option KI} {dN fuel : Nat} {dZ : List AV → Nat} (hS : ∀ n0 z0 N Z pc i, code N Z pc = some i → SdK G l own cc nL fr lo n0 z0 N Z pc i) (hy : plainName y.cls = true) (hcl : y.cls = own) (hn1 : y.name = "<init>") : KGood G l y cc nL fr lo (denK nL code dN dZ fuel) := by
  intro vals h z r hv hf
  have hlen : (exv vals).length ≤ nL := by
    by_cases hh : Nat.ble (exv vals).length nL = true
    · exact Nat.le_of_ble_eq_true hh
    · unfold denK at hf
      rw [Bool.not_eq_true] at hh
      rw [hh] at hf
      exact nnK hf
  have hf2 : evK (code (h.length + dN) (z + dZ vals)) fuel 0 (loc0 nL vals) [] (rs h z) = some r ∧ r.2.1 = h.length + dN ∧ r.2.2 = z + dZ vals := by
    unfold denK at hf
    rw [Nat.ble_eq_true_of_le hlen, cond_true] at hf
    split at hf
    · rename_i r' hr'
      split at hf
      · rename_i hq
        cases hf
        exact ⟨hr', hq⟩
      · exact nnK hf
    · exact nnK hf
  obtain ⟨hf2, r1', r2'⟩ := hf2
  rw [r1', r2']
  refine Met.ofW (cc := cc) (maxL := nL) (ret := none) hy rfl ?_
  intro p e s m args below meth c s₁ B hml hp
  obtain ⟨ha, hP, hK, hZ, hX⟩ := hp
  subst ha
  have hts0 := atoms_spec (ws := Cond.code y cc nL none :: gtb) B.pre
  have hown : s.vm.findClass own = some m.cls := by rw [← hcl]; exact findClass_of_methodNamed B.named
  have hmn : meth.name = "<init>" := (name_of_methodNamed B.named B.method).1.trans hn1
  rw [lg_entry_eq]
  have hle : (lg_sl (vals.map (cv G))).length ≤ nL := by rw [exv_len]; exact hlen
  have hl := lv_entry (vals.map (cv G)) (n := nL) hle
  have := evK_W (n0 := h.length) (z0 := z) (N := h.length + dN) (Z := z + dZ vals) (below := below) (p := p) (e := e) (hS h.length z _ _) (c := c) (meth := meth) (m := m) (s := s) (args := (vals.map (cv G)).toArray) ⟨B.exec, B.bytes, hml, hown, fun w hw => hts0 w (List.mem_cons_of_mem _ hw), B.notSynchronized, B.returns, hK, hmn, hZ, hX⟩ fuel 0 (loc0 nL vals) [] h z s.heap [] _ ⟨hl.1, ?_, hl.2.1, ?_⟩ stK_nil ⟨hP, va_S.rf, hZ⟩ (Nat.le_refl _) (Nat.le_refl _) hf2
  · rw [Nat.sub_self, Nat.sub_self] at this
    exact this
  · unfold loc0
    rw [List.length_append, List.length_replicate]
    omega
  · intro i v hi
    unfold loc0 at hi
    by_cases hlt : i < (exv vals).length
    · rw [List.getElem?_append_left hlt] at hi
      obtain ⟨h1, h2⟩ := exv_mem (G := G) vals 0 i v hi
      rw [Nat.zero_add] at h1
      exact ⟨hv v h2, hl.2.2 _ h1⟩
    · rw [List.getElem?_append_right (by omega), List.getElem?_replicate] at hi
      split at hi <;> cases hi
end METK
