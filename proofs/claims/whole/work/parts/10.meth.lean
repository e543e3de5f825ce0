section CALLS2
variable {L : Lo} {G : Wp} {l : Launch} {own : String} {cc : ByteArray} {nL : Nat} {ret : Option FieldType} {R : Room} {pc : Nat}
variable {y : MethodName} {C : String} {T : u_T} {NF ci idx n maxL : Nat} {bytes : ByteArray} {rt : Option FieldType} {rm : Room} {f : List AV → Mem → Option Rs}
theorem s_vcallI (hd : decode cc pc = .ok (.invokevirtual idx, 3)) (hG : GoodM L G l y bytes maxL rt rm f) (hc : vwCl[ci]? = some (C, T, NF)) (h20 : ci < 20)
    (hy : y.cls = C ∧ y.cls ≠ "java/lang/invoke/MethodHandle" ∧ y.cls ≠ "java/lang/invoke/VarHandle" ∧ (parseMethodDescriptor y.desc).map (fun d => d.parameters.length) = some n)
    (hws : ∀ w ∈ ([.methodLink own idx y, .instanceMethod y, .selects C y y, .initialized C] : List Cond) ++ [Cond.code y bytes maxL rt], w ∈ gtb) (hrc : rm.cells = 0) (hrs : rm.slots = 0) (hR : rm.frames + 1 ≤ R.frames ∧ 8 + (maxL + 11) + rm.locals ≤ R.locals) : Snd L G l own cc nL ret R pc (i_callI (pc + 3) (n + 1) (rcv ci) f) := by
  intro p e s m args below meth c hC r k ls st μ H locs la hl hs hw hi hk
  by_cases ho : okc (n + 1) (rcv ci) st = true
  · replace hi := (if_pos ho).symm.trans hi
    cases hf : f (st.take (n + 1)).reverse μ with
    | none => rw [hf] at hi; exact nn hi
    | some r0 =>
      rw [hf] at hi
      have hsd : StOk L (st.drop (n + 1)) := fun v hv => hs v (List.mem_of_mem_drop hv)
      refine virt_core hd hG hc h20 hy hws hrc hrs hR hC hl hs hw ho hf (fun H' locs' hok hw' => ?_)
      rcases r0 with ⟨_ | x | x | x, μ'⟩
      · exact nn hi
      · exact hk (pc + 3) ls (.inl x :: st.drop (n + 1)) μ' H' locs' la hl (stOk_cons.mpr ⟨hok _ rfl, hsd⟩) hw' hi
      · exact nn hi
      · exact nn hi
  · exact nn ((if_neg ho).symm.trans hi)
theorem s_vcallV (hd : decode cc pc = .ok (.invokevirtual idx, 3)) (hG : GoodM L G l y bytes maxL rt rm f) (hc : vwCl[ci]? = some (C, T, NF)) (h20 : ci < 20)
    (hy : y.cls = C ∧ y.cls ≠ "java/lang/invoke/MethodHandle" ∧ y.cls ≠ "java/lang/invoke/VarHandle" ∧ (parseMethodDescriptor y.desc).map (fun d => d.parameters.length) = some n)
    (hws : ∀ w ∈ ([.methodLink own idx y, .instanceMethod y, .selects C y y, .initialized C] : List Cond) ++ [Cond.code y bytes maxL rt], w ∈ gtb) (hrc : rm.cells = 0) (hrs : rm.slots = 0) (hR : rm.frames + 1 ≤ R.frames ∧ 8 + (maxL + 11) + rm.locals ≤ R.locals) : Snd L G l own cc nL ret R pc (i_callV (pc + 3) (n + 1) (rcv ci) f) := by
  intro p e s m args below meth c hC r k ls st μ H locs la hl hs hw hi hk
  by_cases ho : okc (n + 1) (rcv ci) st = true
  · replace hi := (if_pos ho).symm.trans hi
    cases hf : f (st.take (n + 1)).reverse μ with
    | none => rw [hf] at hi; exact nn hi
    | some r0 =>
      rw [hf] at hi
      have hsd : StOk L (st.drop (n + 1)) := fun v hv => hs v (List.mem_of_mem_drop hv)
      refine virt_core hd hG hc h20 hy hws hrc hrs hR hC hl hs hw ho hf (fun H' locs' hok hw' => ?_)
      rcases r0 with ⟨_ | x, μ'⟩
      · exact hk (pc + 3) ls (st.drop (n + 1)) μ' H' locs' la hl hsd hw' hi
      · exact nn hi
  · exact nn ((if_neg ho).symm.trans hi)
theorem s_vcallR {t : Nat} (hd : decode cc pc = .ok (.invokevirtual idx, 3)) (hG : GoodM L G l y bytes maxL rt rm f) (hc : vwCl[ci]? = some (C, T, NF)) (h20 : ci < 20)
    (hy : y.cls = C ∧ y.cls ≠ "java/lang/invoke/MethodHandle" ∧ y.cls ≠ "java/lang/invoke/VarHandle" ∧ (parseMethodDescriptor y.desc).map (fun d => d.parameters.length) = some n)
    (hws : ∀ w ∈ ([.methodLink own idx y, .instanceMethod y, .selects C y y, .initialized C] : List Cond) ++ [Cond.code y bytes maxL rt], w ∈ gtb) (hrc : rm.cells = 0) (hrs : rm.slots = 0) (hR : rm.frames + 1 ≤ R.frames ∧ 8 + (maxL + 11) + rm.locals ≤ R.locals) : Snd L G l own cc nL ret R pc (i_callR (pc + 3) (n + 1) t (rcv ci) f) := by
  intro p e s m args below meth c hC r k ls st μ H locs la hl hs hw hi hk
  by_cases ho : okc (n + 1) (rcv ci) st = true
  · replace hi := (if_pos ho).symm.trans hi
    cases hf : f (st.take (n + 1)).reverse μ with
    | none => rw [hf] at hi; exact nn hi
    | some r0 =>
      rw [hf] at hi
      have hsd : StOk L (st.drop (n + 1)) := fun v hv => hs v (List.mem_of_mem_drop hv)
      refine virt_core hd hG hc h20 hy hws hrc hrs hR hC hl hs hw ho hf (fun H' locs' hok hw' => ?_)
      rcases r0 with ⟨_ | x | x | _ | ⟨t', c0⟩, μ'⟩
      · exact nn hi
      · exact nn hi
      · exact nn hi
      · exact hk (pc + 3) ls (.inr (.inr none) :: st.drop (n + 1)) μ' H' locs' la hl (stOk_cons.mpr ⟨hok _ rfl, hsd⟩) hw' hi
      · by_cases et1 : t' = t
        · have hi2 : k (pc + 3) ls (.inr (.inr (some (t, c0))) :: st.drop (n + 1)) μ' = some r := (if_pos et1).symm.trans hi
          subst et1
          exact hk (pc + 3) ls (.inr (.inr (some (t', c0))) :: st.drop (n + 1)) μ' H' locs' la hl (stOk_cons.mpr ⟨hok _ rfl, hsd⟩) hw' hi2
        · exact nn ((if_neg et1).symm.trans hi)
  · exact nn ((if_neg ho).symm.trans hi)
theorem s_scallI (hd : decode cc pc = .ok (.invokestatic idx, 3)) (hG : GoodM L G l y bytes maxL rt rm f)
    (hy : y.cls ≠ "java/lang/invoke/MethodHandle" ∧ y.cls ≠ "java/lang/invoke/VarHandle" ∧ (parseMethodDescriptor y.desc).map (fun d => d.parameters.length) = some n)
    (hws : ∀ w ∈ ([.methodLink own idx y, .static y, .initialized y.cls] : List Cond) ++ [Cond.code y bytes maxL rt], w ∈ gtb) (hrc : rm.cells = 0) (hrs : rm.slots = 0) (hR : rm.frames + 1 ≤ R.frames ∧ 8 + (maxL + 11) + rm.locals ≤ R.locals) : Snd L G l own cc nL ret R pc (i_callI (pc + 3) n anyv f) := by
  intro p e s m args below meth c hC r k ls st μ H locs la hl hs hw hi hk
  by_cases ho : okc n anyv st = true
  · replace hi := (if_pos ho).symm.trans hi
    cases hf : f (st.take n).reverse μ with
    | none => rw [hf] at hi; exact nn hi
    | some r0 =>
      rw [hf] at hi
      have hsd : StOk L (st.drop n) := fun v hv => hs v (List.mem_of_mem_drop hv)
      refine stat_core hd hG hy hws hrc hrs hR hC hl hs hw ho hf (fun H' locs' hok hw' => ?_)
      rcases r0 with ⟨_ | x | x | x, μ'⟩
      · exact nn hi
      · exact hk (pc + 3) ls (.inl x :: st.drop n) μ' H' locs' la hl (stOk_cons.mpr ⟨hok _ rfl, hsd⟩) hw' hi
      · exact nn hi
      · exact nn hi
  · exact nn ((if_neg ho).symm.trans hi)
theorem s_scallV (hd : decode cc pc = .ok (.invokestatic idx, 3)) (hG : GoodM L G l y bytes maxL rt rm f)
    (hy : y.cls ≠ "java/lang/invoke/MethodHandle" ∧ y.cls ≠ "java/lang/invoke/VarHandle" ∧ (parseMethodDescriptor y.desc).map (fun d => d.parameters.length) = some n)
    (hws : ∀ w ∈ ([.methodLink own idx y, .static y, .initialized y.cls] : List Cond) ++ [Cond.code y bytes maxL rt], w ∈ gtb) (hrc : rm.cells = 0) (hrs : rm.slots = 0) (hR : rm.frames + 1 ≤ R.frames ∧ 8 + (maxL + 11) + rm.locals ≤ R.locals) : Snd L G l own cc nL ret R pc (i_callV (pc + 3) n anyv f) := by
  intro p e s m args below meth c hC r k ls st μ H locs la hl hs hw hi hk
  by_cases ho : okc n anyv st = true
  · replace hi := (if_pos ho).symm.trans hi
    cases hf : f (st.take n).reverse μ with
    | none => rw [hf] at hi; exact nn hi
    | some r0 =>
      rw [hf] at hi
      have hsd : StOk L (st.drop n) := fun v hv => hs v (List.mem_of_mem_drop hv)
      refine stat_core hd hG hy hws hrc hrs hR hC hl hs hw ho hf (fun H' locs' hok hw' => ?_)
      rcases r0 with ⟨_ | x, μ'⟩
      · exact hk (pc + 3) ls (st.drop n) μ' H' locs' la hl hsd hw' hi
      · exact nn hi
  · exact nn ((if_neg ho).symm.trans hi)
theorem s_scallR {t : Nat} (hd : decode cc pc = .ok (.invokestatic idx, 3)) (hG : GoodM L G l y bytes maxL rt rm f)
    (hy : y.cls ≠ "java/lang/invoke/MethodHandle" ∧ y.cls ≠ "java/lang/invoke/VarHandle" ∧ (parseMethodDescriptor y.desc).map (fun d => d.parameters.length) = some n)
    (hws : ∀ w ∈ ([.methodLink own idx y, .static y, .initialized y.cls] : List Cond) ++ [Cond.code y bytes maxL rt], w ∈ gtb) (hrc : rm.cells = 0) (hrs : rm.slots = 0) (hR : rm.frames + 1 ≤ R.frames ∧ 8 + (maxL + 11) + rm.locals ≤ R.locals) : Snd L G l own cc nL ret R pc (i_callR (pc + 3) n t anyv f) := by
  intro p e s m args below meth c hC r k ls st μ H locs la hl hs hw hi hk
  by_cases ho : okc n anyv st = true
  · replace hi := (if_pos ho).symm.trans hi
    cases hf : f (st.take n).reverse μ with
    | none => rw [hf] at hi; exact nn hi
    | some r0 =>
      rw [hf] at hi
      have hsd : StOk L (st.drop n) := fun v hv => hs v (List.mem_of_mem_drop hv)
      refine stat_core hd hG hy hws hrc hrs hR hC hl hs hw ho hf (fun H' locs' hok hw' => ?_)
      rcases r0 with ⟨_ | x | x | _ | ⟨t', c0⟩, μ'⟩
      · exact nn hi
      · exact nn hi
      · exact nn hi
      · exact hk (pc + 3) ls (.inr (.inr none) :: st.drop n) μ' H' locs' la hl (stOk_cons.mpr ⟨hok _ rfl, hsd⟩) hw' hi
      · by_cases et1 : t' = t
        · have hi2 : k (pc + 3) ls (.inr (.inr (some (t, c0))) :: st.drop n) μ' = some r := (if_pos et1).symm.trans hi
          subst et1
          exact hk (pc + 3) ls (.inr (.inr (some (t', c0))) :: st.drop n) μ' H' locs' la hl (stOk_cons.mpr ⟨hok _ rfl, hsd⟩) hw' hi2
        · exact nn ((if_neg et1).symm.trans hi)
  · exact nn ((if_neg ho).symm.trans hi)
end CALLS2
/-! A METHOD'S CONTRACT out of its code -/
def exv : List AV → Lc
  | [] => []
  | .inr (.inl x) :: vs => some (.inr (.inl x)) :: none :: exv vs
  | .inl x :: vs => some (.inl x) :: exv vs
  | .inr (.inr x) :: vs => some (.inr (.inr x)) :: exv vs
def loc0 (nL : Nat) (vals : List AV) : Lc := exv vals ++ List.replicate (nL - (exv vals).length) none
noncomputable def den (nL : Nat) (code : Nat → Option Ins) : List AV → Mem → Option Rs := fun vals μ => bif Nat.ble (exv vals).length nL then Rn code 0 (loc0 nL vals) [] μ else none
theorem exv_len {G : Wp} : ∀ vs : List AV, (lg_sl (vs.map (cv G))).length = (exv vs).length
  | [] => rfl
  | v :: vs => by
    have h := exv_len (G := G) vs
    rcases v with x | x | _ | ⟨t, c⟩
    all_goals simp only [List.map_cons, lg_sl, List.flatMap_cons, List.length_append, exv, List.length_cons] at h ⊢
    all_goals simp [cv, Value.category, lg_sl] at h ⊢
    all_goals omega
theorem exv_mem {G : Wp} : ∀ (vs : List AV) (off i : Nat) (v : AV), (exv vs)[i]? = some (some v) → (off + i, cv G v) ∈ lv_args off (vs.map (cv G)) ∧ v ∈ vs
  | [], _, _, _, h => by simp [exv] at h
  | w :: vs, off, i, v, h => by
    rcases w with x | x | x
    · cases i with
      | zero => simp only [exv, List.getElem?_cons_zero, Option.some.injEq] at h; subst h; exact ⟨by simp [lv_args], List.mem_cons_self⟩
      | succ i =>
        simp only [exv, List.getElem?_cons_succ] at h
        obtain ⟨h1, h2⟩ := exv_mem (G := G) vs (off + 1) i v h
        refine ⟨?_, List.mem_cons_of_mem _ h2⟩
        rw [show off + (i + 1) = off + 1 + i by omega]
        exact List.mem_cons_of_mem _ h1
    · cases i with
      | zero => simp only [exv, List.getElem?_cons_zero, Option.some.injEq] at h; subst h; exact ⟨by simp [lv_args], List.mem_cons_self⟩
      | succ i =>
        cases i with
        | zero => simp only [exv, List.getElem?_cons_succ, List.getElem?_cons_zero, Option.some.injEq] at h; cases h
        | succ i =>
          simp only [exv, List.getElem?_cons_succ] at h
          obtain ⟨h1, h2⟩ := exv_mem (G := G) vs (off + 2) i v h
          refine ⟨?_, List.mem_cons_of_mem _ h2⟩
          rw [show off + (i + 1 + 1) = off + 2 + i by omega]
          exact List.mem_cons_of_mem _ h1
    · cases i with
      | zero => simp only [exv, List.getElem?_cons_zero, Option.some.injEq] at h; subst h; exact ⟨by simp [lv_args], List.mem_cons_self⟩
      | succ i =>
        simp only [exv, List.getElem?_cons_succ] at h
        obtain ⟨h1, h2⟩ := exv_mem (G := G) vs (off + 1) i v h
        refine ⟨?_, List.mem_cons_of_mem _ h2⟩
        rw [show off + (i + 1) = off + 1 + i by omega]
        rcases x with _ | ⟨t, c⟩ <;> exact List.mem_cons_of_mem _ h1
section METH
variable {L : Lo} {G : Wp} {l : Launch} {own : String} {cc : ByteArray} {nL : Nat} {ret : Option FieldType} {R : Room} {code : Nat → Option Ins}
theorem ev_W (hS : ∀ pc i, code pc = some i → Snd L G l own cc nL ret R pc i) {p : Program} {e : Env} {s : State} {m : MethodId} {args : Array Value} {below : List Frame} {meth : Method} {c : Code} (hC : Cx L G own cc nL ret p s m args meth c) {r : Rs} : ∀ (n pc : Nat) (ls : Lc) (st : List AV) (μ : Mem) (H : Heap) (locs : List Loc) (la : Array Slot), LsOk L G nL ls la → StOk L st → Wo L G s μ H locs → ev code n pc ls st μ = some r → W p l e R s m args below meth c H locs 0 0 (MQ below (Qr L G r) args s 0 0 (Ar L G)) (F0 m pc la (st.map (cv G)))
  | 0, _, _, _, _, _, _, _, _, _, _, h => nn h
  | n + 1, pc, ls, st, μ, H, locs, la, hl, hs, hw, h => by
    cases hc : code pc with
    | none => simp only [ev, hc] at h; cases h
    | some i =>
      simp only [ev, hc] at h
      exact hS pc i hc p e s m args below meth c hC r (ev code n) ls st μ H locs la hl hs hw h (fun pc' ls' st' μ' H' locs' la' hl' hs' hw' h' => ev_W hS hC n pc' ls' st' μ' H' locs' la' hl' hs' hw' h')
theorem met_of {y : MethodName} {rm : Room} (hT : TriC code) (hS : ∀ pc i, code pc = some i → Snd L G l own cc nL ret rm pc i) (hy : plainName y.cls = true) (hcl : y.cls = own) (hN : L.1 ≤ 5000) : GoodM L G l y cc nL ret rm (den nL code) := by
  intro vals μ r hv hm hf
  have hlen : (exv vals).length ≤ nL := by
    by_cases h : Nat.ble (exv vals).length nL = true
    · exact Nat.le_of_ble_eq_true h
    · unfold den at hf
      rw [Bool.not_eq_true] at h
      rw [h] at hf
      exact nn hf
  have hf2 : Rn code 0 (loc0 nL vals) [] μ = some r := by
    unfold den at hf
    rw [Nat.ble_eq_true_of_le hlen] at hf
    exact hf
  obtain ⟨n, hn⟩ := (Rn_iff hT).mp hf2
  refine Met.ofW (cc := cc) (maxL := nL) (ret := ret) hy rfl ?_
  intro p e s m args below meth c s₁ B hml hp
  obtain ⟨ha, hP, hK, hZ⟩ := hp
  subst ha
  have hts0 := atoms_spec (ws := Cond.code y cc nL ret :: gtb) B.pre
  have hown : s.vm.findClass own = some m.cls := by rw [← hcl]; exact findClass_of_methodNamed B.named
  rw [lg_entry_eq]
  have hle : (lg_sl (vals.map (cv G))).length ≤ nL := by rw [exv_len]; exact hlen
  have hl := lv_entry (vals.map (cv G)) (n := nL) hle
  refine ev_W (R := rm) hS ⟨B.exec, B.bytes, hml, hown, fun w hw => hts0 w (List.mem_cons_of_mem _ hw), B.notSynchronized, B.returns, hK, hZ, hN⟩ n 0 (loc0 nL vals) [] μ s.heap [] _ ?_ stOk_nil ⟨hP, va_S.rf, hm⟩ hn
  refine ⟨hl.1, ?_, hl.2.1, ?_⟩
  · unfold loc0
    rw [List.length_append, List.length_replicate]
    omega
  · intro i v hi
    unfold loc0 at hi
    by_cases hlt : i < (exv vals).length
    · rw [List.getElem?_append_left hlt] at hi
      obtain ⟨h1, h2⟩ := exv_mem (G := G) vals 0 i v hi
      rw [Nat.zero_add] at h1
      exact ⟨hv v h2, hl.2.2 _ h1⟩
    · rw [List.getElem?_append_right (by omega), List.getElem?_replicate] at hi
      split at hi <;> cases hi
end METH
