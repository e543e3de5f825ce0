/-! CALLS, and a method's contract out of its code -/
def PcM (L : Lo) (G : Wp) (vals : List AV) (μ : Mem) : Array Value → State → Prop := fun a U => a = (vals.map (cv G)).toArray ∧ va_P G.2.2.1 vwCl (pic L G μ) U.heap ∧ va_K G.2.2.1 vwCl (tysL G) U ∧ SZ L G U
def GoodM (L : Lo) (G : Wp) (l : Launch) (y : MethodName) (bytes : ByteArray) (maxL : Nat) (rt : Option FieldType) (rm : Room) (f : List AV → Mem → Option Rs) : Prop :=
  ∀ (vals : List AV) (μ : Mem) (r : Rs), (∀ v ∈ vals, okV L v) → okM L μ → f vals μ = some r → Met l y (Cond.code y bytes maxL rt :: gtb) rm (PcM L G vals μ) (Qr L G r) 0 0 (Ar L G)
theorem sz_moved {L : Lo} {G : Wp} {s U : State} (h : SZ L G s) (hvm : s.vm.Alike U.vm) (hq : ∀ a : Nat, a < s.heap.size → ¬ Ar L G a → U.heap[a]? = s.heap[a]?) : SZ L G U := by
  intro j q hj
  obtain ⟨h1, h2⟩ := h j q hj
  exact ⟨(h1.kept hq).moved hvm, (h2.kept hq).moved hvm⟩
theorem pcM_blind {L : Lo} {G : Wp} {vals : List AV} {μ : Mem} : FrameBlind (PcM L G vals μ) := by
  intro a U g mk h
  obtain ⟨h1, h2, h3, h4⟩ := h
  exact ⟨h1, h2, va_K.moved (u := U) (U := U.calling g mk a) (Vm.Alike.refl U.vm) h3, sz_moved (U := U.calling g mk a) h4 (Vm.Alike.refl U.vm) (fun _ _ _ => rfl)⟩
theorem catsum : ∀ (st : List Value), (st.map fun v => v.category).sum ≤ 2 * st.length
  | [] => by simp
  | v :: st => by
    have h := catsum st
    have h2 := lv_cat v
    simp only [List.map_cons, List.sum_cons, List.length_cons]
    omega
theorem rcv_spec {t : Nat} {vs : List AV} (h : rcv t vs = true) : ∃ c As, vs = .inr (.inr (some (t, c))) :: As := by
  rcases vs with _ | ⟨x | x | _ | ⟨t', c⟩, As⟩
  · cases h
  · cases h
  · cases h
  · cases h
  · have h2 : Nat.beq t' t = true := h
    exact ⟨c, As, by rw [Nat.eq_of_beq_eq_true h2]⟩
theorem okc_spec {a : Nat} {chk : List AV → Bool} {st : List AV} (h : okc a chk st = true) : a ≤ st.length ∧ st.length ≤ a + 4 ∧ chk (st.take a).reverse = true := by
  unfold okc at h
  simp only [Bool.and_eq_true] at h
  exact ⟨Nat.le_of_ble_eq_true h.1, Nat.le_of_ble_eq_true h.2.1, h.2.2⟩
theorem gIn_app {ws : List Cond} {y : MethodName} {bytes : ByteArray} {maxL : Nat} {rt : Option FieldType} {pre : List Cond} (h : ∀ w ∈ pre ++ [Cond.code y bytes maxL rt], w ∈ gtb) : GoodIn gtb (pre ++ (Cond.code y bytes maxL rt :: gtb)) := by
  apply gIn
  intro w hw
  rcases List.mem_append.mp hw with hw | hw
  · exact h w (List.mem_append_left _ hw)
  · rcases List.mem_cons.mp hw with hw | hw
    · exact h w (List.mem_append_right _ (by rw [hw]; exact List.mem_cons_self))
    · exact hw
section CALLS
variable {L : Lo} {G : Wp} {l : Launch} {own : String} {cc : ByteArray} {nL : Nat} {ret : Option FieldType} {R : Room} {pc : Nat}
variable {y : MethodName} {C : String} {T : u_T} {NF ci idx n maxL : Nat} {bytes : ByteArray} {rt : Option FieldType} {rm : Room} {f : List AV → Mem → Option Rs}
theorem virt_core (hd : decode cc pc = .ok (.invokevirtual idx, 3)) (hG : GoodM L G l y bytes maxL rt rm f) (hc : vwCl[ci]? = some (C, T, NF)) (h20 : ci < 20)
    (hy : y.cls = C ∧ y.cls ≠ "java/lang/invoke/MethodHandle" ∧ y.cls ≠ "java/lang/invoke/VarHandle" ∧ (parseMethodDescriptor y.desc).map (fun d => d.parameters.length) = some n)
    (hws : ∀ w ∈ ([.methodLink own idx y, .instanceMethod y, .selects C y y, .initialized C] : List Cond) ++ [Cond.code y bytes maxL rt], w ∈ gtb) (hrc : rm.cells = 0) (hrs : rm.slots = 0) (hR : rm.frames + 1 ≤ R.frames ∧ 8 + (maxL + 11) + rm.locals ≤ R.locals)
    {p : Program} {e : Env} {s : State} {m : MethodId} {args : Array Value} {below : List Frame} {meth : Method} {c : Code} (hC : Cx L G own cc nL ret p s m args meth c) {Q : State → Prop} {ls : Lc} {st : List AV} {μ : Mem} {H : Heap} {locs : List Loc} {la : Array Slot} (hl : LsOk L G nL ls la) (hs : StOk L st) (hw : Wo L G s μ H locs)
    (ho : okc (n + 1) (rcv ci) st = true) {r0 : Rs} (hf : f (st.take (n + 1)).reverse μ = some r0)
    (kk : ∀ (H' : Heap) (locs' : List Loc), (∀ v, r0.1 = some v → okV L v) → Wo L G s r0.2 H' locs' → W p l e R s m args below meth c H' locs' 0 0 Q (F0 m (pc + 3) la ((r0.1.map (cv G)).toList ++ (st.drop (n + 1)).map (cv G)))) :
    W p l e R s m args below meth c H locs 0 0 Q (F0 m pc la (st.map (cv G))) := by
  obtain ⟨hx, hb, hml, hown, hts, hlk, hrt, hK, hZ, hN⟩ := hC
  obtain ⟨h1, h2, h3⟩ := okc_spec ho
  obtain ⟨c0, As, hv⟩ := rcv_spec h3
  have hst : st = As.reverse ++ .inr (.inr (some (ci, c0))) :: st.drop (n + 1) := by
    have h4 : st.take (n + 1) = As.reverse ++ [.inr (.inr (some (ci, c0)))] := by
      have h5 := congrArg List.reverse hv
      rw [List.reverse_reverse, List.reverse_cons] at h5
      exact h5
    have h6 := (List.take_append_drop (n + 1) st).symm
    rw [h4] at h6
    simpa using h6
  have hAs : As.length = n := by
    have h7 := congrArg List.length hv
    rw [List.length_reverse, List.length_take, List.length_cons] at h7
    omega
  have hall : ∀ v ∈ (st.take (n + 1)).reverse, okV L v := fun v hv => hs v (List.mem_of_mem_take (List.mem_reverse.mp hv))
  have hrec : okR L ci c0 := hall (.inr (.inr (some (ci, c0)))) (by rw [hv]; exact List.mem_cons_self)
  obtain ⟨h8, h9⟩ := okR_cell hrec (by omega)
  have hM := hG _ μ r0 hall hw.2.2 hf
  have ea : ad G ci c0 = G.1 + c0 := ad_lt (by omega)
  refine call_core (r0 := r0) (rest := (st.drop (n + 1)).map (cv G)) (va_runV (As := As.map (cv G)) (b := ad G ci c0) ⟨hx, hb, hml, hown, hts⟩ hM (cwV n hts (gIn_app (ws := []) hws) rfl hrc hrs hy hR) ⟨pcM_blind, ?_, ?_⟩ rfl (by rw [List.length_map, hAs]) hl.1 ?_ ?_ hd ⟨Nat.zero_le _, Nat.zero_le _⟩) hw kk
  · rw [ea]
    exact va_recv hK hw.1 hc ((pic_get h8).trans (by rw [cell_obj hc h20 h9]))
  · intro U hU hW
    refine ⟨?_, by rw [hU]; exact hw.1, va_K.moved hW.alike hK, sz_moved hZ hW.alike (fun a ha hn => by rw [hU]; exact hw.2.1.2.1 a ha hn)⟩
    rw [hv]
    rfl
  · show st.map (cv G) = _
    have h10 := congrArg (List.map (cv G)) hst
    rw [List.map_append, List.map_cons, List.map_reverse] at h10
    exact h10
  · refine lv_room ?_
    refine Nat.le_trans (catsum _) ?_
    rw [List.length_map, List.length_drop]
    omega
theorem stat_core (hd : decode cc pc = .ok (.invokestatic idx, 3)) (hG : GoodM L G l y bytes maxL rt rm f)
    (hy : y.cls ≠ "java/lang/invoke/MethodHandle" ∧ y.cls ≠ "java/lang/invoke/VarHandle" ∧ (parseMethodDescriptor y.desc).map (fun d => d.parameters.length) = some n)
    (hws : ∀ w ∈ ([.methodLink own idx y, .static y, .initialized y.cls] : List Cond) ++ [Cond.code y bytes maxL rt], w ∈ gtb) (hrc : rm.cells = 0) (hrs : rm.slots = 0) (hR : rm.frames + 1 ≤ R.frames ∧ 8 + (maxL + 11) + rm.locals ≤ R.locals)
    {p : Program} {e : Env} {s : State} {m : MethodId} {args : Array Value} {below : List Frame} {meth : Method} {c : Code} (hC : Cx L G own cc nL ret p s m args meth c) {Q : State → Prop} {ls : Lc} {st : List AV} {μ : Mem} {H : Heap} {locs : List Loc} {la : Array Slot} (hl : LsOk L G nL ls la) (hs : StOk L st) (hw : Wo L G s μ H locs)
    (ho : okc n anyv st = true) {r0 : Rs} (hf : f (st.take n).reverse μ = some r0)
    (kk : ∀ (H' : Heap) (locs' : List Loc), (∀ v, r0.1 = some v → okV L v) → Wo L G s r0.2 H' locs' → W p l e R s m args below meth c H' locs' 0 0 Q (F0 m (pc + 3) la ((r0.1.map (cv G)).toList ++ (st.drop n).map (cv G)))) :
    W p l e R s m args below meth c H locs 0 0 Q (F0 m pc la (st.map (cv G))) := by
  obtain ⟨hx, hb, hml, hown, hts, hlk, hrt, hK, hZ, hN⟩ := hC
  obtain ⟨h1, h2, -⟩ := okc_spec ho
  have hall : ∀ v ∈ (st.take n).reverse, okV L v := fun v hv => hs v (List.mem_of_mem_take (List.mem_reverse.mp hv))
  have hM := hG _ μ r0 hall hw.2.2 hf
  refine call_core (r0 := r0) (rest := (st.drop n).map (cv G)) (va_runS (As := (st.take n).reverse.map (cv G)) ⟨hx, hb, hml, hown, hts⟩ hM (va_cwS n hts (gIn_app (ws := []) hws) rfl hrc hrs hy hR) ⟨pcM_blind, ?_⟩ rfl (by rw [List.length_map, List.length_reverse, List.length_take]; omega) hl.1 ?_ ?_ hd ⟨Nat.zero_le _, Nat.zero_le _⟩) hw kk
  · intro U hU hW
    exact ⟨rfl, by rw [hU]; exact hw.1, va_K.moved hW.alike hK, sz_moved hZ hW.alike (fun a ha hn => by rw [hU]; exact hw.2.1.2.1 a ha hn)⟩
  · show st.map (cv G) = _
    rw [← List.map_reverse, List.reverse_reverse, ← List.map_append, List.take_append_drop]
  · refine lv_room ?_
    refine Nat.le_trans (catsum _) ?_
    rw [List.length_map, List.length_drop]
    omega
end CALLS
