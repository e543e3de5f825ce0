/-! a row of four rows of ints is made -/
section MNA
variable {p : Program} {l : Launch} {e : Env} {R : Room} {s : State} {m : MethodId} {args : Array Value} {below : List Frame} {meth : Method} {c : Code} {H : Heap} {locs : List Loc} {cells slots : Nat} {Q : State → Prop}
/-- i rows of K ints hang in the row of rows at h -/
def mnA (cA cI : ClassId) (H : Heap) (K i : Nat) (U : Heap) : Prop := U.size = H.size + 1 + i ∧ (∀ q, q < H.size → U[q]? = H[q]?) ∧ U[H.size]? = some (arrV cA 4 (fun j => va_rf (if j < i then some (H.size + 1 + j) else none))) ∧ ∀ j, j < i → U[H.size + 1 + j]? = some (arrV cI K (fun _ => .int 0))
def mnU (S : State) (cA cI : ClassId) (h K : Nat) : Nat → State
  | 0 => S.pushCell (arrV cA 4 (fun _ => .null))
  | i + 1 => ((mnU S cA cI h K i).pushCell (arrV cI K (fun _ => .int 0))).setCell h ((arrV cA 4 (fun j => va_rf (if j < i then some (h + 1 + j) else none))).setSlot i (.ref (h + 1 + i)))
theorem mnA_step {cA cI : ClassId} {K i : Nat} {U : State} (hi : i < 4) (h : mnA cA cI H K i U.heap) : mnA cA cI H K (i + 1) ((U.pushCell (arrV cI K (fun _ => .int 0))).setCell H.size ((arrV cA 4 (fun j => va_rf (if j < i then some (H.size + 1 + j) else none))).setSlot i (.ref (H.size + 1 + i)))).heap := by
  obtain ⟨h1, h2, h3, h4⟩ := h
  have hlt : H.size < U.heap.size := by omega
  have h0 : (U.pushCell (arrV cI K (fun _ => .int 0))).heap[H.size]? = some (arrV cA 4 (fun j => va_rf (if j < i then some (H.size + 1 + j) else none))) := by
    rw [State.heap_pushCell_of_lt (h := hlt)]
    exact h3
  refine ⟨?_, fun q hq => ?_, ?_, fun j hj => ?_⟩
  · simp [State.setCell, h1]
    omega
  · rw [State.heap_setCell_other (show H.size ≠ q by omega), State.heap_pushCell_of_lt (h := show q < U.heap.size by omega)]
    exact h2 q hq
  · rw [State.heap_setCell_self h0, arrV_store]
    congr 2
    funext j
    unfold updV
    by_cases ej : j = i
    · subst ej
      rw [if_pos rfl, if_pos (by omega)]
      rfl
    · rw [if_neg ej]
      show va_rf (if j < i then some (H.size + 1 + j) else none) = _
      by_cases e2 : j < i
      · rw [if_pos e2, if_pos (by omega)]
      · rw [if_neg e2, if_neg (by omega)]
  · rw [State.heap_setCell_other (show H.size ≠ H.size + 1 + j by omega)]
    by_cases ej : j = i
    · subst ej
      rw [show H.size + 1 + j = U.heap.size by omega]
      exact State.heap_pushCell_size _ _
    · rw [State.heap_pushCell_of_lt (h := show H.size + 1 + j < U.heap.size by omega)]
      exact h4 j (by omega)
theorem mn_new {E : CtlPost} {d : Bool} {acts : List Action} {S : State} {cX comp : ClassId} {kX : Class} {type : FieldType} {len : Nat} {v : Value} (hk : S.vm.classes[cX]? = some kX) (hkind : kX.kind = .array comp type) (hl : len ≤ e.platform.arrayLengthLimit) (hh : len * componentBytes type ≤ e.platform.maxHeapBytes) (hfit : fits type v = true) (hdef : v.isDefault = true) {Qn : Addr → Pre} (h1 : S.heap.size < e.platform.maxCells) (h2 : S.slotsUsed + len ≤ e.platform.maxSlots)
    (hq : ∀ acts', Qn S.heap.size d acts' (S.pushCell (arrV cX len (fun _ => v)))) : wp (Jvm.newArray cX len v) Qn E e d acts S := by
  unfold Jvm.newArray Jvm.arrayFits
  simp only [wp_bind', W.ask, W.ite, wp_pure', W.theClass, hk, hkind, Option.some.injEq, exists_eq_left', W.stop, W.alloc]
  rw [if_neg (by omega), if_neg (by omega), if_neg (by omega)]
  refine ⟨h1, by rw [Array.size_replicate]; exact h2, fun i w hw => ?_, ?_⟩
  · rw [Array.getElem?_replicate] at hw
    split at hw
    · cases hw
      simp [State.fitsSlot, State.slotType?, hk, hkind, hfit]
    · cases hw
  · have := hq (allocActs (Array.replicate len v) S.heap.size acts)
    rw [← arrV_new] at this
    exact this
theorem mnU_vm {S : State} {cA cI : ClassId} {h K : Nat} : ∀ i, (mnU S cA cI h K i).vm = S.vm
  | 0 => rfl
  | i + 1 => mnU_vm i
theorem mnU_top {S : State} {cA cI : ClassId} {h K : Nat} {f : JFrame} : ∀ i, mnU (S.setTop f) cA cI h K i = (mnU S cA cI h K i).setTop f
  | 0 => rfl
  | i + 1 => by
    show ((mnU (S.setTop f) cA cI h K i).pushCell _).setCell _ _ = _
    rw [mnU_top i]
    rfl
theorem mnU_A {S : State} {cA cI : ClassId} {K : Nat} (hS : S.heap = H) : ∀ i, i ≤ 4 → mnA cA cI H K i (mnU S cA cI H.size K i).heap
  | 0, _ => by
    subst hS
    refine ⟨by simp [mnU], fun q hq => State.heap_pushCell_of_lt (h := hq) .., State.heap_pushCell_size _ _, fun j hj => absurd hj (Nat.not_lt_zero _)⟩
  | i + 1, hi => mnA_step (by omega) (mnU_A hS i (by omega))
theorem mnU_stand {T : State} {cA cI : ClassId} {K : Nat} (hT : T.heap = H) (X : Stand p l e R s m args below meth c T locs cells slots) : ∀ i, i ≤ 4 → Stand p l e R s m args below meth c (mnU T cA cI H.size K i) (locs ++ (List.range i).map fun j => ⟨H.size, j⟩) (cells + 1 + i) (slots + 4 + i * K)
  | 0, _ => by
    have h := X.pushed (arrV cA 4 (fun _ => .null))
    rw [arrV_size] at h
    show Stand p l e R s m args below meth c (T.pushCell (arrV cA 4 (fun _ => .null))) _ _ _
    simpa using h
  | i + 1, hi => by
    have Xi := mnU_stand (cA := cA) (cI := cI) (K := K) hT X i (by omega)
    obtain ⟨h1, h2, h3, h4⟩ := mnU_A (cA := cA) (cI := cI) (K := K) hT i (by omega)
    have h := (Xi.pushed (arrV cI K (fun _ => .int 0))).stored (a := H.size) (by rw [State.heap_pushCell_of_lt (h := show H.size < _ by omega)]; exact h3) i (.ref (H.size + 1 + i))
    rw [arrV_size, List.append_assoc] at h
    rw [List.range_succ, List.map_append, Nat.succ_mul, show slots + 4 + (i * K + K) = slots + 4 + i * K + K by omega]
    exact h
theorem mnU_used {S : State} {cA cI : ClassId} {h K : Nat} : ∀ i, (mnU S cA cI h K i).slotsUsed = S.slotsUsed + 4 + i * K
  | 0 => by
    show S.slotsUsed + (arrV cA 4 (fun _ => .null)).slots.size = _
    rw [arrV_size, Nat.zero_mul]
  | i + 1 => by
    show (mnU S cA cI h K i).slotsUsed + (arrV cI K (fun _ => .int 0)).slots.size = _
    rw [mnU_used i, arrV_size, Nat.succ_mul]
    omega
theorem mn_make {E : CtlPost} {d : Bool} {acts : List Action} {S : State} {cA cI cC : ClassId} {kA kC : Class} {k : Int32} {K : Nat} (hS : S.heap = H) (h1 : S.vm.classes[cA]? = some kA) (h2 : kA.kind = .array cI (.array .int)) (h3 : S.vm.classes[cI]? = some kC) (h4 : kC.kind = .array cC .int) (hk : ¬ k < 0) (hK : k.toNatClampNeg = K)
    (hl : 4 ≤ e.platform.arrayLengthLimit ∧ K ≤ e.platform.arrayLengthLimit) (hb : 4 * 4 ≤ e.platform.maxHeapBytes ∧ K * 4 ≤ e.platform.maxHeapBytes) (hc : H.size + 5 ≤ e.platform.maxCells) (hs : S.slotsUsed + (4 + 4 * K) ≤ e.platform.maxSlots) {Qn : Addr → Pre} (hq : ∀ d' acts', Qn H.size d' acts' (mnU S cA cI H.size K 4)) :
    wp (Op.multianewarray.make cA [4, k]) Qn E e d acts S := by
  rw [Op.multianewarray.make]
  simp only [wp_bind', W.ite, show ¬ (4 : Int32) < 0 by decide, if_false, wp_pure', W.theClass, h1, h2, Option.some.injEq, exists_eq_left']
  refine mn_new h1 h2 (len := (4 : Int32).toNatClampNeg) hl.1 hb.1 rfl rfl (by rw [hS]; omega) (by show S.slotsUsed + 4 ≤ _; omega) fun acts' => ?_
  subst hS
  rw [if_neg (by decide), wp_bind', Std.Legacy.Range.forIn_eq_forIn_range']
  show wp (forIn (List.range' 0 4 1) PUnit.unit _) _ E e d acts' (mnU S cA cI S.heap.size K 0)
  refine wp_forIn_inv (fun rest s' => ∃ i, i ≤ 4 ∧ rest = List.range' i (4 - i) ∧ s' = mnU S cA cI S.heap.size K i) _ _ ⟨0, by omega, rfl, rfl⟩ ?_ ?_
  · rintro x rest s' d' acts' Q' ⟨i, hi, hr, rfl⟩ hnext
    have hlt : i < 4 := by
      rcases Nat.lt_or_ge i 4 with h | h
      · exact h
      · rw [show 4 - i = 0 by omega] at hr
        cases hr
    rw [show 4 - i = (4 - (i + 1)) + 1 by omega, List.range'_succ] at hr
    obtain ⟨rfl, rfl⟩ := List.cons.inj hr
    obtain ⟨a1, a2, a3, a4⟩ := mnU_A (S := S) (cA := cA) (cI := cI) (K := K) rfl x hi
    have hu := mnU_used (S := S) (cA := cA) (cI := cI) (h := S.heap.size) (K := K) x
    have hm : x * K + K ≤ 4 * K := by
      have := Nat.mul_le_mul_right K (show x + 1 ≤ 4 from hlt)
      rw [Nat.succ_mul] at this
      exact this
    have hv := mnU_vm (S := S) (cA := cA) (cI := cI) (h := S.heap.size) (K := K) x
    rw [wp_bind', Op.multianewarray.make]
    simp only [wp_bind', W.ite, hk, if_false, wp_pure', W.theClass, hv, h3, h4, Option.some.injEq, exists_eq_left']
    refine mn_new (by rw [hv]; exact h3) h4 (len := k.toNatClampNeg) (by rw [hK]; exact hl.2) (by rw [hK]; exact hb.2) rfl rfl (by omega) (by rw [hu, hK]; omega) fun acts'' => ?_
    rw [hK]
    simp only [wp_bind', W.writeLoc, wp_pure']
    refine ⟨_, (by rw [State.heap_pushCell_of_lt (h := show S.heap.size < _ by omega)]; exact a3), (fun q => by cases q), (by rw [arrV_size]; exact hlt), ?_, hnext _ _ _ ⟨x + 1, hlt, rfl, ?_⟩⟩
    · show State.fitsSlot _ cA .none x _ = true
      simp [State.fitsSlot, State.slotType?, hv, h1, h2, fits]
    · rw [a1]
      rfl
  · rintro s' d' acts' ⟨i, hi, hr, rfl⟩
    have : i = 4 := by
      rcases Nat.lt_or_ge i 4 with h | h
      · rw [show 4 - i = (4 - (i + 1)) + 1 by omega, List.range'_succ] at hr
        cases hr
      · omega
    subst this
    simp only [wp_pure']
    exact hq _ _
theorem w_mna {cc : ByteArray} {own : String} {index pc K : Nat} {la : Array Slot} {rest : List Value} {cA cI : ClassId} {k : Int32} (hexec : p.tables.exec = Jvm.exec) (hb : c.code = cc) (hown : s.vm.findClass own = some m.cls) (hclink : (Cond.classLink own index "[[I").before args s = true)
    (hna : ∃ (kA kC : Class) (cC : ClassId), s.vm.findClass "[[I" = some cA ∧ s.vm.classes[cA]? = some kA ∧ kA.kind = .array cI (.array .int) ∧ s.vm.classes[cI]? = some kC ∧ kC.kind = .array cC .int) (hdg : decode cc pc = .ok (.multianewarray index 2, 4)) (hk : ¬ k < 0) (hK : k.toNatClampNeg = K) (hK2 : K ≤ 1000) (hcells : cells + 5 ≤ R.cells) (hslots : slots + (4 + 4 * K) ≤ R.slots)
    (kk : ∀ (H1 : Heap) (locs1 : List Loc), mnA cA cI H K 4 H1 → (∀ q ∈ locs1, q ∈ locs ∨ q.base = H.size) → W p l e R s m args below meth c H1 locs1 (cells + 5) (slots + (4 + 4 * K)) Q (F0 m (pc + 4) la (.ref H.size :: rest))) : W p l e R s m args below meth c H locs cells slots Q (F0 m pc la (.int k :: .int 4 :: rest)) := by
  intro T hT X
  have hpl : e.platform.magicAccessors = ({} : Platform).magicAccessors := by rw [X.admits.platform]
  obtain ⟨kA, kC, cC, n1, n2, n3, n4, n5⟩ := hna
  obtain ⟨c0, hfc0, hcl⟩ := Cond.classLink_spec hown hclink e.platform hpl
  obtain rfl : cA = c0 := Option.some.inj (n1.symm.trans hfc0)
  obtain ⟨hg₁, hwarm₁, -⟩ := State.classEntry (e := e) X.warmed hcl
  generalize T.vm.noted m.cls index (.cls cA) = vm₁ at hg₁ hwarm₁
  obtain ⟨kA₁, hkA₁, heA⟩ := hwarm₁.alike.2.2 _ _ n2
  obtain ⟨kC₁, hkC₁, heC⟩ := hwarm₁.alike.2.2 _ _ n4
  have X₁ := X.noted hwarm₁
  have hT1 : (T.setVm vm₁).heap = H := hT
  have XF := mnU_stand (cA := cA) (cI := cI) (K := K) hT1 X₁ 4 (by omega)
  have hA := mnU_A (cA := cA) (cI := cI) (K := K) hT1 4 (by omega)
  obtain ⟨hr1, hr2⟩ := X.roomAbove hcells hslots
  rw [show cells + 1 + 4 = cells + 5 by omega, show slots + 4 + 4 * K = slots + (4 + 4 * K) by omega] at XF
  obtain ⟨t, st, hQ⟩ := kk _ _ hA (fun q hq => by
    rcases List.mem_append.mp hq with hq | hq
    · exact Or.inl hq
    · obtain ⟨j, -, rfl⟩ := List.mem_map.mp hq
      exact Or.inr rfl) _ rfl XF
  refine ⟨t, ?_, hQ⟩
  have hl1 : 4 ≤ e.platform.arrayLengthLimit ∧ K ≤ e.platform.arrayLengthLimit := by rw [Launch.admits_arrayLengthLimit X.admits]; omega
  have hb1 : 4 * 4 ≤ e.platform.maxHeapBytes ∧ K * 4 ≤ e.platform.maxHeapBytes := by rw [Launch.admits_maxHeapBytes X.admits]; omega
  jvm_step X.here [hexec, hb, hdg]
  simp only [Op.multianewarray.sem, wp_bind', W.resolveClassAt_links (State.method?_setTop (F0 m pc la (.int k :: .int 4 :: rest)) X.here.top) hg₁]
  rw [W.popN, if_neg (by decide)]
  refine ⟨F0 m pc la (.int k :: .int 4 :: rest), State.topJava?_setTop' (s := T.setVm vm₁) _ X.here.top, [.int 4, .int k], rest, rfl, rfl, ?_⟩
  simp only [List.mapM_cons, List.mapM_nil, wp_bind', wp_pure']
  refine mn_make (H := H) (K := K) (kA := kA₁) (kC := kC₁) (cI := cI) (cC := cC) (by exact hT) (by exact hkA₁) (by rw [heA]; exact n3) (by exact hkC₁) (by rw [heC]; exact n5) hk hK hl1 hb1 (by rw [← hT]; exact hr1) (by exact hr2) (fun d' acts' => ?_)
  have eS : ((T.setTop (F0 m pc la (.int k :: .int 4 :: rest))).setVm vm₁).setTop (F0 m pc la rest) = (T.setVm vm₁).setTop (F0 m pc la rest) := by
    show ((T.setVm vm₁).setTop _).setTop _ = _
    rw [State.setTop_setTop]
  rw [show (((T.setTop (F0 m pc la (.int k :: .int 4 :: rest))).setVm vm₁).setTop { method := m, pc := pc, locals := la, stack := rest, locked := none }) = (T.setVm vm₁).setTop (F0 m pc la rest) from eS, mnU_top]
  simp only [wp_bind', W.mark, W.pushRef, State.topJava?_setTop' _ XF.here.top, Option.some.injEq, exists_eq_left', State.setTop_setTop, State.heap_setTop]
  intro acts
  simp [jvm, XF.here.top]
  exact st
end MNA
