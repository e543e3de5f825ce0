/-! THE BUILDING MACHINE: what constructors make -/
abbrev KC : Type := (Nat × List AV) ⊕ (Nat × Nat × List (Nat × Int))
/-- the cells, newest first; how many; slots so far -/
abbrev KS : Type := List KC × Nat × Nat
abbrev KK : Type := Nat → Lc → List AV → KS → Option KS
abbrev KI : Type := Lc → List AV → KS → KK → Option KS
def lkz (d : Int) (i : Nat) : List (Nat × Int) → Int
  | [] => d
  | (j, x) :: r => if i = j then x else lkz d i r
def kE (G : Wp) : KC → va_E
  | .inl (t, fs) => .inr (t, fs.map (cv G))
  | .inr (t, n, ws) => if t < 24 then .inl (G.2.1 t, n, .inl (fun i => q32 (lkz 0 i ws))) else .inl (G.2.1 t, n, .inr (.inr (.inr (.inr (fun i => if lkz (-1) i ws < 0 then none else some (G.1 + (lkz (-1) i ws).toNat))))))
def pK (G : Wp) : Nat → List KC → va_W
  | _, [] => []
  | n, x :: h => (G.1 + n, kE G x) :: pK G (n + 1) h
theorem pK_len (G : Wp) : ∀ (h : List KC) (n : Nat), (pK G n h).length = h.length
  | [], _ => rfl
  | x :: h, n => by show (pK G (n + 1) h).length + 1 = h.length + 1; rw [pK_len G h]
theorem pK_get {G : Wp} : ∀ (h : List KC) (n c : Nat) (x : KC), h[c]? = some x → (pK G n h)[c]? = some (G.1 + (n + c), kE G x)
  | [], _, _, _, hx => by cases hx
  | y :: h, n, 0, x, hx => by cases hx; rfl
  | y :: h, n, c + 1, x, hx => by
    show (pK G (n + 1) h)[c]? = _
    rw [pK_get h (n + 1) c x hx, show n + 1 + c = n + (c + 1) by omega]
theorem pK_at {G : Wp} {h : List KC} {n k : Nat} {q : Nat × va_E} (hq : (pK G n h)[k]? = some q) : k < h.length ∧ q.1 = G.1 + (n + k) := by
  have hk : k < h.length := by
    have := (List.getElem?_eq_some_iff.mp hq).1
    rwa [pK_len] at this
  have := pK_get (G := G) h n k h[k] (List.getElem?_eq_getElem hk)
  rw [this] at hq
  exact ⟨hk, by rw [← Option.some.inj hq]⟩
theorem pK_app {G : Wp} : ∀ (h : List KC) (n : Nat) (x : KC), pK G n (h ++ [x]) = pK G n h ++ [(G.1 + (n + h.length), kE G x)]
  | [], n, x => rfl
  | y :: h, n, x => by
    show (G.1 + n, kE G y) :: pK G (n + 1) (h ++ [x]) = (G.1 + n, kE G y) :: (pK G (n + 1) h ++ [(G.1 + (n + (h.length + 1)), kE G x)])
    rw [pK_app h (n + 1) x, show n + 1 + h.length = n + (h.length + 1) by omega]
theorem pK_set {G : Wp} : ∀ (h : List KC) (n c : Nat) (x : KC), (pK G n h).set c (G.1 + (n + c), kE G x) = pK G n (h.set c x)
  | [], _, _, _ => rfl
  | y :: h, n, 0, x => rfl
  | y :: h, n, c + 1, x => by
    show (G.1 + n, kE G y) :: (pK G (n + 1) h).set c (G.1 + (n + (c + 1)), kE G x) = (G.1 + n, kE G y) :: pK G (n + 1) (h.set c x)
    rw [← pK_set h (n + 1) c x, show n + 1 + c = n + (c + 1) by omega]
/-- from the first cell on -/
def Af (G : Wp) : Nat → Prop := fun q => G.1 ≤ q
theorem pK_D (G : Wp) (h : List KC) : va_D (Af G) (pK G 0 h) := by
  constructor
  · intro i j p q hi hj he
    have := (pK_at hi).2
    have := (pK_at hj).2
    omega
  · intro k q hq
    have := (pK_at hq).2
    show G.1 ≤ q.1
    omega
def rs (h : List KC) (z : Nat) : KS := (h.reverse, h.length, z)
theorem rs_app {h : List KC} {x : KC} {z : Nat} : rs (h ++ [x]) z = (x :: h.reverse, h.length + 1, z) := by
  unfold rs
  rw [List.reverse_append, List.length_append]
  rfl
def gtR (h : KS) (c : Nat) : Option KC := bif Nat.blt c h.2.1 then h.1[h.2.1 - 1 - c]? else none
def stR (h : KS) (c : Nat) (x : KC) : KS := (h.1.set (h.2.1 - 1 - c) x, h.2.1, h.2.2)
theorem gtR_rs {h : List KC} {z c : Nat} : gtR (rs h z) c = h[c]? := by
  show (bif Nat.blt c h.length then h.reverse[h.length - 1 - c]? else none) = h[c]?
  by_cases hc : c < h.length
  · rw [show Nat.blt c h.length = true from Nat.ble_eq_true_of_le hc, cond_true, List.getElem?_reverse (by omega)]
    congr 1
    omega
  · have : Nat.blt c h.length = false := by
      cases hb : Nat.blt c h.length with
      | false => rfl
      | true => exact absurd (Nat.le_of_ble_eq_true hb) hc
    rw [this, cond_false, List.getElem?_eq_none (by omega)]
theorem stR_rs {h : List KC} {z c : Nat} {x : KC} (hc : c < h.length) : stR (rs h z) c x = rs (h.set c x) z := by
  unfold stR rs
  rw [List.length_set]
  congr 1
  apply List.ext_getElem?
  intro i
  show (h.reverse.set (h.length - 1 - c) x)[i]? = _
  by_cases hi : i < h.length
  · rw [List.getElem?_reverse (by rw [List.length_set]; exact hi), List.length_set, List.getElem?_set, List.getElem?_set, List.length_reverse, List.getElem?_reverse hi]
    by_cases e : c = h.length - 1 - i
    · rw [if_pos e, if_pos (by omega), if_pos (by omega), if_pos (by omega)]
    · rw [if_neg e, if_neg (by omega)]
  · rw [List.getElem?_eq_none (by rw [List.length_set, List.length_reverse]; omega), List.getElem?_eq_none (by rw [List.length_reverse, List.length_set]; omega)]
theorem gt_lt {h : List KC} {c : Nat} {x : KC} (hc : h[c]? = some x) : c < h.length := (List.getElem?_eq_some_iff.mp hc).1
def okK : AV → Prop
  | .inl x => in32 x
  | _ => True
def LsK (G : Wp) (nL : Nat) (ls : Lc) (la : Array Slot) : Prop := la.size = nL ∧ ls.length = nL ∧ lv_wf la ∧ ∀ (i : Nat) (v : AV), ls[i]? = some (some v) → okK v ∧ la[i]? = some (Slot.val (cv G v))
def StK (st : List AV) : Prop := ∀ v ∈ st, okK v
def WoK (G : Wp) (s : State) (h : List KC) (H : Heap) (locs : List Loc) : Prop := va_P G.2.2.1 vwCl (pK G 0 h) H ∧ va_S (Af G) s.heap H locs ∧ H.size = G.1 + h.length
/-- what the tables say beside the good words: rows of references, rows of rows, the one nest mate's constructor -/
def NA (G : Wp) (U : State) : Prop := ∃ (kA kC : Class) (cC : ClassId), U.vm.findClass "[[I" = some (G.2.1 26) ∧ U.vm.classes[G.2.1 26]? = some kA ∧ kA.kind = .array (G.2.1 20) (.array .int) ∧ U.vm.classes[G.2.1 20]? = some kC ∧ kC.kind = .array cC .int
def XW (G : Wp) (U : State) : Prop := va_AO "ShownLibrary$Saying" U ∧ va_AO "ShownLibrary$Term" U ∧ va_Nw (.methodLinkNest RX3 38 yX2_init "ShownLibrary") U ∧ NA G U
theorem NA.moved {G : Wp} {u U : State} (hvm : u.vm.Alike U.vm) (h : NA G u) : NA G U := by
  obtain ⟨kA, kC, cC, h1, h2, h3, h4, h5⟩ := h
  obtain ⟨k1, hk1, he1⟩ := hvm.2.2 _ _ h2
  obtain ⟨k2, hk2, he2⟩ := hvm.2.2 _ _ h4
  exact ⟨k1, k2, cC, by rw [hvm.findClass]; exact h1, hk1, by rw [he1]; exact h3, hk2, by rw [he2]; exact h5⟩
theorem XW.warm {G : Wp} {s U : State} (hW : s.WarmedH U.vm) (h : XW G s) : XW G U := ⟨h.1.moved hW.alike, h.2.1.moved hW.alike, h.2.2.1.warmM hW, h.2.2.2.moved hW.alike⟩
theorem XW.same {G : Wp} {s U : State} (hv : s.vm = U.vm) (h : XW G s) : XW G U := by
  have ha : s.vm.Alike U.vm := by rw [hv]; exact Vm.Alike.refl _
  exact ⟨h.1.moved ha, h.2.1.moved ha, h.2.2.1.same rfl hv, h.2.2.2.moved ha⟩
def CxK (G : Wp) (own : String) (cc : ByteArray) (nL n0 : Nat) (p : Program) (s : State) (m : MethodId) (args : Array Value) (meth : Method) (c : Code) : Prop :=
  p.tables.exec = Jvm.exec ∧ c.code = cc ∧ c.maxLocals = nL ∧ s.vm.findClass own = some m.cls ∧ (∀ w ∈ gtb, w.before args s = true) ∧ meth.locks = false ∧ meth.sig.returnType = none ∧ va_K G.2.2.1 vwCl (tysL G) s ∧ meth.name = "<init>" ∧ s.heap.size = G.1 + n0 ∧ XW G s
def QK (G : Wp) (r : KS) : Array Value → State → Outcome → State → Prop := fun _ st o t => o = .returned none ∧ r.2.1 = r.1.length ∧ va_P G.2.2.1 vwCl (pK G 0 r.1.reverse) t.heap ∧ t.heap.size = G.1 + r.2.1 ∧ va_F (Af G) st t
/-- an instruction is sound; n0, z0: cells and slots at the method's start, N, Z: at its end -/
def SdK (G : Wp) (l : Launch) (own : String) (cc : ByteArray) (nL fr lo n0 z0 N Z pc : Nat) (i : KI) : Prop :=
  ∀ (p : Program) (e : Env) (s : State) (m : MethodId) (args : Array Value) (below : List Frame) (meth : Method) (c : Code), CxK G own cc nL n0 p s m args meth c →
  ∀ (r : KS) (k : KK) (ls : Lc) (st : List AV) (h : List KC) (z : Nat) (H : Heap) (locs : List Loc) (la : Array Slot), LsK G nL ls la → StK st → WoK G s h H locs → n0 ≤ h.length → z0 ≤ z → i ls st (rs h z) k = some r →
  (∀ (pc' : Nat) (ls' : Lc) (st' : List AV) (h' : List KC) (z' : Nat) (H' : Heap) (locs' : List Loc) (la' : Array Slot), LsK G nL ls' la' → StK st' → WoK G s h' H' locs' → n0 ≤ h'.length → z0 ≤ z' → k pc' ls' st' (rs h' z') = some r → W p l e { frames := fr, cells := N - n0, slots := Z - z0, locals := lo } s m args below meth c H' locs' (h'.length - n0) (z' - z0) (MQ below (QK G r) args s (N - n0) (Z - z0) (Af G)) (F0 m pc' la' (st'.map (cv G)))) →
  W p l e { frames := fr, cells := N - n0, slots := Z - z0, locals := lo } s m args below meth c H locs (h.length - n0) (z - z0) (MQ below (QK G r) args s (N - n0) (Z - z0) (Af G)) (F0 m pc la (st.map (cv G)))
theorem stK_cons {v : AV} {st : List AV} : StK (v :: st) ↔ okK v ∧ StK st := List.forall_mem_cons
theorem stK_nil : StK [] := fun v h => by cases h
def k_push (n : Nat) (v : AV) : KI := fun ls st h k => k n ls (v :: st) h
def k_iload (n j : Nat) : KI := fun ls st h k => match ls[j]? with
  | some (some (.inl x)) => k n ls (.inl x :: st) h
  | _ => none
def k_aload (n j : Nat) : KI := fun ls st h k => match ls[j]? with
  | some (some (.inr (.inr x))) => k n ls (.inr (.inr x) :: st) h
  | _ => none
def k_istore (n j : Nat) : KI := fun ls st h k => match st with
  | .inl x :: st => k n (lset ls j (.inl x)) st h
  | _ => none
def k_astore (n j : Nat) : KI := fun ls st h k => match st with
  | .inr (.inr x) :: st => k n (lset ls j (.inr (.inr x))) st h
  | _ => none
def k_iinc (n j : Nat) (d : Int) : KI := fun ls st h k => match ls[j]? with
  | some (some (.inl x)) => k n (lset ls j (.inl (wr (x + d)))) st h
  | _ => none
def k_dup (n : Nat) : KI := fun ls st h k => match st with
  | .inr (.inr x) :: st => k n ls (.inr (.inr x) :: .inr (.inr x) :: st) h
  | _ => none
def k_goto (t : Nat) : KI := fun ls st h k => k t ls st h
def k_cmpge (n t : Nat) : KI := fun ls st h k => match st with
  | .inl y :: .inl x :: st => if x < y then k n ls st h else k t ls st h
  | _ => none
def k_cmpgt (n t : Nat) : KI := fun ls st h k => match st with
  | .inl y :: .inl x :: st => if x ≤ y then k n ls st h else k t ls st h
  | _ => none
