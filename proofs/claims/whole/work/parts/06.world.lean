/-! THE WORLD: how the abstract machine's cells lie in the heap -/
/-- how many cells, their kinds, their lengths, which places hold references (for good: some (some cell); that change: some none) -/
abbrev Lo : Type := Nat × (Nat → Nat) × (Nat → Nat) × (Nat → Nat → Option (Option Nat))
/-- the first cell's address, the array classes by kind, classes and slots, the addresses of the classes' own rows -/
abbrev Wp : Type := Nat × (Nat → ClassId) × va_G × (Nat → Nat)
def fV (L : Lo) (G : Wp) (μ : Mem) (c k : Nat) : Value := match L.2.2.2 c k with
  | none => .int (q32 (μ c k))
  | some (some d) => .ref (G.1 + d)
  | some none => .ref (G.1 + (μ c k).toNat)
def rA (L : Lo) (G : Wp) (c i : Nat) : Option Nat := match L.2.2.2 c i with
  | some (some d) => some (G.1 + d)
  | _ => none
def nfC (t : Nat) : Nat := match vwCl[t]? with
  | some q => q.2.2
  | none => 0
def cellE (L : Lo) (G : Wp) (μ : Mem) (c : Nat) : va_E :=
  if L.2.1 c < 20 then .inr (L.2.1 c, (List.range (nfC (L.2.1 c))).map (fV L G μ c))
  else if L.2.1 c < 24 then .inl (G.2.1 (L.2.1 c), L.2.2.1 c, .inl (fun i => q32 (μ c i)))
  else .inl (G.2.1 (L.2.1 c), L.2.2.1 c, .inr (.inr (.inr (.inr (rA L G c)))))
def pic (L : Lo) (G : Wp) (μ : Mem) : va_W := (List.range L.1).map (fun c => (G.1 + c, cellE L G μ c))
def et (t : Nat) : FieldType := match t with
  | 20 => .int
  | 21 => .byte
  | 22 => .short
  | 23 => .boolean
  | 25 => .object "ShownLibrary$Saying"
  | 26 => .array .int
  | _ => .object "ShownLibrary$Term"
def tysL (G : Wp) : List (ClassId × FieldType) := (List.range 10).map (fun j => (G.2.1 (20 + j), et (20 + j)))
def gtb : List Cond := lw_tbl.filter goodWord
/-- the classes' own rows: the class, the field, its descriptor, the kind of number, how many, which -/
def sTab : List (String × String × String × FieldType × Nat × (Nat → Int)) := [
  ("ShownLibrary$Tape", "WORD_LINE", "[B", .byte, 4, fun i => [119, 111, 114, 100].getD i 0),
  ("ShownLibrary$Tape", "TAKEN_LINE", "[B", .byte, 5, fun i => [116, 97, 107, 101, 110].getD i 0),
  ("ShownLibrary$Tape", "WISH_LINE", "[B", .byte, 4, fun i => [119, 105, 115, 104].getD i 0),
  ("ShownLibrary$Worlds", "HOW_MANY", "[I", .int, 4, fun i => [0, 1, 32, 59049].getD i 0),
  ("ShownLibrary$Likeness", "RENAMINGS", "[I", .int, 18, fun i => [0, 1, 2, 0, 2, 1, 1, 0, 2, 1, 2, 0, 2, 0, 1, 2, 1, 0].getD i 0)]
def sTg (j : Nat) : Nat := if j < 3 then 31 else 32
def sLn (c : Nat) : Nat := match sTab[c]? with
  | some q => q.2.2.2.2.1
  | none => 0
def sCt (c i : Nat) : Int := match sTab[c]? with
  | some q => q.2.2.2.2.2 i
  | none => 0
def Ar (L : Lo) (G : Wp) : Nat → Prop := fun q => G.1 ≤ q ∧ q < G.1 + L.1
def SZ (L : Lo) (G : Wp) (U : State) : Prop := ∀ (j : Nat) (q : String × String × String × FieldType × Nat × (Nat → Int)), sTab[j]? = some q → va_Z q.1 q.2.1 q.2.2.1 (.ref (G.2.2.2 j)) (Ar L G) U U.heap ∧ va_T q.2.2.2.1 (G.2.2.2 j) q.2.2.2.2.1 (fun i => .int (q32 (q.2.2.2.2.2 i))) (Ar L G) U U.heap
def ad (G : Wp) (t c : Nat) : Nat := if t < 30 then G.1 + c else G.2.2.2 c
def cv (G : Wp) : AV → Value
  | .inl x => .int (q32 x)
  | .inr (.inl x) => .long (q64 x)
  | .inr (.inr none) => .null
  | .inr (.inr (some (t, c))) => .ref (ad G t c)
def okR (L : Lo) (t c : Nat) : Prop := (c < L.1 ∧ L.2.1 c = t ∧ t < 30) ∨ (c < 5 ∧ t = sTg c)
def okV (L : Lo) : AV → Prop
  | .inl x => in32 x
  | .inr (.inl x) => in64 x
  | .inr (.inr none) => True
  | .inr (.inr (some (t, c))) => okR L t c
def okM (L : Lo) (μ : Mem) : Prop := (∀ c i, in32 (μ c i)) ∧ ∀ c k, L.2.2.2 c k = some none → (μ c k).toNat < L.1 ∧ L.2.1 (μ c k).toNat = 8
def StOk (L : Lo) (st : List AV) : Prop := ∀ v ∈ st, okV L v
def LsOk (L : Lo) (G : Wp) (nL : Nat) (ls : Lc) (la : Array Slot) : Prop := la.size = nL ∧ ls.length = nL ∧ lv_wf la ∧ ∀ (i : Nat) (v : AV), ls[i]? = some (some v) → okV L v ∧ la[i]? = some (Slot.val (cv G v))
def Wo (L : Lo) (G : Wp) (s : State) (μ : Mem) (H : Heap) (locs : List Loc) : Prop := va_P G.2.2.1 vwCl (pic L G μ) H ∧ va_S (Ar L G) s.heap H locs ∧ okM L μ
def Cx (L : Lo) (G : Wp) (own : String) (cc : ByteArray) (nL : Nat) (ret : Option FieldType) (p : Program) (s : State) (m : MethodId) (args : Array Value) (meth : Method) (c : Code) : Prop :=
  p.tables.exec = Jvm.exec ∧ c.code = cc ∧ c.maxLocals = nL ∧ s.vm.findClass own = some m.cls ∧ (∀ w ∈ gtb, w.before args s = true) ∧ meth.locks = false ∧ meth.sig.returnType = ret ∧ va_K G.2.2.1 vwCl (tysL G) s ∧ SZ L G s ∧ L.1 ≤ 5000
def Qr (L : Lo) (G : Wp) (r : Rs) : Array Value → State → Outcome → State → Prop := fun _ st o t => o = .returned (r.1.map (cv G)) ∧ (∀ v, r.1 = some v → okV L v) ∧ okM L r.2 ∧ va_P G.2.2.1 vwCl (pic L G r.2) t.heap ∧ va_F (Ar L G) st t
def Snd (L : Lo) (G : Wp) (l : Launch) (own : String) (cc : ByteArray) (nL : Nat) (ret : Option FieldType) (R : Room) (pc : Nat) (i : Ins) : Prop :=
  ∀ (p : Program) (e : Env) (s : State) (m : MethodId) (args : Array Value) (below : List Frame) (meth : Method) (c : Code), Cx L G own cc nL ret p s m args meth c →
  ∀ (r : Rs) (k : Kt) (ls : Lc) (st : List AV) (μ : Mem) (H : Heap) (locs : List Loc) (la : Array Slot), LsOk L G nL ls la → StOk L st → Wo L G s μ H locs → i ls st μ k = some r →
  (∀ (pc' : Nat) (ls' : Lc) (st' : List AV) (μ' : Mem) (H' : Heap) (locs' : List Loc) (la' : Array Slot), LsOk L G nL ls' la' → StOk L st' → Wo L G s μ' H' locs' → k pc' ls' st' μ' = some r → W p l e R s m args below meth c H' locs' 0 0 (MQ below (Qr L G r) args s 0 0 (Ar L G)) (F0 m pc' la' (st'.map (cv G)))) →
  W p l e R s m args below meth c H locs 0 0 (MQ below (Qr L G r) args s 0 0 (Ar L G)) (F0 m pc la (st.map (cv G)))
theorem stOk_cons {L : Lo} {v : AV} {st : List AV} : StOk L (v :: st) ↔ okV L v ∧ StOk L st := List.forall_mem_cons
theorem stOk_nil {L : Lo} : StOk L [] := fun v h => by cases h
theorem pic_len (L : Lo) (G : Wp) (μ : Mem) : (pic L G μ).length = L.1 := by simp [pic]
theorem pic_get {L : Lo} {G : Wp} {μ : Mem} {c : Nat} (h : c < L.1) : (pic L G μ)[c]? = some (G.1 + c, cellE L G μ c) := by simp [pic, h]
theorem pic_at {L : Lo} {G : Wp} {μ : Mem} {k : Nat} {q : Nat × va_E} (h : (pic L G μ)[k]? = some q) : k < L.1 ∧ q = (G.1 + k, cellE L G μ k) := by
  have hk : k < L.1 := by
    have := (List.getElem?_eq_some_iff.mp h).1
    rwa [pic_len] at this
  rw [pic_get hk] at h
  exact ⟨hk, (Option.some.inj h).symm⟩
theorem pic_D (L : Lo) (G : Wp) (μ : Mem) : va_D (Ar L G) (pic L G μ) := by
  constructor
  · intro i j p q hi hj he
    obtain ⟨-, rfl⟩ := pic_at hi
    obtain ⟨-, rfl⟩ := pic_at hj
    have : G.1 + i = G.1 + j := he
    omega
  · intro k q h
    obtain ⟨hk, rfl⟩ := pic_at h
    exact ⟨Nat.le_add_right _ _, Nat.add_lt_add_left hk _⟩
theorem up_same (μ : Mem) (c i : Nat) (v : Int) : up μ c i v c i = v := by simp [up]
theorem up_cell {μ : Mem} {c i c' : Nat} {v : Int} (h : c' ≠ c) : up μ c i v c' = μ c' := by funext j; simp [up, h]
theorem up_slot {μ : Mem} {c i c' i' : Nat} {v : Int} (h : i' ≠ i) : up μ c i v c' i' = μ c' i' := by simp [up, h]
theorem cellE_ne {L : Lo} {G : Wp} {μ : Mem} {c i c' : Nat} {v : Int} (h : c' ≠ c) : cellE L G (up μ c i v) c' = cellE L G μ c' := by
  have e : fV L G (up μ c i v) c' = fV L G μ c' := by funext k; simp only [fV, up_cell h]
  unfold cellE
  rw [e, up_cell h]
theorem pic_up {L : Lo} {G : Wp} {μ : Mem} {c i : Nat} {v : Int} {x : va_E} (hx : x = cellE L G (up μ c i v) c) : (pic L G μ).set c (G.1 + c, x) = pic L G (up μ c i v) := by
  apply List.ext_getElem?
  intro k
  rw [List.getElem?_set, pic_len]
  by_cases hk : c = k
  · subst hk
    by_cases hl : c < L.1
    · rw [if_pos rfl, if_pos hl, pic_get hl, hx]
    · rw [if_pos rfl, if_neg hl]
      rw [List.getElem?_eq_none (by rw [pic_len]; omega)]
  · rw [if_neg hk]
    by_cases hl : k < L.1
    · rw [pic_get hl, pic_get hl, cellE_ne (fun e => hk e.symm)]
    · rw [List.getElem?_eq_none (by rw [pic_len]; omega), List.getElem?_eq_none (by rw [pic_len]; omega)]
theorem okM_up {L : Lo} {μ : Mem} {c i : Nat} {v : Int} (h : okM L μ) (hv : in32 v) (hm : L.2.2.2 c i = some none → v.toNat < L.1 ∧ L.2.1 v.toNat = 8) : okM L (up μ c i v) := by
  constructor
  · intro c' i'
    unfold up
    split
    · exact hv
    · exact h.1 c' i'
  · intro c' k hk
    unfold up
    by_cases e : c' = c ∧ k = i
    · obtain ⟨rfl, rfl⟩ := e
      rw [if_pos ⟨rfl, rfl⟩]
      exact hm hk
    · rw [if_neg e]
      exact h.2 c' k hk
theorem ad_lt {G : Wp} {t c : Nat} (h : t < 30) : ad G t c = G.1 + c := by unfold ad; rw [if_pos h]
theorem okR_cell {L : Lo} {t c : Nat} (h : okR L t c) (ht : t < 30) : c < L.1 ∧ L.2.1 c = t := by
  rcases h with h | ⟨h1, h2⟩
  · exact ⟨h.1, h.2.1⟩
  · unfold sTg at h2
    split at h2 <;> omega
theorem call_core {L : Lo} {G : Wp} {p : Program} {l : Launch} {e : Env} {R : Room} {s : State} {m : MethodId} {args : Array Value} {below : List Frame} {meth : Method} {c : Code} {H : Heap} {locs : List Loc} {Q : State → Prop} {pc : Nat} {la : Array Slot} {st0 rest : List Value} {r0 : Rs} {av : Array Value} {μ : Mem}
    (hr : va_Run p l e R s m args below meth c H locs 0 0 0 0 (F0 m pc la st0) rest (Qr L G r0 av) (Ar L G)) (hw : Wo L G s μ H locs)
    (kk : ∀ (H' : Heap) (locs' : List Loc), (∀ v, r0.1 = some v → okV L v) → Wo L G s r0.2 H' locs' → W p l e R s m args below meth c H' locs' 0 0 Q (F0 m (pc + 3) la ((r0.1.map (cv G)).toList ++ rest))) : W p l e R s m args below meth c H locs 0 0 Q (F0 m pc la st0) := by
  intro T hT X
  obtain ⟨v, st₀, t, T', L', h0, X', hL, e1, e2, ⟨ho, hok, hM, hP, hF⟩, st⟩ := hr T hT X
  obtain rfl := Outcome.returned.inj ho
  obtain ⟨hF1, hF2⟩ := hF
  rw [h0] at hF1 hF2
  obtain ⟨t2, a1, b1⟩ := kk T'.heap (locs ++ L') hok ⟨by rw [e1]; exact hP, ⟨Nat.le_trans hw.2.1.1 (by rw [e1]; exact hF1), fun q h1 h2 => by
      rw [e1, hF2 q (Nat.lt_of_lt_of_le h1 hw.2.1.1) h2]; exact hw.2.1.2.1 q h1 h2, fun q hq => by
      rcases List.mem_append.mp hq with hq | hq
      · exact hw.2.1.2.2 q hq
      · exact hL q hq⟩, hM⟩ T' rfl X'
  exact ⟨t2, st t2 a1, b1⟩
