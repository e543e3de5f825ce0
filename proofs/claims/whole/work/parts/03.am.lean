/-! THE ABSTRACT MACHINE: ints are Int, cells are numbered from 0, a reference carries its kind and its cell's number; an instruction is a function that hands on to what comes next. -/
abbrev AV : Type := Int ⊕ (Int ⊕ Option (Nat × Nat))
abbrev Mem : Type := Nat → Nat → Int
abbrev Rs : Type := Option AV × Mem
abbrev Lc : Type := List (Option AV)
abbrev Kt : Type := Nat → Lc → List AV → Mem → Option Rs
abbrev Ins : Type := Lc → List AV → Mem → Kt → Option Rs
abbrev vI (x : Int) : AV := .inl x
abbrev vL (x : Int) : AV := .inr (.inl x)
abbrev vR (t c : Nat) : AV := .inr (.inr (some (t, c)))
abbrev vN : AV := .inr (.inr none)
def wr (x : Int) : Int := (x + 2147483648) % 4294967296 - 2147483648
def wrB (x : Int) : Int := (x + 128) % 256 - 128
def wrS (x : Int) : Int := (x + 32768) % 65536 - 32768
def wrL (x : Int) : Int := (x + 9223372036854775808) % 18446744073709551616 - 9223372036854775808
def up (μ : Mem) (c i : Nat) (v : Int) : Mem := fun c' i' => if c' = c ∧ i' = i then v else μ c' i'
def cI (r : Option Rs) (k : Int → Mem → Option Rs) : Option Rs := match r with
  | some (some (.inl x), μ) => k x μ
  | _ => none
def cV (r : Option Rs) (k : Mem → Option Rs) : Option Rs := match r with
  | some (none, μ) => k μ
  | _ => none
def cR (t : Nat) (r : Option Rs) (k0 : Mem → Option Rs) (k1 : Nat → Mem → Option Rs) : Option Rs := match r with
  | some (some (.inr (.inr none)), μ) => k0 μ
  | some (some (.inr (.inr (some (t', c)))), μ) => if t' = t then k1 c μ else none
  | _ => none
/-- a place that a store just behind it would cut in two is forgotten -/
def kl (o : Option AV) : Option AV := match o with
  | some (.inr (.inl _)) => none
  | o => o
def lset : Lc → Nat → AV → Lc
  | [], _, _ => []
  | _ :: t, 0, v => some v :: t
  | o :: t, 1, v => kl o :: lset t 0 v
  | o :: t, j + 2, v => o :: lset t (j + 1) v
/-- an index lies in a row -/
def gi (i : Int) (n : Nat) (x : Option Rs) : Option Rs := if 0 ≤ i ∧ i < (n : Int) then x else none
def gz (x : Int) (k : Option Rs) : Option Rs := if x = 0 ∨ x = 1 then k else none
def gn (x : Int) (k : Option Rs) : Option Rs := if ¬ x = 0 then k else none
def i_push (n : Nat) (v : AV) : Ins := fun ls st μ k => k n ls (v :: st) μ
def i_iload (n j : Nat) : Ins := fun ls st μ k => match ls[j]? with
  | some (some (.inl x)) => k n ls (.inl x :: st) μ
  | _ => none
def i_lload (n j : Nat) : Ins := fun ls st μ k => match ls[j]? with
  | some (some (.inr (.inl x))) => k n ls (.inr (.inl x) :: st) μ
  | _ => none
def i_aload (n j : Nat) : Ins := fun ls st μ k => match ls[j]? with
  | some (some (.inr (.inr x))) => k n ls (.inr (.inr x) :: st) μ
  | _ => none
def i_istore (n j : Nat) : Ins := fun ls st μ k => match st with
  | .inl x :: st => k n (lset ls j (.inl x)) st μ
  | _ => none
def i_astore (n j : Nat) : Ins := fun ls st μ k => match st with
  | .inr (.inr x) :: st => k n (lset ls j (.inr (.inr x))) st μ
  | _ => none
def i_iinc (n j : Nat) (d : Int) : Ins := fun ls st μ k => match ls[j]? with
  | some (some (.inl x)) => k n (lset ls j (.inl (wr (x + d)))) st μ
  | _ => none
def i_bin (n : Nat) (f : Int → Int → Int) : Ins := fun ls st μ k => match st with
  | .inl y :: .inl x :: st => k n ls (.inl (f x y) :: st) μ
  | _ => none
def i_div (n : Nat) (f : Int → Int → Int) : Ins := fun ls st μ k => match st with
  | .inl y :: .inl x :: st => gn y (k n ls (.inl (f x y) :: st) μ)
  | _ => none
def i_un (n : Nat) (f : Int → Int) : Ins := fun ls st μ k => match st with
  | .inl x :: st => k n ls (.inl (f x) :: st) μ
  | _ => none
def i_i2l (n : Nat) : Ins := fun ls st μ k => match st with
  | .inl x :: st => k n ls (.inr (.inl x) :: st) μ
  | _ => none
def i_l2i (n : Nat) : Ins := fun ls st μ k => match st with
  | .inr (.inl x) :: st => k n ls (.inl (wr x) :: st) μ
  | _ => none
def i_lbin (n : Nat) (f : Int → Int → Int) : Ins := fun ls st μ k => match st with
  | .inr (.inl y) :: .inr (.inl x) :: st => k n ls (.inr (.inl (f x y)) :: st) μ
  | _ => none
def i_lsh (n : Nat) (f : Int → Int → Int) : Ins := fun ls st μ k => match st with
  | .inl y :: .inr (.inl x) :: st => k n ls (.inr (.inl (f x y)) :: st) μ
  | _ => none
def i_lcmp (n : Nat) : Ins := fun ls st μ k => match st with
  | .inr (.inl y) :: .inr (.inl x) :: st => k n ls (.inl (if x < y then -1 else if x = y then 0 else 1) :: st) μ
  | _ => none
def i_dup (n : Nat) : Ins := fun ls st μ k => match st with
  | .inl x :: st => k n ls (.inl x :: .inl x :: st) μ
  | .inr (.inr x) :: st => k n ls (.inr (.inr x) :: .inr (.inr x) :: st) μ
  | _ => none
def i_pop (n : Nat) : Ins := fun ls st μ k => match st with
  | .inl _ :: st => k n ls st μ
  | .inr (.inr _) :: st => k n ls st μ
  | _ => none
def i_goto (t : Nat) : Ins := fun ls st μ k => k t ls st μ
def i_ifeq (n t : Nat) : Ins := fun ls st μ k => match st with
  | .inl x :: st => if x = 0 then k t ls st μ else k n ls st μ
  | _ => none
def i_ifne (n t : Nat) : Ins := fun ls st μ k => match st with
  | .inl x :: st => if x = 0 then k n ls st μ else k t ls st μ
  | _ => none
def i_iflt (n t : Nat) : Ins := fun ls st μ k => match st with
  | .inl x :: st => if x < 0 then k t ls st μ else k n ls st μ
  | _ => none
def i_ifge (n t : Nat) : Ins := fun ls st μ k => match st with
  | .inl x :: st => if x < 0 then k n ls st μ else k t ls st μ
  | _ => none
def i_ifgt (n t : Nat) : Ins := fun ls st μ k => match st with
  | .inl x :: st => if x ≤ 0 then k n ls st μ else k t ls st μ
  | _ => none
def i_ifle (n t : Nat) : Ins := fun ls st μ k => match st with
  | .inl x :: st => if x ≤ 0 then k t ls st μ else k n ls st μ
  | _ => none
def i_cmpeq (n t : Nat) : Ins := fun ls st μ k => match st with
  | .inl y :: .inl x :: st => if x = y then k t ls st μ else k n ls st μ
  | _ => none
def i_cmpne (n t : Nat) : Ins := fun ls st μ k => match st with
  | .inl y :: .inl x :: st => if x = y then k n ls st μ else k t ls st μ
  | _ => none
def i_cmplt (n t : Nat) : Ins := fun ls st μ k => match st with
  | .inl y :: .inl x :: st => if x < y then k t ls st μ else k n ls st μ
  | _ => none
def i_cmpge (n t : Nat) : Ins := fun ls st μ k => match st with
  | .inl y :: .inl x :: st => if x < y then k n ls st μ else k t ls st μ
  | _ => none
def i_cmpgt (n t : Nat) : Ins := fun ls st μ k => match st with
  | .inl y :: .inl x :: st => if x ≤ y then k n ls st μ else k t ls st μ
  | _ => none
def i_cmple (n t : Nat) : Ins := fun ls st μ k => match st with
  | .inl y :: .inl x :: st => if x ≤ y then k t ls st μ else k n ls st μ
  | _ => none
def i_ifnull (n t : Nat) : Ins := fun ls st μ k => match st with
  | .inr (.inr none) :: st => k t ls st μ
  | .inr (.inr (some _)) :: st => k n ls st μ
  | _ => none
def i_ifnonnull (n t : Nat) : Ins := fun ls st μ k => match st with
  | .inr (.inr none) :: st => k n ls st μ
  | .inr (.inr (some _)) :: st => k t ls st μ
  | _ => none
def swt (x : Int) (d : Nat) (k : Nat → Option Rs) : Int → List Nat → Option Rs
  | _, [] => k d
  | v, t :: r => if x = v then k t else swt x d k (v + 1) r
def i_switch (d : Nat) (lo : Int) (ts : List Nat) : Ins := fun ls st μ k => match st with
  | .inl x :: st => swt x d (fun t => k t ls st μ) lo ts
  | _ => none
def i_getI (n t f : Nat) : Ins := fun ls st μ k => match st with
  | .inr (.inr (some (t', c))) :: st => if t' = t then k n ls (.inl (μ c f) :: st) μ else none
  | _ => none
def i_getR (n t t2 : Nat) (g : Nat → Nat) : Ins := fun ls st μ k => match st with
  | .inr (.inr (some (t', c))) :: st => if t' = t then k n ls (.inr (.inr (some (t2, g c))) :: st) μ else none
  | _ => none
def i_getM (n t f t2 : Nat) : Ins := fun ls st μ k => match st with
  | .inr (.inr (some (t', c))) :: st => if t' = t then k n ls (.inr (.inr (some (t2, (μ c f).toNat))) :: st) μ else none
  | _ => none
def i_putI (n t f : Nat) : Ins := fun ls st μ k => match st with
  | .inl x :: .inr (.inr (some (t', c))) :: st => if t' = t then k n ls st (up μ c f x) else none
  | _ => none
def i_putZ (n t f : Nat) : Ins := fun ls st μ k => match st with
  | .inl x :: .inr (.inr (some (t', c))) :: st => if t' = t then gz x (k n ls st (up μ c f x)) else none
  | _ => none
def i_putM (n t f t2 : Nat) : Ins := fun ls st μ k => match st with
  | .inr (.inr (some (t3, d))) :: .inr (.inr (some (t', c))) :: st => if t' = t then (if t3 = t2 then k n ls st (up μ c f (d : Int)) else none) else none
  | _ => none
def i_ald (n t : Nat) (ln : Nat → Nat) : Ins := fun ls st μ k => match st with
  | .inl i :: .inr (.inr (some (t', c))) :: st => if t' = t then gi i (ln c) (k n ls (.inl (μ c i.toNat) :: st) μ) else none
  | _ => none
/-- a row that the class holds for good: its numbers are told by sc -/
def i_alds (n t : Nat) (ln : Nat → Nat) (sc : Nat → Nat → Int) : Ins := fun ls st μ k => match st with
  | .inl i :: .inr (.inr (some (t', c))) :: st => if t' = t then gi i (ln c) (k n ls (.inl (sc c i.toNat) :: st) μ) else none
  | _ => none
def i_aldR (n t t2 : Nat) (ln : Nat → Nat) (g : Nat → Nat → Nat) : Ins := fun ls st μ k => match st with
  | .inl i :: .inr (.inr (some (t', c))) :: st => if t' = t then gi i (ln c) (k n ls (.inr (.inr (some (t2, g c i.toNat))) :: st) μ) else none
  | _ => none
def i_ast (n t : Nat) (ln : Nat → Nat) (w : Int → Int) : Ins := fun ls st μ k => match st with
  | .inl x :: .inl i :: .inr (.inr (some (t', c))) :: st => if t' = t then gi i (ln c) (k n ls st (up μ c i.toNat (w x))) else none
  | _ => none
def i_alen (n t : Nat) (ln : Nat → Nat) : Ins := fun ls st μ k => match st with
  | .inr (.inr (some (t', c))) :: st => if t' = t then k n ls (.inl (ln c : Int) :: st) μ else none
  | _ => none
def i_iret : Ins := fun _ st μ _ => match st with
  | .inl x :: [] => some (some (.inl x), μ)
  | _ => none
def i_zret : Ins := fun _ st μ _ => match st with
  | .inl x :: [] => gz x (some (some (.inl x), μ))
  | _ => none
def i_aret : Ins := fun _ st μ _ => match st with
  | .inr (.inr x) :: [] => some (some (.inr (.inr x)), μ)
  | _ => none
def i_vret : Ins := fun _ st μ _ => match st with
  | [] => some (none, μ)
  | _ => none
/-- the first of a call's arguments is a cell of kind t -/
def rcv (t : Nat) (vs : List AV) : Bool := match vs with
  | .inr (.inr (some (t', _))) :: _ => Nat.beq t' t
  | _ => false
def anyv (_ : List AV) : Bool := true
/-- a call's arguments are there, not too much lies below them, the first one is as it must be; a is how many -/
def okc (a : Nat) (chk : List AV → Bool) (st : List AV) : Bool := Nat.ble a st.length && (Nat.ble st.length (a + 4) && chk (st.take a).reverse)
def i_callI (n a : Nat) (chk : List AV → Bool) (f : List AV → Mem → Option Rs) : Ins := fun ls st μ k => if okc a chk st = true then cI (f (st.take a).reverse μ) (fun x μ' => k n ls (.inl x :: st.drop a) μ') else none
def i_callV (n a : Nat) (chk : List AV → Bool) (f : List AV → Mem → Option Rs) : Ins := fun ls st μ k => if okc a chk st = true then cV (f (st.take a).reverse μ) (fun μ' => k n ls (st.drop a) μ') else none
def i_callR (n a t : Nat) (chk : List AV → Bool) (f : List AV → Mem → Option Rs) : Ins := fun ls st μ k => if okc a chk st = true then cR t (f (st.take a).reverse μ) (fun μ' => k n ls (.inr (.inr none) :: st.drop a) μ') (fun c μ' => k n ls (.inr (.inr (some (t, c))) :: st.drop a) μ') else none
/-- an instruction fails, or returns, or hands on to one place -/
def Tri (i : Ins) : Prop := ∀ ls st μ, (∀ k, i ls st μ k = none) ∨ (∃ r, ∀ k, i ls st μ k = some r) ∨ ∃ pc ls' st' μ', ∀ k, i ls st μ k = k pc ls' st' μ'
def ev (code : Nat → Option Ins) : Nat → Kt
  | 0 => fun _ _ _ _ => none
  | n + 1 => fun pc ls st μ => match code pc with
    | some i => i ls st μ (ev code n)
    | none => none
noncomputable def Rn (code : Nat → Option Ins) : Kt := fun pc ls st μ =>
  @dite _ (∃ r n, ev code n pc ls st μ = some r) (Classical.propDecidable _) (fun h => some (Classical.choose h)) (fun _ => none)
def TriC (code : Nat → Option Ins) : Prop := ∀ pc i, code pc = some i → Tri i
theorem ev_mono {code : Nat → Option Ins} (hT : TriC code) {r : Rs} : ∀ (n pc : Nat) (ls : Lc) (st : List AV) (μ : Mem), ev code n pc ls st μ = some r → ev code (n + 1) pc ls st μ = some r
  | 0, _, _, _, _, h => by cases h
  | n + 1, pc, ls, st, μ, h => by
    cases hc : code pc with
    | none => simp only [ev, hc] at h; cases h
    | some i =>
      simp only [ev, hc] at h ⊢
      rcases hT pc i hc ls st μ with h0 | ⟨r0, h0⟩ | ⟨pc', ls', st', μ', h0⟩
      · rw [h0] at h; cases h
      · rw [h0] at h ⊢; exact h
      · rw [h0] at h ⊢
        exact ev_mono hT n _ _ _ _ h
theorem ev_le {code : Nat → Option Ins} (hT : TriC code) {r : Rs} {n m pc : Nat} {ls : Lc} {st : List AV} {μ : Mem} (hnm : n ≤ m) (h : ev code n pc ls st μ = some r) : ev code m pc ls st μ = some r := by
  induction m with
  | zero => have : n = 0 := by omega
            subst this; exact h
  | succ m ih =>
    by_cases e : n = m + 1
    · subst e; exact h
    · exact ev_mono hT m _ _ _ _ (ih (by omega))
theorem ev_det {code : Nat → Option Ins} (hT : TriC code) {r r' : Rs} {n m pc : Nat} {ls : Lc} {st : List AV} {μ : Mem} (h : ev code n pc ls st μ = some r) (h' : ev code m pc ls st μ = some r') : r = r' := by
  have h1 := ev_le hT (Nat.le_max_left n m) h
  have h2 := ev_le hT (Nat.le_max_right n m) h'
  exact Option.some.inj (h1.symm.trans h2)
theorem Rn_iff {code : Nat → Option Ins} (hT : TriC code) {r : Rs} {pc : Nat} {ls : Lc} {st : List AV} {μ : Mem} : Rn code pc ls st μ = some r ↔ ∃ n, ev code n pc ls st μ = some r := by
  unfold Rn
  by_cases h : ∃ r n, ev code n pc ls st μ = some r
  · rw [dif_pos h]
    obtain ⟨n, hn⟩ := Classical.choose_spec h
    constructor
    · intro e; exact ⟨n, by rw [hn]; exact e⟩
    · rintro ⟨m, hm⟩; rw [ev_det hT hn hm]
  · rw [dif_neg h]
    constructor
    · intro e; cases e
    · rintro ⟨m, hm⟩; exact absurd ⟨r, m, hm⟩ h
theorem opt_ext {a b : Option Rs} (h : ∀ r, a = some r ↔ b = some r) : a = b := by
  cases a with
  | none => cases b with
    | none => rfl
    | some y => exact absurd ((h y).mpr rfl) (by intro q; cases q)
  | some x => exact ((h x).mp rfl).symm
theorem Rn_unf {code : Nat → Option Ins} (hT : TriC code) (pc : Nat) (ls : Lc) (st : List AV) (μ : Mem) : Rn code pc ls st μ = (match code pc with
    | some i => i ls st μ (Rn code)
    | none => none) := by
  cases hc : code pc with
  | none =>
    apply opt_ext; intro r
    rw [Rn_iff hT]
    constructor
    · rintro ⟨n, hn⟩
      cases n with
      | zero => cases hn
      | succ n => simp only [ev, hc] at hn; cases hn
    · intro q; cases q
  | some i =>
    apply opt_ext; intro r
    rw [Rn_iff hT]
    show _ ↔ i ls st μ (Rn code) = some r
    rcases hT pc i hc ls st μ with h0 | ⟨r0, h0⟩ | ⟨pc', ls', st', μ', h0⟩
    · rw [h0]
      constructor
      · rintro ⟨n, hn⟩
        cases n with
        | zero => cases hn
        | succ n => simp only [ev, hc] at hn; rw [h0] at hn; cases hn
      · intro q; cases q
    · rw [h0]
      constructor
      · rintro ⟨n, hn⟩
        cases n with
        | zero => cases hn
        | succ n => simp only [ev, hc] at hn; rw [h0] at hn; exact hn
      · intro q; exact ⟨1, by simp only [ev, hc]; rw [h0]; exact q⟩
    · rw [h0, Rn_iff hT]
      constructor
      · rintro ⟨n, hn⟩
        cases n with
        | zero => cases hn
        | succ n => simp only [ev, hc] at hn; rw [h0] at hn; exact ⟨n, hn⟩
      · rintro ⟨n, hn⟩; exact ⟨n + 1, by simp only [ev, hc]; rw [h0]; exact hn⟩
/-- the code run on for n instructions, but not past a place in cuts -/
noncomputable def rc (code : Nat → Option Ins) (cuts : List Nat) : Nat → Kt
  | 0 => Rn code
  | n + 1 => fun pc ls st μ => match code pc with
    | some i => i ls st μ (fun pc' ls' st' μ' => bif cuts.elem pc' then Rn code pc' ls' st' μ' else rc code cuts n pc' ls' st' μ')
    | none => none
theorem Rn_rc {code : Nat → Option Ins} (hT : TriC code) (cuts : List Nat) : ∀ (n pc : Nat) (ls : Lc) (st : List AV) (μ : Mem), Rn code pc ls st μ = rc code cuts n pc ls st μ
  | 0, _, _, _, _ => rfl
  | n + 1, pc, ls, st, μ => by
    have hk : (fun (pc' : Nat) (ls' : Lc) (st' : List AV) (μ' : Mem) => bif cuts.elem pc' then Rn code pc' ls' st' μ' else rc code cuts n pc' ls' st' μ') = Rn code := by
      funext pc' ls' st' μ'
      cases cuts.elem pc' with
      | true => rfl
      | false => exact (Rn_rc hT cuts n pc' ls' st' μ').symm
    rw [Rn_unf hT]
    show _ = (match code pc with
      | some i => i ls st μ (fun pc' ls' st' μ' => bif cuts.elem pc' then Rn code pc' ls' st' μ' else rc code cuts n pc' ls' st' μ')
      | none => none)
    rw [hk]
