/-! mates in order: rows -/
def cl : List Int → List Int → Bool
  | a :: as, b :: bs => if a = b then cl as bs else decide (b < a)
  | _, _ => false
def swp (a : Int → Int) (r : List Int) : List Int := (r.drop (tl a 1 r)).take (tl a 1 (r.drop (tl a 1 r))) ++ (r.take (tl a 1 r) ++ r.drop (tl a 1 r + tl a 1 (r.drop (tl a 1 r))))
def cmp (a : Int → Int) (r : List Int) : Bool := cl (r.take (tl a 1 r)) ((r.drop (tl a 1 r)).take (tl a 1 (r.drop (tl a 1 r))))
def sw (a : Int → Int) (x : Int) (r : List Int) : List Int := if x = 12 ∧ cmp a r = true then x :: swp a r else x :: r
def srt (a : Int → Int) : List Int → List Int
  | [] => []
  | x :: xs => sw a x (srt a xs)
theorem swp_len (a : Int → Int) (r : List Int) : (swp a r).length = r.length := by
  have h1 := tl_le (a := a) r 1
  have h2 := tl_le (a := a) (r.drop (tl a 1 r)) 1
  rw [List.length_drop] at h2
  unfold swp
  rw [List.length_append, List.length_append, List.length_take, List.length_take, List.length_drop, List.length_drop]
  omega
theorem srt_len (a : Int → Int) : ∀ l : List Int, (srt a l).length = l.length
  | [] => rfl
  | x :: xs => by
    show (sw a x (srt a xs)).length = _
    unfold sw
    split
    · rw [List.length_cons, swp_len, srt_len a xs]; rfl
    · rw [List.length_cons, srt_len a xs]; rfl
theorem swp_mem {a : Int → Int} {r : List Int} {x : Int} (h : x ∈ swp a r) : x ∈ r := by
  unfold swp at h
  rcases List.mem_append.mp h with h | h
  · exact List.mem_of_mem_drop (List.mem_of_mem_take h)
  · rcases List.mem_append.mp h with h | h
    · exact List.mem_of_mem_take h
    · exact List.mem_of_mem_drop h
theorem srt_mem {a : Int → Int} : ∀ (l : List Int) (x : Int), x ∈ srt a l → x ∈ l
  | [], _, h => h
  | y :: ys, x, h => by
    have h' : x ∈ sw a y (srt a ys) := h
    unfold sw at h'
    split at h'
    · rcases List.mem_cons.mp h' with q | q
      · rw [q]; exact List.mem_cons_self ..
      · exact List.mem_cons_of_mem _ (srt_mem ys x (swp_mem q))
    · rcases List.mem_cons.mp h' with q | q
      · rw [q]; exact List.mem_cons_self ..
      · exact List.mem_cons_of_mem _ (srt_mem ys x q)
theorem srt_LT {a : Int → Int} {l : List Int} (h : LT l) : LT (srt a l) := fun x hx => h x (srt_mem l x hx)
theorem tlA {a : Int → Int} : ∀ (A R : List Int) (n k : Nat), isT a n A → tl a (n + k) (A ++ R) = A.length + tl a k R
  | [], R, 0, k, _ => by rw [Nat.zero_add, List.nil_append]; simp
  | [], R, n + 1, k, h => by cases h
  | x :: A, R, 0, k, h => by cases h
  | x :: A, R, n + 1, k, h => by
    rw [show n + 1 + k = (n + k) + 1 by omega]
    show 1 + tl a (n + k + (a x).toNat) (A ++ R) = _
    rw [show n + k + (a x).toNat = n + (a x).toNat + k by omega, tlA A R _ k h.2, List.length_cons]
    omega
theorem geo2 {a : Int → Int} {r : List Int} {k : Nat} (h : isT a (k + 2) r) : isT a 1 (r.take (tl a 1 r)) ∧ isT a 1 ((r.drop (tl a 1 r)).take (tl a 1 (r.drop (tl a 1 r)))) ∧ isT a k (r.drop (tl a 1 r + tl a 1 (r.drop (tl a 1 r)))) ∧ tl a 1 r + tl a 1 (r.drop (tl a 1 r)) = tl a 2 r ∧ r = r.take (tl a 1 r) ++ ((r.drop (tl a 1 r)).take (tl a 1 (r.drop (tl a 1 r))) ++ r.drop (tl a 1 r + tl a 1 (r.drop (tl a 1 r)))) := by
  have h1 := isT_split r 1 (k + 1) (by rw [show 1 + (k + 1) = k + 2 by omega]; exact h)
  have h2 := isT_split (r.drop (tl a 1 r)) 1 k (by rw [Nat.add_comm]; exact h1.2)
  have h3 := tl_add r 1 (k + 1) (by rw [show 1 + (k + 1) = k + 2 by omega]; exact h) 1 (by omega)
  rw [List.drop_drop] at h2
  refine ⟨h1.1, h2.1, h2.2, h3.symm, ?_⟩
  rw [← List.drop_drop, List.take_append_drop, List.take_append_drop]
theorem swp_isT {a : Int → Int} {r : List Int} {k : Nat} (h : isT a (k + 2) r) : isT a (k + 2) (swp a r) := by
  obtain ⟨h1, h2, h3, _, _⟩ := geo2 h
  unfold swp
  have := isT_app _ _ 1 (1 + k) h2 (isT_app _ _ 1 k h1 h3)
  rw [show 1 + (1 + k) = k + 2 by omega] at this
  exact this
theorem tl_swp {a : Int → Int} {r : List Int} {k : Nat} (h : isT a (k + 2) r) (j : Nat) : tl a (j + 2) (swp a r) = tl a (j + 2) r := by
  obtain ⟨h1, h2, _, _, h5⟩ := geo2 h
  have e1 : tl a (j + 2) (swp a r) = ((r.drop (tl a 1 r)).take (tl a 1 (r.drop (tl a 1 r)))).length + ((r.take (tl a 1 r)).length + tl a j (r.drop (tl a 1 r + tl a 1 (r.drop (tl a 1 r))))) := by
    unfold swp
    rw [show j + 2 = 1 + (1 + j) by omega, tlA _ _ 1 _ h2, tlA _ _ 1 _ h1]
  have e2 : tl a (j + 2) r = (r.take (tl a 1 r)).length + (((r.drop (tl a 1 r)).take (tl a 1 (r.drop (tl a 1 r)))).length + tl a j (r.drop (tl a 1 r + tl a 1 (r.drop (tl a 1 r))))) := by
    conv => lhs; rw [h5]
    rw [show j + 2 = 1 + (1 + j) by omega, tlA _ _ 1 _ h1, tlA _ _ 1 _ h2]
  rw [e1, e2]
  omega
theorem srt_isT {a : Int → Int} (ha : a 12 = 2) : ∀ (l : List Int) (n : Nat), isT a n l → isT a n (srt a l)
  | [], n, h => h
  | x :: xs, 0, h => by cases h
  | x :: xs, n + 1, h => by
    have ih := srt_isT ha xs _ h.2
    show isT a (n + 1) (sw a x (srt a xs))
    unfold sw
    split
    · next q =>
      refine ⟨h.1, ?_⟩
      have e : (a x).toNat = 2 := by rw [q.1, ha]; rfl
      rw [e] at ih ⊢
      exact swp_isT ih
    · exact ⟨h.1, ih⟩
theorem sw_tl {a : Int → Int} (ha : a 12 = 2) {x : Int} {r : List Int} {m : Nat} (h : isT a (m + (a x).toNat) r) : ∀ k, tl a k (sw a x r) = tl a k (x :: r)
  | 0 => by rw [tl_0, tl_0]
  | k + 1 => by
    unfold sw
    split
    · next q =>
      have e : (a x).toNat = 2 := by rw [q.1, ha]; rfl
      rw [e] at h
      show 1 + tl a (k + (a x).toNat) (swp a r) = 1 + tl a (k + (a x).toNat) r
      rw [e, tl_swp h]
    · rfl
theorem tl_ltn {a : Int → Int} {l : List Int} {n m : Nat} (h : isT a (n + (m + 1)) l) : tl a n l < l.length := by
  have h1 := (isT_split l n (m + 1) h).2
  rcases Nat.lt_or_ge (tl a n l) l.length with q | q
  · exact q
  · rw [List.drop_eq_nil_of_le q] at h1; cases h1
theorem app3 {U W : List Int} {f i : Nat} {x : Int} (hf : f + W.length ≤ U.length) (h : (U.take f ++ (W ++ U.drop (f + W.length)))[i]? = some x) : (i < f ∧ U[i]? = some x) ∨ (f ≤ i ∧ i < f + W.length ∧ W[i - f]? = some x) ∨ (f + W.length ≤ i ∧ U[i]? = some x) := by
  have hl : (U.take f).length = f := by rw [List.length_take]; omega
  by_cases q : i < f
  · rw [List.getElem?_append_left (by omega), List.getElem?_take, if_pos q] at h
    exact Or.inl ⟨q, h⟩
  · rw [List.getElem?_append_right (by omega), hl] at h
    by_cases q2 : i < f + W.length
    · rw [List.getElem?_append_left (by omega)] at h
      exact Or.inr (Or.inl ⟨by omega, q2, h⟩)
    · rw [List.getElem?_append_right (by omega), List.getElem?_drop, show f + W.length + (i - f - W.length) = i by omega] at h
      exact Or.inr (Or.inr ⟨by omega, h⟩)
/-- names changed -/
def prm (o k : Nat) : Int := ((([0, 1, 2, 0, 2, 1, 1, 2, 0, 1, 0, 2, 2, 0, 1, 2, 1, 0] : List Int))[3 * o + k]?).getD 0
def rnR (o : Nat) (c : Int) : Int := if c < 23 then c else 23 + prm o (c - 23).toNat
theorem prm_b : ∀ o, o < 6 → ∀ k, k < 3 → 0 ≤ prm o k ∧ prm o k ≤ 2 := by decide
theorem prm_0 : ∀ k, k < 3 → prm 0 k = (k : Int) := by decide
theorem rnR_0 {c : Int} (h : c ≤ 25) : rnR 0 c = c := by
  unfold rnR
  by_cases q : c < 23
  · rw [if_pos q]
  · rw [if_neg q, prm_0 _ (by omega)]; omega
theorem rnR_b {o : Nat} (ho : o < 6) {c : Int} (h : 0 ≤ c ∧ c ≤ 25) : 0 ≤ rnR o c ∧ rnR o c ≤ 25 := by
  unfold rnR
  by_cases q : c < 23
  · rw [if_pos q]; exact h
  · rw [if_neg q]; have := prm_b o ho (c - 23).toNat (by omega); omega
theorem rnR_ar {ν : Mem} {o : Nat} (ho : o < 6) {c : Int} (h : 0 ≤ c ∧ c ≤ 25) : ar ν (rnR o c) = ar ν c := by
  unfold rnR
  by_cases q : c < 23
  · rw [if_pos q]
  · rw [if_neg q, ar_name (x := c) (by omega)]; have := prm_b o ho (c - 23).toNat (by omega); exact ar_name (by omega)
theorem isT_map {a : Int → Int} {f : Int → Int} : ∀ (l : List Int) (n : Nat), (∀ x ∈ l, a (f x) = a x) → isT a n l → isT a n (l.map f)
  | [], n, _, h => h
  | x :: xs, 0, _, h => by cases h
  | x :: xs, n + 1, hf, h => by
    have e := hf x (List.mem_cons_self ..)
    show 0 ≤ a (f x) ∧ isT a (n + (a (f x)).toNat) (xs.map f)
    rw [e]
    exact ⟨h.1, isT_map xs _ (fun y hy => hf y (List.mem_cons_of_mem _ hy)) h.2⟩
theorem map_ok {ν : Mem} {o : Nat} (ho : o < 6) {T : List Int} (h1 : isT (ar ν) 1 T) (h2 : LT T) : isT (ar ν) 1 (T.map (rnR o)) ∧ LT (T.map (rnR o)) := by
  refine ⟨isT_map T 1 (fun x hx => rnR_ar ho (h2 x hx)) h1, fun x hx => ?_⟩
  obtain ⟨y, hy, rfl⟩ := List.mem_map.mp hx
  exact rnR_b ho (h2 y hy)
theorem map_0 {T : List Int} (h : LT T) : T.map (rnR 0) = T := by
  conv => rhs; rw [← List.map_id T]
  exact List.map_congr_left (fun x hx => rnR_0 (h x hx).2)
theorem ar_12 (ν : Mem) : ar ν 12 = 2 := by unfold ar; rw [if_neg (by omega), if_pos rfl]
/-- a row with its names changed and its mates in order -/
def tdy (ν : Mem) (mates : Prop) [Decidable mates] (o : Nat) (T : List Int) : List Int := if mates then srt (ar ν) (T.map (rnR o)) else T.map (rnR o)
theorem tdy_len {ν : Mem} {mates : Prop} [Decidable mates] {o : Nat} {T : List Int} : (tdy ν mates o T).length = T.length := by
  unfold tdy
  split
  · rw [srt_len, List.length_map]
  · rw [List.length_map]
