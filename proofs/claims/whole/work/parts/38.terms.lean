/-! TERMS: counting signs -/
theorem isT_len {a : Int → Int} : ∀ (l : List Int) (n : Nat), isT a n l → tl a n l = l.length
  | [], 0, _ => rfl
  | [], _ + 1, h => by cases h
  | _ :: _, 0, h => by cases h
  | x :: xs, n + 1, h => by
    show 1 + tl a (n + (a x).toNat) xs = xs.length + 1
    rw [isT_len xs _ h.2]
    omega
theorem tl_0 {a : Int → Int} (l : List Int) : tl a 0 l = 0 := by cases l <;> rfl
theorem tl_le {a : Int → Int} : ∀ (l : List Int) (n : Nat), tl a n l ≤ l.length
  | l, 0 => by rw [tl_0]; exact Nat.zero_le _
  | [], _ + 1 => Nat.le_refl _
  | x :: xs, n + 1 => by
    show 1 + tl a (n + (a x).toNat) xs ≤ xs.length + 1
    have := tl_le (a := a) xs (n + (a x).toNat)
    omega
theorem isT_split {a : Int → Int} : ∀ (l : List Int) (n m : Nat), isT a (n + m) l → isT a n (l.take (tl a n l)) ∧ isT a m (l.drop (tl a n l))
  | l, 0, m, h => by
    rw [Nat.zero_add] at h
    rw [tl_0]
    exact ⟨trivial, h⟩
  | [], n + 1, m, h => by
    rw [show n + 1 + m = (n + m) + 1 by omega] at h
    cases h
  | x :: xs, n + 1, m, h => by
    rw [show n + 1 + m = (n + m) + 1 by omega] at h
    obtain ⟨h1, h2⟩ := h
    rw [show n + m + (a x).toNat = (n + (a x).toNat) + m by omega] at h2
    obtain ⟨h3, h4⟩ := isT_split xs (n + (a x).toNat) m h2
    have e : tl a (n + 1) (x :: xs) = tl a (n + (a x).toNat) xs + 1 := by show 1 + _ = _; omega
    rw [e, List.take_succ_cons, List.drop_succ_cons]
    exact ⟨⟨h1, h3⟩, h4⟩
theorem isT_app {a : Int → Int} : ∀ (l r : List Int) (n m : Nat), isT a n l → isT a m r → isT a (n + m) (l ++ r)
  | [], r, 0, m, _, h2 => by rw [Nat.zero_add]; exact h2
  | [], _, _ + 1, _, h, _ => by cases h
  | _ :: _, _, 0, _, h, _ => by cases h
  | x :: xs, r, n + 1, m, h, h2 => by
    rw [show n + 1 + m = (n + m) + 1 by omega]
    refine ⟨h.1, ?_⟩
    rw [show n + m + (a x).toNat = (n + (a x).toNat) + m by omega]
    exact isT_app xs r _ m h.2 h2
theorem isT_ne {a : Int → Int} {l : List Int} {n : Nat} (h : isT a (n + 1) l) : l ≠ [] := by
  intro e
  rw [e] at h
  cases h
theorem isT_drop {a : Int → Int} : ∀ (l : List Int) (n P : Nat), isT a n l → P < l.length → ∃ k, isT a (k + 1) (l.drop P)
  | [], _, _, _, h => by simp at h
  | x :: xs, 0, _, h, _ => by cases h
  | x :: xs, n + 1, 0, h, _ => ⟨n, h⟩
  | x :: xs, n + 1, P + 1, h, hp => by
    rw [List.drop_succ_cons]
    exact isT_drop xs _ P h.2 (by simpa using hp)
/-- the first n TERMS of a row do not see what stands behind them -/
theorem tl_app {a : Int → Int} : ∀ (l r : List Int) (n m : Nat), isT a (n + m) l → tl a n (l ++ r) = tl a n l
  | l, r, 0, _, _ => by rw [tl_0, tl_0]
  | [], _, n + 1, m, h => by
    rw [show n + 1 + m = (n + m) + 1 by omega] at h
    cases h
  | x :: xs, r, n + 1, m, h => by
    rw [show n + 1 + m = (n + m) + 1 by omega] at h
    show 1 + tl a (n + (a x).toNat) (xs ++ r) = 1 + tl a (n + (a x).toNat) xs
    rw [tl_app xs r (n + (a x).toNat) m (by rw [show n + (a x).toNat + m = n + m + (a x).toNat by omega]; exact h.2)]
theorem tl_add {a : Int → Int} : ∀ (l : List Int) (n m : Nat), isT a (n + m) l → ∀ k, k ≤ m → tl a (n + k) l = tl a n l + tl a k (l.drop (tl a n l))
  | l, 0, m, h, k, hk => by
    rw [Nat.zero_add]
    show tl a k l = tl a 0 l + tl a k (l.drop (tl a 0 l))
    have e : tl a 0 l = 0 := by cases l <;> rfl
    rw [e, Nat.zero_add]
    rfl
  | [], n + 1, m, h, _, _ => by
    rw [show n + 1 + m = (n + m) + 1 by omega] at h
    cases h
  | x :: xs, n + 1, m, h, k, hk => by
    rw [show n + 1 + m = (n + m) + 1 by omega] at h
    have ih := tl_add xs (n + (a x).toNat) m (by rw [show n + (a x).toNat + m = n + m + (a x).toNat by omega]; exact h.2) k hk
    rw [show n + 1 + k = (n + k) + 1 by omega]
    show 1 + tl a (n + k + (a x).toNat) xs = _
    have e : tl a (n + 1) (x :: xs) = tl a (n + (a x).toNat) xs + 1 := by show 1 + _ = _; omega
    rw [e, List.drop_succ_cons, show n + k + (a x).toNat = n + (a x).toNat + k by omega, ih]
    omega
theorem tl_pos {a : Int → Int} {l : List Int} {n : Nat} (h : l ≠ []) : 1 ≤ tl a (n + 1) l := by
  cases l with
  | nil => exact absurd rfl h
  | cons x xs => show 1 ≤ 1 + _; omega
theorem isT_ar {a : Int → Int} : ∀ (l : List Int) (n : Nat), isT a n l → ∀ x ∈ l, 0 ≤ a x
  | [], _, _, x, h => by cases h
  | _ :: _, 0, h, _, _ => by cases h
  | y :: ys, n + 1, h, x, hx => by
    rcases List.mem_cons.mp hx with rfl | hx
    · exact h.1
    · exact isT_ar ys _ h.2 x hx
theorem isT_congr {a b : Int → Int} : ∀ (l : List Int) (n : Nat), (∀ x ∈ l, a x = b x) → isT a n l → isT b n l
  | [], 0, _, _ => trivial
  | [], _ + 1, _, h => by cases h
  | _ :: _, 0, _, h => by cases h
  | x :: xs, n + 1, hab, h => by
    have e := hab x List.mem_cons_self
    refine ⟨by rw [← e]; exact h.1, ?_⟩
    rw [← e]
    exact isT_congr xs _ (fun y hy => hab y (List.mem_cons_of_mem _ hy)) h.2
theorem wbF_range (f : Nat → Int) (x : Int) : ∀ n, wbF f x n = -4 ∨ (0 ≤ wbF f x n ∧ wbF f x n < n ∧ f (wbF f x n).toNat = x)
  | 0 => Or.inl rfl
  | n + 1 => by
    unfold wbF
    by_cases h : f n = x
    · rw [if_pos h]
      refine Or.inr ⟨by omega, by omega, ?_⟩
      rw [show ((n : Int)).toNat = n by omega]
      exact h
    · rw [if_neg h]
      rcases wbF_range f x n with h1 | ⟨h1, h2, h3⟩
      · exact Or.inl h1
      · exact Or.inr ⟨h1, by omega, h3⟩
theorem wbF_none {f : Nat → Int} {x : Int} : ∀ n, (∀ k, k < n → f k ≠ x) → wbF f x n = -4
  | 0, _ => rfl
  | n + 1, h => by
    unfold wbF
    rw [if_neg (h n (by omega))]
    exact wbF_none n (fun k hk => h k (by omega))
theorem wbF_some {f : Nat → Int} {x : Int} {k : Nat} : ∀ n, k < n → f k = x → wbF f x n ≠ -4
  | 0, h, _ => by omega
  | n + 1, h, e => by
    unfold wbF
    by_cases h1 : f n = x
    · rw [if_pos h1]; omega
    · rw [if_neg h1]
      have hkn : k ≠ n := fun q => h1 (q ▸ e)
      exact wbF_some n (by omega) e
theorem wb_range {μ ν : Mem} (h : RelW μ ν) (x : Int) : wb ν x = -4 ∨ (0 ≤ wb ν x ∧ wb ν x < ν 0 0 ∧ ν 1 (wb ν x).toNat = x) := by
  rcases wbF_range (ν 1) x (ν 0 23).toNat with h1 | ⟨h1, h2, h3⟩
  · exact Or.inl h1
  · refine Or.inr ⟨h1, ?_, h3⟩
    show wbF (ν 1) x (ν 0 23).toNat < ν 0 0
    have := h.2.2.1
    have := h.1
    omega
theorem wb_of {μ ν : Mem} (h : RelW μ ν) {w : Nat} (hw : (w : Int) < ν 0 0) : wb ν (ν 1 w) = w := by
  rcases wb_range h (ν 1 w) with h1 | ⟨h1, h2, h3⟩
  · exfalso
    have h23 := h.2.2.1
    exact wbF_some (f := ν 1) (x := ν 1 w) (k := w) (ν 0 23).toNat (by omega) rfl h1
  · have := h.2.2.2.2.2.1 (wb ν (ν 1 w)).toNat w (by omega) hw h3
    omega
/-- a letter of a word is 0 to 3 -/
theorem wb_let {μ ν : Mem} (h : RelW μ ν) {x : Int} (hx : wb ν x ≠ -4) : 0 ≤ x ∧ x ≤ 3 := by
  rcases wb_range h x with h1 | ⟨h1, h2, h3⟩
  · exact absurd h1 hx
  · obtain ⟨⟨o1, o2, -⟩, -⟩ := h.2.2.2.2.1 (wb ν x).toNat (by omega)
    rw [h3] at o1 o2
    exact ⟨o1, o2⟩
theorem ar_vals {μ ν : Mem} (h : RelW μ ν) (x : Int) : ar ν x = -4 ∨ ar ν x = 0 ∨ ar ν x = 1 ∨ ar ν x = 2 := by
  unfold ar
  split
  · omega
  · split
    · omega
    · split
      · omega
      · rename_i h1 h2 h3
        rcases wb_range h x with h4 | ⟨h4, h5, h6⟩
        · exact absurd h4 h3
        · obtain ⟨⟨o1, o2, o3, -⟩, -⟩ := h.2.2.2.2.1 (wb ν x).toNat (by omega)
          omega
