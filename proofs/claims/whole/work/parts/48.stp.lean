/-! A STEP of a TERM gives a TERM -/
theorem isT_tail {a : Int → Int} {s r : List Int} {n : Nat} (h : isT a n (s ++ r)) (hs : isT a 1 s) : ∃ m, n = m + 1 ∧ isT a m r := by
  have hne := isT_ne hs
  cases n with
  | zero =>
    cases s with
    | nil => exact absurd rfl hne
    | cons x s => cases h
  | succ m =>
    refine ⟨m, rfl, ?_⟩
    have h1 := (isT_split (s ++ r) 1 m (by rw [Nat.add_comm]; exact h)).2
    rw [tl_app s r 1 0 hs, isT_len s 1 hs, List.drop_left] at h1
    exact h1
theorem isT_swap {a : Int → Int} {s u r : List Int} (hs : isT a 1 s) (hu : isT a 1 u) : ∀ (l : List Int) (n : Nat), isT a n (l ++ (s ++ r)) → isT a n (l ++ (u ++ r))
  | [], n, h => by
    obtain ⟨m, rfl, hm⟩ := isT_tail (s := s) (r := r) h hs
    have := isT_app u r 1 m hu hm
    rw [Nat.add_comm] at this
    exact this
  | x :: l, 0, h => by cases h
  | x :: l, n + 1, h => ⟨h.1, isT_swap hs hu l _ h.2⟩
def okU (a : Int → Int) (u : List Int) : Prop := isT a 1 u ∧ LT u
theorem LT_app {l r : List Int} (h1 : LT l) (h2 : LT r) : LT (l ++ r) := fun x hx => by
  rcases List.mem_append.mp hx with q | q
  · exact h1 x q
  · exact h2 x q
theorem LT_take {l : List Int} {n : Nat} (h : LT l) : LT (l.take n) := fun x hx => h x (List.mem_of_mem_take hx)
theorem LT_drop {l : List Int} {n : Nat} (h : LT l) : LT (l.drop n) := fun x hx => h x (List.mem_of_mem_drop hx)
theorem fit_ok {a : Int → Int} (ha : ∀ x, 23 ≤ x → a x = 0) : ∀ (ps s : List Int) (σ σ' : Nat → Option (List Int)) (m : Nat), isT a m ps → isT a m s → LT s → (∀ k u, σ k = some u → okU a u) → fit a ps s σ = some σ' → ∀ k u, σ' k = some u → okU a u
  | [], [], σ, σ', m, _, _, _, h, he => by cases he; exact h
  | [], _ :: _, σ, σ', m, _, _, _, h, he => by cases he
  | _ :: _, [], σ, σ', m, _, _, _, h, he => by cases he
  | p :: ps, x :: s, σ, σ', 0, h1, _, _, h, he => by cases h1
  | p :: ps, x :: s, σ, σ', m + 1, h1, h2, h3, h, he => by
    have hf : fit a (p :: ps) (x :: s) σ = if 23 ≤ p then
      (match σ (p - 23).toNat with
      | none => fit a ps ((x :: s).drop (tl a 1 (x :: s))) (bnd σ (p - 23).toNat ((x :: s).take (tl a 1 (x :: s))))
      | some u => if u = (x :: s).take (tl a 1 (x :: s)) then fit a ps ((x :: s).drop (tl a 1 (x :: s))) σ else none)
    else if x = p then fit a ps s σ else none := rfl
    rw [hf] at he
    by_cases hp : 23 ≤ p
    · rw [if_pos hp] at he
      have hsp := isT_split (x :: s) 1 m (by rw [Nat.add_comm]; exact h2)
      have h1' : isT a m ps := by
        have := h1.2
        rw [ha p hp] at this
        exact this
      have hu : okU a ((x :: s).take (tl a 1 (x :: s))) := ⟨hsp.1, LT_take h3⟩
      cases hσ : σ (p - 23).toNat with
      | none =>
        rw [hσ] at he
        refine fit_ok ha ps _ _ σ' m h1' hsp.2 (LT_drop h3) (fun k u hk => ?_) he
        unfold bnd at hk
        split at hk
        · cases hk; exact hu
        · exact h k u hk
      | some u =>
        rw [hσ] at he
        dsimp only at he
        split at he
        · exact fit_ok ha ps _ _ σ' m h1' hsp.2 (LT_drop h3) h he
        · cases he
    · rw [if_neg hp] at he
      by_cases hx : x = p
      · rw [if_pos hx] at he
        subst hx
        exact fit_ok ha ps s σ σ' _ h1.2 h2.2 (fun y hy => h3 y (List.mem_cons_of_mem _ hy)) h he
      · rw [if_neg hx] at he
        cases he
theorem sbs_ok {a : Int → Int} (ha : ∀ x, 23 ≤ x → a x = 0) {σ : Nat → Option (List Int)} (hσ : ∀ k u, σ k = some u → okU a u) : ∀ (ps u : List Int) (m : Nat), isT a m ps → LT ps → sbs σ ps = some u → isT a m u ∧ LT u
  | [], u, m, h1, h2, he => by cases he; exact ⟨h1, h2⟩
  | p :: ps, u, 0, h1, h2, he => by cases h1
  | p :: ps, u, m + 1, h1, h2, he => by
    have hf : sbs σ (p :: ps) = if 23 ≤ p then
      (match σ (p - 23).toNat with
      | none => none
      | some u => (sbs σ ps).map (u ++ ·))
    else (sbs σ ps).map (p :: ·) := rfl
    rw [hf] at he
    have h2' : LT ps := fun y hy => h2 y (List.mem_cons_of_mem _ hy)
    by_cases hp : 23 ≤ p
    · rw [if_pos hp] at he
      cases hk : σ (p - 23).toNat with
      | none => rw [hk] at he; cases he
      | some v =>
        rw [hk] at he
        cases hq : sbs σ ps with
        | none => rw [hq] at he; cases he
        | some w =>
          rw [hq] at he
          cases he
          have h1' : isT a m ps := by
            have := h1.2
            rw [ha p hp] at this
            exact this
          obtain ⟨r1, r2⟩ := sbs_ok ha hσ ps w m h1' h2' hq
          have hv := hσ _ v hk
          refine ⟨?_, LT_app hv.2 r2⟩
          have := isT_app v w 1 m hv.1 r1
          rw [Nat.add_comm] at this
          exact this
    · rw [if_neg hp] at he
      cases hq : sbs σ ps with
      | none => rw [hq] at he; cases he
      | some w =>
        rw [hq] at he
        cases he
        obtain ⟨r1, r2⟩ := sbs_ok ha hσ ps w _ h1.2 h2' hq
        refine ⟨⟨h1.1, r1⟩, ?_⟩
        intro y hy
        rcases List.mem_cons.mp hy with q | q
        · rw [q]; exact h2 p (List.mem_cons_self ..)
        · exact r2 y q
/-- a TERM as it must be -/
def okT (ν : Mem) (T : List Int) : Prop := isT (ar ν) 1 T ∧ LT T ∧ T.length ≤ 20
theorem goP_inl {ν : Mem} {pat ins T : List Int} {P : Nat} {e : Int} (h : goP ν pat ins T P = .inl e) : e < 0 := by
  unfold goP at h
  split at h
  · cases h; decide
  · split at h
    · cases h; decide
    · split at h
      · cases h; decide
      · cases h
theorem stp_inl {ν : Mem} {T : List Int} {kind which place e : Int} (h : stp ν kind which place T = .inl e) : e < 0 := by
  unfold stp at h
  split at h
  · cases h; decide
  · split at h
    · split at h
      · cases h; decide
      · split at h
        · exact goP_inl h
        · exact goP_inl h
    · split at h
      · split at h
        · cases h; decide
        · exact goP_inl h
      · split at h
        · cases h; decide
        · exact goP_inl h
theorem goP_inr {ν : Mem} {pat ins T T' : List Int} {P : Nat} (hT : okT ν T) (hP : P < T.length) (hpat : isT (ar ν) 1 pat) (hi : isT (ar ν) 1 ins) (hiL : LT ins) (h : goP ν pat ins T P = .inr T') : okT ν T' := by
  unfold goP at h
  split at h
  · cases h
  · rename_i σ hfit
    split at h
    · cases h
    · rename_i u hs
      split at h
      · cases h
      · rename_i hb
        have ha : ∀ x, 23 ≤ x → ar ν x = 0 := fun x hx => ar_name hx
        obtain ⟨m, hm⟩ := isT_drop T 1 P hT.1 hP
        have hsp := isT_split (T.drop P) 1 m (by rw [Nat.add_comm]; exact hm)
        have hσ := fit_ok ha _ _ _ σ 1 hpat hsp.1 (LT_take (LT_drop hT.2.1)) (fun k u q => by cases q) hfit
        obtain ⟨u1, u2⟩ := sbs_ok ha hσ ins u 1 hi hiL hs
        cases h
        refine ⟨?_, LT_app (LT_app (LT_take hT.2.1) u2) (LT_drop hT.2.1), ?_⟩
        · rw [List.append_assoc]
          refine isT_swap hsp.1 u1 (T.take P) 1 ?_
          rw [show T.drop (P + tl (ar ν) 1 (T.drop P)) = (T.drop P).drop (tl (ar ν) 1 (T.drop P)) by rw [List.drop_drop], List.take_append_drop, List.take_append_drop]
          exact hT.1
        · simp only [List.length_append, List.length_take, List.length_drop]
          omega
theorem stp_inr {μ ν : Mem} {T T' : List Int} {kind which place : Int} (hW : RelW μ ν) (hS : RelS μ ν) (hT : okT ν T) (hk : 0 ≤ kind ∧ kind ≤ 3) (h : stp ν kind which place T = .inr T') : okT ν T' := by
  unfold stp at h
  split at h
  · cases h
  · rename_i hpl
    have hP : place.toNat < T.length := by omega
    split at h
    · split at h
      · cases h
      · rename_i hw
        have hs := hS.2.2.2.2.2.2.2.2 which.toNat (by omega)
        split at h
        · exact goP_inr hT hP hs.1.2.2.2 hs.2.1.2.2.2 hs.2.1.2.2.1 h
        · exact goP_inr hT hP hs.2.1.2.2.2 hs.1.2.2.2 hs.1.2.2.1 h
    · split at h
      · split at h
        · cases h
        · rename_i hw
          have hr := wb_range hW (atL T place)
          have hv : (((wb ν (atL T place)).toNat : Nat) : Int) < ν 0 0 := by omega
          obtain ⟨⟨o1, o2, o3, o4, o5, o6, o7, o8⟩, -⟩ := hW.2.2.2.2.1 _ hv
          exact goP_inr hT hP (fcL_isT hW hv) o7 o6 h
      · split at h
        · cases h
        · rename_i hw
          have hv : ((which.toNat : Nat) : Int) < ν 0 0 := by omega
          obtain ⟨⟨o1, o2, o3, o4, o5, o6, o7, o8⟩, -⟩ := hW.2.2.2.2.1 _ hv
          exact goP_inr hT hP o7 (fcL_isT hW hv) (fcL_LT hW hv) h
theorem okT_sL {μ ν : Mem} (hS : RelS μ ν) {e k : Nat} (he : (e : Int) < ν 0 5) (hk : k ≤ 1) : okT ν (sL ν e k) := by
  have hs := hS.2.2.2.2.2.2.2.2 e he
  have : okS ν e k := by
    rcases Nat.eq_zero_or_pos k with q | q
    · rw [q]; exact hs.1
    · rw [show k = 1 by omega]; exact hs.2.1
  refine ⟨this.2.2.2, this.2.2.1, ?_⟩
  unfold sL
  rw [sg_len]
  have := this.2.1
  omega
