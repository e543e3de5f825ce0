/-! whether a SAYING holds in a WORLD -/
def EQ (ν : Mem) (n num e x y z : Nat) : Prop := vT ν n ((num % n : Nat) : Int) (tbW n num) (wtW ν n num (ν 0 0).toNat) x y z (sL ν e 0) = vT ν n ((num % n : Nat) : Int) (tbW n num) (wtW ν n num (ν 0 0).toNat) x y z (sL ν e 1)
theorem hdW_iff {ν : Mem} {n num e : Nat} : hdW ν n num e ↔ ∀ x y z : Nat, x < n → y < n → z < n → EQ ν n num e x y z := Iff.rfl
theorem okWt_W {μ ν : Mem} (hW : RelW μ ν) {n num : Nat} (hn : 0 < n) (hn3 : n ≤ 3) (l : List Int) : okWt ν n (wtW ν n num (ν 0 0).toNat) l := okWt_all hW hn hn3 (fun u hu _ => by omega)
section HC
variable {μ ν : Mem} {n num e : Nat}
theorem atL_mem {l : List Int} {i : Nat} {c : Int} (hc : c ≠ -4) (h : atL l (i : Int) = c) : c ∈ l := by
  unfold atL at h
  rw [if_pos (by omega), show ((i : Int)).toNat = i by omega] at h
  cases q : l[i]? with
  | none => rw [q] at h; exact absurd h.symm hc
  | some x =>
    rw [q] at h
    have h' : x = c := h
    rw [← h']
    exact List.mem_of_getElem? q
theorem s_has2 {s : Nat} {l r : List Int} {k : Nat} (hk : k < 3) (hl : TH μ (s + 1) l) (hr : TH μ (s + 3) r) (h1 : l.length ≤ 20) (h2 : r.length ≤ 20) {o : Option AV} : ∀ (j i : Nat), i + j = 20 → (∀ q, q < i → l[q]? ≠ some (23 + (k : Int)) ∧ r[q]? ≠ some (23 + (k : Int))) → e_X10_has_2 o s k i μ = some (some (vI (if 23 + (k : Int) ∈ l ∨ 23 + (k : Int) ∈ r then 1 else 0)), μ)
  | 0, i, hj, h => by
    obtain rfl : i = 20 := by omega
    rw [q_X10_has_2, if_neg (by omega), gz_0, if_neg]
    rintro (q | q)
    · obtain ⟨a, ha⟩ := List.mem_iff_getElem?.mp q
      have : a < l.length := by
        rcases Nat.lt_or_ge a l.length with z | z
        · exact z
        · rw [List.getElem?_eq_none z] at ha; cases ha
      exact (h a (by omega)).1 ha
    · obtain ⟨a, ha⟩ := List.mem_iff_getElem?.mp q
      have : a < r.length := by
        rcases Nat.lt_or_ge a r.length with z | z
        · exact z
        · rw [List.getElem?_eq_none z] at ha; cases ha
      exact (h a (by omega)).2 ha
  | j + 1, i, hj, h => by
    rw [q_X10_has_2, if_pos (by omega), s_at hl, cI_t, s_at hr, cI_t, wr_eq (x := 23 + (k : Int)) (by omega) (by omega), gz_1, wr_eq (x := (i : Int) + 1) (by omega) (by omega), show (i : Int) + 1 = ((i + 1 : Nat) : Int) by omega]
    by_cases q1 : atL l (i : Int) = 23 + (k : Int)
    · rw [if_pos q1, if_pos (Or.inl (atL_mem (by omega) q1))]
    · rw [if_neg q1]
      by_cases q2 : atL r (i : Int) = 23 + (k : Int)
      · rw [if_pos q2, if_pos (Or.inr (atL_mem (by omega) q2))]
      · rw [if_neg q2]
        refine s_has2 hk hl hr h1 h2 j (i + 1) (by omega) (fun q hq => ?_)
        by_cases z : q = i
        · subst z
          refine ⟨fun y => q1 (atL_in (by omega) (by rw [show ((q : Int)).toNat = q by omega]; exact y)), fun y => q2 (atL_in (by omega) (by rw [show ((q : Int)).toNat = q by omega]; exact y))⟩
        · exact h q (by omega)
theorem s_hasC {s : Nat} {l r : List Int} {k : Nat} (hk : k < 3) (hl : TH μ (s + 1) l) (hr : TH μ (s + 3) r) (h1 : l.length ≤ 20) (h2 : r.length ≤ 20) : f_X10_has [vR 10 771, vR 2 s, vI (k : Int)] μ = some (some (vI (if 23 + (k : Int) ∈ l ∨ 23 + (k : Int) ∈ r then 1 else 0)), μ) := by
  rw [q_X10_has]
  exact s_has2 hk hl hr h1 h2 20 0 (by omega) (fun q hq => by omega)
/-- both sides of a saying in the class, at given names -/
theorem s_two {μ0 : Mem} (hW : RelW μ0 ν) (hS : RelS μ0 ν) (hn : 0 < n) (hn3 : n ≤ 3) (he : (e : Int) < ν 0 5) (hI : InC μ0 ν n num) (hf : ∀ c, c ≠ 778 → c ≠ 779 → μ c = μ0 c) {x y z : Nat} (hx : x < n) (hy : y < n) (hz : z < n) : ∃ r1 r2 μ1 μ2, f_X10_valueOf [vR 10 771, vR 8 (31 + 5 * e + 1)] (up (up (up μ 778 0 (x : Int)) 778 1 (y : Int)) 778 2 (z : Int)) = some (some (vI r1), μ1) ∧ f_X10_valueOf [vR 10 771, vR 8 (31 + 5 * e + 3)] μ1 = some (some (vI r2), μ2) ∧ (∀ c, c ≠ 778 → c ≠ 779 → μ2 c = μ0 c) ∧ (r1 = r2 ↔ EQ ν n num e x y z) := by
  have h24 := hS.2.1
  have hs := hS.2.2.2.2.2.2.2.2 e he
  have hm := Nat.mod_lt num hn
  obtain ⟨U, hU⟩ : ∃ U, U = up (up (up μ 778 0 (x : Int)) 778 1 (y : Int)) 778 2 (z : Int) := ⟨_, rfl⟩
  have hUf : ∀ c, c ≠ 778 → c ≠ 779 → U c = μ0 c := fun c p q => by rw [hU, up_cell p, up_cell p, up_cell p]; exact hf c p q
  have U0 : U 778 0 = (x : Int) := by rw [hU, up_slot (by omega), up_slot (by omega), up_same]
  have U1 : U 778 1 = (y : Int) := by rw [hU, up_slot (by omega), up_same]
  have U2 : U 778 2 = (z : Int) := by rw [hU, up_same]
  have val : ∀ (V : Mem) (k : Nat), k ≤ 1 → (∀ c, c ≠ 778 → c ≠ 779 → V c = μ0 c) → V 778 = U 778 → ∃ V', f_X10_valueOf [vR 10 771, vR 8 (31 + 5 * e + (1 + 2 * k))] V = some (some (vI (vT ν n ((num % n : Nat) : Int) (tbW n num) (wtW ν n num (ν 0 0).toNat) x y z (sL ν e k))), V') ∧ ∀ c, c ≠ 779 → V' c = V c := fun V k hk hV hV7 => by
    have ok := okT_sL hS he hk
    have hT0 : TH μ0 (31 + 5 * e + (1 + 2 * k)) (sL ν e k) := by
      rcases (show k = 0 ∨ k = 1 by omega) with rfl | rfl
      · rw [show 31 + 5 * e + (1 + 2 * 0) = 32 + 5 * e by omega]; exact hs.2.2.1
      · rw [show 31 + 5 * e + (1 + 2 * 1) = 34 + 5 * e by omega]; exact hs.2.2.2.1
    refine s_valueOfC (hW.kept (fun c _ _ => hV c (by omega) (by omega))) (by omega) (hT0.kept (S := fun c => 771 ≤ c) (fun c hc => hV c (by omega) (by omega)) (by omega) (by omega)) (by omega) ok.2.1 ok.2.2 ok.1 ⟨?_, ?_, ?_, fun u hu _ a b ha hb q => ?_⟩ ⟨fun _ => ?_, fun _ => ?_, fun _ => ?_⟩ (fun k => tbW_rng hn) (by omega) (by omega) (by omega) (by omega) (okWt_W hW hn hn3 _)
    · rw [hV 771 (by omega) (by omega)]; exact hI.1.1
    · rw [hV 771 (by omega) (by omega)]; exact hI.1.2.1
    · rw [hV 772 (by omega) (by omega)]; exact hI.1.2.2
    · rw [hV (774 + u) (by have := hW.2.1; omega) (by have := hW.2.1; omega), wtW_at (by omega) (by omega) _ (show u < (ν 0 0).toNat by omega)]
      exact hI.2 u hu a b ha hb q
    · rw [hV7]; exact U0
    · rw [hV7]; exact U1
    · rw [hV7]; exact U2
  obtain ⟨μ1, a1, a2⟩ := val U 0 (by omega) hUf rfl
  obtain ⟨μ2, b1, b2⟩ := val μ1 1 (by omega) (fun c p q => by rw [a2 c q]; exact hUf c p q) (a2 778 (by omega))
  rw [← hU]
  exact ⟨_, _, μ1, μ2, a1, b1, fun c p q => by rw [b2 c q, a2 c q]; exact hUf c p q, Iff.rfl⟩
section LOOP
variable {μ0 : Mem} {xs ys zs : Nat}
theorem s_true76 (hW : RelW μ0 ν) (hS : RelS μ0 ν) (hn : 0 < n) (hn3 : n ≤ 3) (he : (e : Int) < ν 0 5) (hI : InC μ0 ν n num) (hzs : zs ≤ n) {x y : Nat} (hx : x < n) (hy : y < n) : ∀ (j i : Nat) (μ : Mem), i + j = zs → (∀ c, c ≠ 778 → c ≠ 779 → μ c = μ0 c) → (∀ z, z < i → EQ ν n num e x y z) →
    (∃ μ' z, e_X10_isTrue_76 (31 + 5 * e) xs ys zs x y i μ = some (some (vI 0), μ') ∧ (∀ c, c ≠ 778 → c ≠ 779 → μ' c = μ0 c) ∧ z < zs ∧ ¬ EQ ν n num e x y z) ∨ (∃ μ', e_X10_isTrue_76 (31 + 5 * e) xs ys zs x y i μ = e_X10_isTrue_67 (31 + 5 * e) xs ys zs x ((y + 1 : Nat) : Int) (some (vI zs)) μ' ∧ (∀ c, c ≠ 778 → c ≠ 779 → μ' c = μ0 c) ∧ ∀ z, z < zs → EQ ν n num e x y z)
  | 0, i, μ, hj, hf, hE => by
    obtain rfl : i = zs := by omega
    rw [q_X10_isTrue_76, if_neg (by omega), wr_eq (x := (y : Int) + 1) (by omega) (by omega), show (y : Int) + 1 = ((y + 1 : Nat) : Int) by omega]
    exact Or.inr ⟨μ, rfl, hf, hE⟩
  | j + 1, i, μ, hj, hf, hE => by
    obtain ⟨r1, r2, μ1, μ2, a1, a2, a3, a4⟩ := s_two hW hS hn hn3 he hI hf hx hy (show i < n by omega)
    rw [q_X10_isTrue_76, if_pos (by omega), gk (lnC 778) 3 rfl (by omega) (by omega), gk (lnC 778) 3 rfl (by omega) (by omega), gk (lnC 778) 3 rfl (by omega) (by omega), show ((0 : Int)).toNat = 0 from rfl, show ((1 : Int)).toNat = 1 from rfl, show ((2 : Int)).toNat = 2 from rfl, a1, cI_t, a2, cI_t, gz_0, wr_eq (x := (i : Int) + 1) (by omega) (by omega), show (i : Int) + 1 = ((i + 1 : Nat) : Int) by omega]
    by_cases q : r1 = r2
    · rw [if_pos q]
      refine s_true76 hW hS hn hn3 he hI hzs hx hy j (i + 1) μ2 (by omega) a3 (fun z hz => ?_)
      by_cases w : z = i
      · subst w; exact a4.mp q
      · exact hE z (by omega)
    · rw [if_neg q]
      exact Or.inl ⟨μ2, i, rfl, a3, by omega, fun w => q (a4.mpr w)⟩
theorem s_true67 (hW : RelW μ0 ν) (hS : RelS μ0 ν) (hn : 0 < n) (hn3 : n ≤ 3) (he : (e : Int) < ν 0 5) (hI : InC μ0 ν n num) (hys : ys ≤ n) (hzs : zs ≤ n) {x : Nat} (hx : x < n) : ∀ (j i : Nat) (μ : Mem) (o : Option AV), i + j = ys → (∀ c, c ≠ 778 → c ≠ 779 → μ c = μ0 c) → (∀ y z, y < i → z < zs → EQ ν n num e x y z) →
    (∃ μ' y z, e_X10_isTrue_67 (31 + 5 * e) xs ys zs x i o μ = some (some (vI 0), μ') ∧ (∀ c, c ≠ 778 → c ≠ 779 → μ' c = μ0 c) ∧ y < ys ∧ z < zs ∧ ¬ EQ ν n num e x y z) ∨ (∃ μ' o', e_X10_isTrue_67 (31 + 5 * e) xs ys zs x i o μ = e_X10_isTrue_58 (31 + 5 * e) xs ys zs ((x + 1 : Nat) : Int) (some (vI ys)) o' μ' ∧ (∀ c, c ≠ 778 → c ≠ 779 → μ' c = μ0 c) ∧ ∀ y z, y < ys → z < zs → EQ ν n num e x y z)
  | 0, i, μ, o, hj, hf, hE => by
    obtain rfl : i = ys := by omega
    rw [q_X10_isTrue_67, if_neg (by omega), wr_eq (x := (x : Int) + 1) (by omega) (by omega), show (x : Int) + 1 = ((x + 1 : Nat) : Int) by omega]
    exact Or.inr ⟨μ, o, rfl, hf, hE⟩
  | j + 1, i, μ, o, hj, hf, hE => by
    rw [q_X10_isTrue_67, if_pos (by omega)]
    rcases s_true76 (xs := xs) (ys := ys) hW hS hn hn3 he hI hzs hx (show i < n by omega) zs 0 μ (by omega) hf (fun z hz => by omega) with ⟨μ', z, a1, a2, a3, a4⟩ | ⟨μ', a1, a2, a3⟩
    · have a1' : e_X10_isTrue_76 (31 + 5 * e) xs ys zs x i 0 μ = _ := a1
      exact Or.inl ⟨μ', i, z, a1', a2, by omega, a3, a4⟩
    · have a1' : e_X10_isTrue_76 (31 + 5 * e) xs ys zs x i 0 μ = _ := a1
      rw [a1']
      refine s_true67 hW hS hn hn3 he hI hys hzs hx j (i + 1) μ' _ (by omega) a2 (fun y z hy hz => ?_)
      by_cases w : y = i
      · subst w; exact a3 z hz
      · exact hE y z (by omega) hz
theorem s_true58 (hW : RelW μ0 ν) (hS : RelS μ0 ν) (hn : 0 < n) (hn3 : n ≤ 3) (he : (e : Int) < ν 0 5) (hI : InC μ0 ν n num) (hxs : xs ≤ n) (hys : ys ≤ n) (hzs : zs ≤ n) : ∀ (j i : Nat) (μ : Mem) (o o2 : Option AV), i + j = xs → (∀ c, c ≠ 778 → c ≠ 779 → μ c = μ0 c) → (∀ x y z, x < i → y < ys → z < zs → EQ ν n num e x y z) →
    ∃ r μ', e_X10_isTrue_58 (31 + 5 * e) xs ys zs i o o2 μ = some (some (vI r), μ') ∧ (∀ c, c ≠ 778 → c ≠ 779 → μ' c = μ0 c) ∧ (r = 0 ∨ r = 1) ∧ (r = 1 ↔ ∀ x y z, x < xs → y < ys → z < zs → EQ ν n num e x y z)
  | 0, i, μ, o, o2, hj, hf, hE => by
    obtain rfl : i = xs := by omega
    rw [q_X10_isTrue_58, if_neg (by omega), gz_1]
    exact ⟨1, μ, rfl, hf, Or.inr rfl, ⟨fun _ => hE, fun _ => rfl⟩⟩
  | j + 1, i, μ, o, o2, hj, hf, hE => by
    rw [q_X10_isTrue_58, if_pos (by omega)]
    rcases s_true67 (xs := xs) hW hS hn hn3 he hI hys hzs (show i < n by omega) ys 0 μ o2 (by omega) hf (fun y z hy => by omega) with ⟨μ', y, z, a1, a2, a3, a4, a5⟩ | ⟨μ', o', a1, a2, a3⟩
    · have a1' : e_X10_isTrue_67 (31 + 5 * e) xs ys zs i 0 o2 μ = _ := a1
      exact ⟨0, μ', a1', a2, Or.inl rfl, ⟨fun q => by omega, fun q => absurd (q i y z (by omega) a3 a4) a5⟩⟩
    · have a1' : e_X10_isTrue_67 (31 + 5 * e) xs ys zs i 0 o2 μ = _ := a1
      rw [a1']
      refine s_true58 hW hS hn hn3 he hI hxs hys hzs j (i + 1) μ' _ _ (by omega) a2 (fun x y z hx hy hz => ?_)
      by_cases w : x = i
      · subst w; exact a3 y z hy hz
      · exact hE x y z (by omega) hy hz
end LOOP
/-- names that do not stand in a saying do not count -/
theorem EQ_ind (hW : RelW μ ν) (hS : RelS μ ν) (hn : 0 < n) (hn3 : n ≤ 3) (he : (e : Int) < ν 0 5) {x y z x' y' z' : Nat} (hx : x < n) (hy : y < n) (hz : z < n) (ex : 23 ∈ sL ν e 0 ∨ 23 ∈ sL ν e 1 → x' = x) (ey : 24 ∈ sL ν e 0 ∨ 24 ∈ sL ν e 1 → y' = y) (ez : 25 ∈ sL ν e 0 ∨ 25 ∈ sL ν e 1 → z' = z) : EQ ν n num e x' y' z' ↔ EQ ν n num e x y z := by
  have hm := Nat.mod_lt num hn
  have side : ∀ k, k ≤ 1 → vT ν n ((num % n : Nat) : Int) (tbW n num) (wtW ν n num (ν 0 0).toNat) x' y' z' (sL ν e k) = vT ν n ((num % n : Nat) : Int) (tbW n num) (wtW ν n num (ν 0 0).toNat) x y z (sL ν e k) := fun k hk => by
    have ok := okT_sL hS he hk
    have mem : ∀ c, c ∈ sL ν e k → c ∈ sL ν e 0 ∨ c ∈ sL ν e 1 := fun c hc => by
      rcases (show k = 0 ∨ k = 1 by omega) with rfl | rfl
      · exact Or.inl hc
      · exact Or.inr hc
    have key := vS_congr (x := (x : Int)) (y := (y : Int)) (z := (z : Int)) (x' := (x' : Int)) (y' := (y' : Int)) (z' := (z' : Int)) (no := ((num % n : Nat) : Int)) (tb := tbW n num) (wt := wtW ν n num (ν 0 0).toNat) (wt' := wtW ν n num (ν 0 0).toNat) hW (fun k => tbW_rng hn) (by omega) (by omega) (by omega) (by omega) (sL ν e k) 1 ok.1 (okWt_W hW hn hn3 _) (fun q => by rw [ex (mem _ q)]) (fun q => by rw [ey (mem _ q)]) (fun ⟨c, q1, q2⟩ => by
      have := ok.2.1 c q1
      obtain rfl : c = 25 := by omega
      rw [ez (mem _ q1)]) (fun _ _ _ _ _ _ _ _ => rfl)
    exact congrArg (fun S : List Int => S.headD 0) key
  unfold EQ
  rw [side 0 (by omega), side 1 (by omega)]
theorem s_isTrue (hW : RelW μ ν) (hS : RelS μ ν) (hn : 0 < n) (hn3 : n ≤ 3) (he : (e : Int) < ν 0 5) (hI : InC μ ν n num) : ∃ r μ', f_X10_isTrue [vR 10 771, vR 2 (31 + 5 * e)] μ = some (some (vI r), μ') ∧ (∀ c, c ≠ 778 → c ≠ 779 → μ' c = μ c) ∧ (r = 0 ∨ r = 1) ∧ (r = 1 ↔ hdW ν n num e) := by
  have hs := hS.2.2.2.2.2.2.2.2 e he
  have ok0 := okT_sL hS he (show 0 ≤ 1 by omega)
  have ok1 := okT_sL hS he (show 1 ≤ 1 by omega)
  have t0 : TH μ (31 + 5 * e + 1) (sL ν e 0) := by rw [show 31 + 5 * e + 1 = 32 + 5 * e by omega]; exact hs.2.2.1
  have t1 : TH μ (31 + 5 * e + 3) (sL ν e 1) := by rw [show 31 + 5 * e + 3 = 34 + 5 * e by omega]; exact hs.2.2.2.1
  have H := fun (k : Nat) (hk : k < 3) => s_hasC (μ := μ) hk t0 t1 ok0.2.2 ok1.2.2
  have H0 : f_X10_has [vR 10 771, vR 2 (31 + 5 * e), vI 0] μ = some (some (vI (if (23 : Int) ∈ sL ν e 0 ∨ (23 : Int) ∈ sL ν e 1 then 1 else 0)), μ) := H 0 (by omega)
  have H1 : f_X10_has [vR 10 771, vR 2 (31 + 5 * e), vI 1] μ = some (some (vI (if (24 : Int) ∈ sL ν e 0 ∨ (24 : Int) ∈ sL ν e 1 then 1 else 0)), μ) := H 1 (by omega)
  have H2 : f_X10_has [vR 10 771, vR 2 (31 + 5 * e), vI 2] μ = some (some (vI (if (25 : Int) ∈ sL ν e 0 ∨ (25 : Int) ∈ sL ν e 1 then 1 else 0)), μ) := H 2 (by omega)
  have fin : ∀ xs ys zs : Nat, 0 < xs → 0 < ys → 0 < zs → xs ≤ n → ys ≤ n → zs ≤ n → (23 ∈ sL ν e 0 ∨ 23 ∈ sL ν e 1 → xs = n) → (24 ∈ sL ν e 0 ∨ 24 ∈ sL ν e 1 → ys = n) → (25 ∈ sL ν e 0 ∨ 25 ∈ sL ν e 1 → zs = n) → ∃ r μ', e_X10_isTrue_58 (31 + 5 * e) (xs : Int) (ys : Int) (zs : Int) 0 none none μ = some (some (vI r), μ') ∧ (∀ c, c ≠ 778 → c ≠ 779 → μ' c = μ c) ∧ (r = 0 ∨ r = 1) ∧ (r = 1 ↔ hdW ν n num e) := fun xs ys zs p1 p2 p3 p4 p5 p6 q1 q2 q3 => by
    obtain ⟨r, μ', a1, a2, a3, a4⟩ := s_true58 hW hS hn hn3 he hI p4 p5 p6 xs 0 μ none none (by omega) (fun _ _ _ => rfl) (fun x y z hx => by omega)
    refine ⟨r, μ', a1, a2, a3, a4.trans ?_⟩
    rw [hdW_iff]
    constructor
    · intro h x y z hx hy hz
      have h1 := h (if x < xs then x else 0) (if y < ys then y else 0) (if z < zs then z else 0) (by split <;> omega) (by split <;> omega) (by split <;> omega)
      refine (EQ_ind hW hS hn hn3 he hx hy hz (fun q => ?_) (fun q => ?_) (fun q => ?_)).mp h1
      · rw [if_pos (by rw [q1 q]; exact hx)]
      · rw [if_pos (by rw [q2 q]; exact hy)]
      · rw [if_pos (by rw [q3 q]; exact hz)]
    · intro h x y z hx hy hz
      exact h x y z (by omega) (by omega) (by omega)
  have m6 := hI.1.1
  rw [q_X10_isTrue, H0, cI_t, m6]
  have B : ∀ (xs : Nat), 0 < xs → xs ≤ n → (23 ∈ sL ν e 0 ∨ 23 ∈ sL ν e 1 → xs = n) → ∃ r μ', e_X10_isTrue_17 (31 + 5 * e) none none none none none none (xs : Int) μ = some (some (vI r), μ') ∧ (∀ c, c ≠ 778 → c ≠ 779 → μ' c = μ c) ∧ (r = 0 ∨ r = 1) ∧ (r = 1 ↔ hdW ν n num e) := fun xs p1 p2 p3 => by
    rw [q_X10_isTrue_17, H1, cI_t, H2, cI_t, m6]
    by_cases c1 : (24 : Int) ∈ sL ν e 0 ∨ (24 : Int) ∈ sL ν e 1
    · rw [if_pos c1, if_neg ten]
      rw [cI_t]
      by_cases c2 : (25 : Int) ∈ sL ν e 0 ∨ (25 : Int) ∈ sL ν e 1
      · rw [if_pos c2, if_neg ten, m6]
        exact fin xs n n p1 hn hn p2 (Nat.le_refl _) (Nat.le_refl _) p3 (fun _ => rfl) (fun _ => rfl)
      · rw [if_neg c2, if_pos rfl]
        exact fin xs n 1 p1 hn (by omega) p2 (Nat.le_refl _) (by omega) p3 (fun _ => rfl) (fun q => absurd q c2)
    · rw [if_neg c1, if_pos rfl]
      by_cases c2 : (25 : Int) ∈ sL ν e 0 ∨ (25 : Int) ∈ sL ν e 1
      · rw [if_pos c2, if_neg ten]
        exact fin xs 1 n p1 (by omega) hn p2 (by omega) (Nat.le_refl _) p3 (fun q => absurd q c1) (fun _ => rfl)
      · rw [if_neg c2, if_pos rfl]
        exact fin xs 1 1 p1 (by omega) (by omega) p2 (by omega) (by omega) p3 (fun q => absurd q c1) (fun q => absurd q c2)
  by_cases c0 : (23 : Int) ∈ sL ν e 0 ∨ (23 : Int) ∈ sL ν e 1
  · rw [if_pos c0, if_neg ten]
    exact B n hn (Nat.le_refl _) (fun _ => rfl)
  · rw [if_neg c0, if_pos rfl]
    exact B 1 (by omega) (by omega) (fun q => absurd q c0)
end HC
