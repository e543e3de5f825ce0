/-! WORLDS: values of TERMS by a stack (top first) -/
def vS (ν : Mem) (th no : Int) (tb wt : Nat → Int) (x y z : Int) : List Int → List Int
  | [] => []
  | c :: r => let s := vS ν th no tb wt x y z r
    if c = 12 then (match s with
      | a :: b :: s => tb (th * a + b).toNat :: s
      | s => s)
    else if c = 14 ∨ 23 ≤ c then (if c = 14 then no else if c = 23 then x else if c = 24 then y else z) :: s
    else if ν 2 (wb ν c).toNat = 2 then (match s with
      | a :: b :: s => wt (9 * (wb ν c) + 3 * a + b).toNat :: s
      | s => s)
    else (match s with
      | a :: s => wt (9 * (wb ν c) + 3 * a).toNat :: s
      | s => s)
def vT (ν : Mem) (th no : Int) (tb wt : Nat → Int) (x y z : Int) (l : List Int) : Int := (vS ν th no tb wt x y z l).headD 0
/-- the table of m in a WORLD, and those of the first n words -/
def tbW (n num : Nat) (k : Nat) : Int := ((num / n / n ^ k % n : Nat) : Int)
def wtW (ν : Mem) (n num : Nat) : Nat → Nat → Int
  | 0 => fun _ => 0
  | w + 1 => fun j => if 9 * w ≤ j then vT ν n ((num % n : Nat) : Int) (tbW n num) (wtW ν n num w) (((j - 9 * w) / 3 : Nat) : Int) (((j - 9 * w) % 3 : Nat) : Int) 0 (mL ν w) else wtW ν n num w j
def hdW (ν : Mem) (n num e : Nat) : Prop := ∀ x y z : Nat, x < n → y < n → z < n → vT ν n ((num % n : Nat) : Int) (tbW n num) (wtW ν n num (ν 0 0).toNat) x y z (sL ν e 0) = vT ν n ((num % n : Nat) : Int) (tbW n num) (wtW ν n num (ν 0 0).toNat) x y z (sL ν e 1)
def gdW (ν : Mem) (n num : Nat) : Prop := ∀ e : Nat, (e : Int) < ν 0 5 → ν 7 e = 0 → hdW ν n num e
/-! THE RELATION between the class's memory μ and the reference's memory ν -/
def RelT (μ ν : Mem) : Prop := μ 151 8 = ν 0 25 ∧ 0 ≤ ν 0 25 ∧ ν 0 25 ≤ 240 ∧ μ 151 9 = ν 0 30 ∧ ∀ i : Nat, (i : Int) < ν 0 25 → 0 ≤ ν 18 i ∧ ν 18 i ≤ 255 ∧ μ 152 i = wrB (ν 18 i)
def RelH (μ ν : Mem) : Prop := μ 0 9 = ν 0 21 ∧ μ 0 10 = ν 0 22 ∧ 0 ≤ ν 0 22 ∧ ν 0 22 ≤ 999
/-- a word of the reference is as it must be -/
def okW (ν : Mem) (w : Nat) : Prop := 0 ≤ ν 1 w ∧ ν 1 w ≤ 3 ∧ (ν 2 w = 1 ∨ ν 2 w = 2) ∧ 1 ≤ ν 3 w ∧ ν 3 w ≤ 20 ∧ LT (mL ν w) ∧ isT (ar ν) 1 (mL ν w) ∧ ∀ x ∈ mL ν w, x = 12 ∨ x = 14 ∨ (23 ≤ x ∧ x < 23 + ν 2 w) ∨ ∃ v, v < w ∧ ν 1 v = x
def RelW (μ ν : Mem) : Prop := 0 ≤ ν 0 0 ∧ ν 0 0 ≤ 4 ∧ ν 0 23 = ν 0 0 ∧ μ 1 5 = ν 0 0 ∧
  (∀ w : Nat, (w : Int) < ν 0 0 → okW ν w ∧ μ 2 w = ν 1 w ∧ μ 3 w = ν 2 w ∧ TH μ (9 + 4 * w) (mL ν w) ∧ TH μ (7 + 4 * w) (fcL ν w)) ∧
  (∀ v w : Nat, (v : Int) < ν 0 0 → (w : Int) < ν 0 0 → ν 1 v = ν 1 w → v = w) ∧ ∀ k : Nat, k < 4 → μ 4 k = wb ν k
/-- a saying's sides -/
def okS (ν : Mem) (e k : Nat) : Prop := 1 ≤ ν 6 (2 * e + k) ∧ ν 6 (2 * e + k) ≤ 20 ∧ LT (sL ν e k) ∧ isT (ar ν) 1 (sL ν e k)
def RelS (μ ν : Mem) : Prop := 0 ≤ ν 0 5 ∧ ν 0 5 ≤ 24 ∧ μ 23 9 = ν 0 5 ∧ 0 ≤ ν 0 16 ∧ ν 0 16 ≤ 200 ∧ μ 23 10 = ν 0 16 ∧ (0 ≤ ν 0 15 ∧ ν 0 15 ≤ μ 23 7) ∧ μ 23 8 = ν 0 15 ∧
  ∀ e : Nat, (e : Int) < ν 0 5 → okS ν e 0 ∧ okS ν e 1 ∧ TH μ (32 + 5 * e) (sL ν e 0) ∧ TH μ (34 + 5 * e) (sL ν e 1) ∧
    μ (31 + 5 * e) 2 = ν 7 e ∧ 0 ≤ ν 7 e ∧ ν 7 e ≤ 3 ∧ μ (31 + 5 * e) 3 = ν 8 e ∧ μ (31 + 5 * e) 4 = ν 9 e ∧
    (ν 7 e < 2 → ν 10 e = -4 ∧ μ (31 + 5 * e) 6 = -4 ∧ ν 11 e = 0) ∧
    (2 ≤ ν 7 e → 0 ≤ ν 10 e ∧ 0 ≤ ν 11 e ∧ ν 11 e ≤ 20 ∧ ν 10 e + ν 11 e ≤ ν 0 16 ∧ μ (31 + 5 * e) 5 = ν 10 e ∧ μ (31 + 5 * e) 6 = ν 11 e) ∧
    (ν 7 e = 3 → μ (31 + 5 * e) 7 = ν 12 e) ∧ (ν 7 e = 2 → μ (31 + 5 * e) 8 = ν 13 e)
/-- the STEPS that are told -/
def RelP (μ ν : Mem) : Prop := ∀ i : Nat, (i : Int) < ν 0 16 → μ 25 i = ν 14 i ∧ μ 26 i = ν 15 i ∧ μ 27 i = ν 16 i ∧ 0 ≤ ν 14 i ∧ ν 14 i ≤ 3 ∧ 0 ≤ ν 16 i ∧ ν 16 i < 20 ∧ (ν 14 i ≤ 1 → 0 ≤ ν 15 i ∧ ν 15 i < ν 0 5)
/-- THE PROOF in hand -/
def RelI (μ ν : Mem) : Prop := (ν 0 45 = -4 ∧ μ 163 7 = -4 ∧ μ 163 8 = 0) ∨
  (0 ≤ ν 0 45 ∧ ν 0 45 < ν 0 5 ∧ (ν 7 (ν 0 45).toNat = 1 ∨ ν 7 (ν 0 45).toNat = 3) ∧ μ 163 7 = ν 0 45 ∧ μ 163 8 = ν 0 46 ∧ 0 ≤ ν 0 46 ∧ ν 0 46 ≤ 20 ∧
    ∃ Ts : Nat → List Int, Ts 0 = sL ν (ν 0 45).toNat 0 ∧ (∀ i : Nat, (i : Int) ≤ ν 0 46 → TH μ (169 + 2 * i) (Ts i)) ∧
      ∀ i : Nat, (i : Int) < ν 0 46 → stp ν (ν 26 i) (ν 27 i) (ν 28 i) (Ts i) = .inr (Ts (i + 1)) ∧ μ 164 i = ν 26 i ∧ μ 165 i = ν 27 i ∧ μ 166 i = ν 28 i ∧ μ 167 i = ptw ν (ν 26 i) (ν 27 i) (ν 28 i) (Ts i) ∧ 0 ≤ ν 26 i ∧ ν 26 i ≤ 3 ∧ (ν 26 i = 2 → ν 27 i = -4))
/-- what each was on a day -/
def asC (μ : Mem) (e : Nat) (d st : Int) : Nat → Int
  | 0 => if st = 0 then 0 else 1
  | n + 1 => if μ 29 n = (e : Int) ∧ μ 28 n ≤ d then μ 30 n else asC μ e d st n
def asR (ν : Mem) (e : Nat) : Nat → Int
  | 0 => if ν 17 (1000 * e) = 0 then -4 else ν 17 (1000 * e) - 1
  | d + 1 => if ν 17 (1000 * e + (d + 1)) = 0 then asR ν e d else ν 17 (1000 * e + (d + 1)) - 1
def cnt (P : Nat → Bool) : Nat → Nat
  | 0 => 0
  | n + 1 => cnt P n + (if P n then 1 else 0)
def RelD (μ ν : Mem) : Prop := 0 ≤ μ 23 7 ∧
  (μ 23 7 + (cnt (fun e => decide (ν 7 e = 2 ∧ ν 11 e ≠ 0)) (ν 0 5).toNat : Int) ≤ 2 * ν 0 16 + (cnt (fun e => decide (ν 7 e = 2 ∧ ν 11 e = 0)) (ν 0 5).toNat : Int)) ∧
  (∀ i : Nat, (i : Int) < μ 23 7 → 0 ≤ μ 28 i ∧ μ 28 i ≤ ν 0 22 ∧ 0 ≤ μ 29 i ∧ μ 29 i < ν 0 5) ∧
  (∀ e d : Nat, e < 24 → d < 1000 → (0 ≤ ν 17 (1000 * e + d) ∧ ν 17 (1000 * e + d) ≤ 4) ∧ ((ν 0 5 ≤ (e : Int) ∨ ν 0 22 < (d : Int)) → ν 17 (1000 * e + d) = 0)) ∧
  ∀ e : Nat, (e : Int) < ν 0 5 → 0 ≤ ν 9 e ∧ ν 9 e ≤ ν 0 22 ∧ ∀ d : Nat, d < 1000 → (if (d : Int) < ν 9 e then -4 else asC μ e d (ν 7 e) (μ 23 7).toNat) = asR ν e d
/-- bits -/
def tb (m : Int) (k : Nat) : Bool := (q32 m).toBitVec.getLsbD k
/-- e USES f (BACK, too) -/
def USE (ν : Mem) (e f : Nat) : Prop := (e : Int) < ν 0 5 ∧ ν 7 e = 2 ∧ ∃ i : Nat, (i : Int) < ν 11 e ∧ ν 14 ((ν 10 e).toNat + i) ≤ 1 ∧ ν 15 ((ν 10 e).toNat + i) = (f : Int)
/-- the words that n STEPS put in or out -/
def ptsS (ν : Mem) (k w p : Nat → Int) (v : Int) : Nat → Nat → List Int → Prop
  | _, 0, _ => False
  | i, n + 1, T => ptw ν (k i) (w i) (p i) T = v ∨ match stp ν (k i) (w i) (p i) T with
    | .inl _ => False
    | .inr T' => ptsS ν k w p v (i + 1) n T'
/-- those that are SHOWN: their PROOFS go, and what they lean on, and which words they put in or out -/
def RelL (μ ν : Mem) : Prop := ∀ e : Nat, (e : Int) < ν 0 5 → ν 7 e = 2 →
  rnS ν (ν 14) (ν 15) (ν 16) (ν 10 e).toNat (ν 11 e).toNat (sL ν e 0) = some (sL ν e 1) ∧
  0 ≤ ν 13 e ∧ ν 13 e < ν 0 15 ∧ (∀ f : Nat, (f : Int) < ν 0 5 → ν 7 f = 2 → ν 13 f = ν 13 e → f = e) ∧
  (∀ f : Nat, USE ν e f → ν 7 f = 0 ∨ (ν 7 f = 2 ∧ ν 13 f < ν 13 e)) ∧
  (0 ≤ μ (31 + 5 * e) 9 ∧ μ (31 + 5 * e) 9 < 16777216 ∧ ∀ f : Nat, f < 24 → (tb (μ (31 + 5 * e) 9) f = true ↔ Relation.TransGen (USE ν) e f)) ∧
  (0 ≤ μ (31 + 5 * e) 10 ∧ μ (31 + 5 * e) 10 < 16 ∧ ∀ w : Nat, w < 4 → (tb (μ (31 + 5 * e) 10) w = true ↔ ptsS ν (ν 14) (ν 15) (ν 16) w (ν 10 e).toNat (ν 11 e).toNat (sL ν e 0)))
def RelG (_ ν : Mem) : Prop := ν 0 68 = 0 ∨ (ν 0 68 = 1 ∧ (ν 42 0 = 1 ∨ ν 42 0 = 0) ∧ (ν 42 0 = 1 ↔ gdW ν 1 0) ∧ ∀ k : Nat, k < 32 → (ν 43 k = 1 ∨ ν 43 k = 0) ∧ (ν 43 k = 1 ↔ gdW ν 2 k))
def RelC (μ ν : Mem) : Prop := ∀ k : Nat, k < 4 → (μ 803 k = -4 ∧ ν 51 k = -4) ∨
  (μ 803 k = ν 52 k ∧ 0 ≤ ν 52 k ∧ ν 52 k ≤ 90 ∧ μ 802 k = ν 51 k ∧ 0 ≤ ν 51 k ∧ ν 51 k ≤ 2 ∧ ∀ i : Nat, (i : Int) < ν 52 k → μ (798 + k) i = ν 53 (90 * k + i))
def Rel (μ ν : Mem) : Prop := RelT μ ν ∧ RelH μ ν ∧ RelW μ ν ∧ RelS μ ν ∧ RelP μ ν ∧ RelI μ ν ∧ RelD μ ν ∧ RelL μ ν ∧ RelG μ ν ∧ RelC μ ν
