/-! THE WORDS that both sides are told in: rows of a memory, arities, TERMS, STEPS (ν is the reference's memory) -/
def sg (ν : Mem) (c o n : Nat) : List Int := (List.range n).map (fun i => ν c (o + i))
theorem sg_len (ν : Mem) (c o n : Nat) : (sg ν c o n).length = n := by simp [sg]
theorem sg_get {ν : Mem} {c o n i : Nat} (h : i < n) : (sg ν c o n)[i]? = some (ν c (o + i)) := by simp [sg, h]
theorem sg_getE {ν : Mem} {c o n i : Nat} (h : i < (sg ν c o n).length) : (sg ν c o n)[i] = ν c (o + i) := by simp [sg]
theorem sg_congr {ν ν' : Mem} {c o n : Nat} (h : ν' c = ν c) : sg ν' c o n = sg ν c o n := by unfold sg; rw [h]
/-- the last one of the first n words whose letter is x, or -4 -/
def wbF (f : Nat → Int) (x : Int) : Nat → Int
  | 0 => -4
  | n + 1 => if f n = x then (n : Int) else wbF f x n
def wb (ν : Mem) (x : Int) : Int := wbF (ν 1) x (ν 0 23).toNat
/-- how many TERMS stand behind a sign; -4: no sign -/
def ar (ν : Mem) (x : Int) : Int := if 23 ≤ x ∨ x = 14 then 0 else if x = 12 then 2 else if wb ν x = -4 then -4 else ν 2 (wb ν x).toNat
/-- a row is just n TERMS -/
def isT (a : Int → Int) : Nat → List Int → Prop
  | 0, [] => True
  | 0, _ :: _ => False
  | _ + 1, [] => False
  | n + 1, x :: xs => 0 ≤ a x ∧ isT a (n + (a x).toNat) xs
/-- how many signs the first n TERMS of a row have -/
def tl (a : Int → Int) : Nat → List Int → Nat
  | 0, _ => 0
  | _ + 1, [] => 0
  | n + 1, x :: xs => 1 + tl a (n + (a x).toNat) xs
/-- the MEANING of word w, the sides of saying e -/
def mL (ν : Mem) (w : Nat) : List Int := sg ν 4 (20 * w) (ν 3 w).toNat
def sL (ν : Mem) (e k : Nat) : List Int := sg ν 5 (40 * e + 20 * k) (ν 6 (2 * e + k)).toNat
/-- a word's sign with x (and y) -/
def fcL (ν : Mem) (w : Nat) : List Int := if ν 2 w = 1 then [ν 1 w, 23] else [ν 1 w, 23, 24]
/-- a row FITS a pattern: what the names stand for -/
def bnd (σ : Nat → Option (List Int)) (k : Nat) (u : List Int) : Nat → Option (List Int) := fun j => if j = k then some u else σ j
def fit (a : Int → Int) : List Int → List Int → (Nat → Option (List Int)) → Option (Nat → Option (List Int))
  | [], [], σ => some σ
  | [], _ :: _, _ => none
  | _ :: _, [], _ => none
  | p :: ps, x :: s, σ => if 23 ≤ p then
      (match σ (p - 23).toNat with
      | none => fit a ps ((x :: s).drop (tl a 1 (x :: s))) (bnd σ (p - 23).toNat ((x :: s).take (tl a 1 (x :: s))))
      | some u => if u = (x :: s).take (tl a 1 (x :: s)) then fit a ps ((x :: s).drop (tl a 1 (x :: s))) σ else none)
    else if x = p then fit a ps s σ else none
/-- what the names stand for is put in; none: a name stands for nothing -/
def sbs (σ : Nat → Option (List Int)) : List Int → Option (List Int)
  | [] => some []
  | p :: ps => if 23 ≤ p then
      (match σ (p - 23).toNat with
      | none => none
      | some u => (sbs σ ps).map (u ++ ·))
    else (sbs σ ps).map (p :: ·)
/-- a STEP of a TERM: why it does not go, or the TERM then -/
def goP (ν : Mem) (pat ins T : List Int) (P : Nat) : Int ⊕ List Int :=
  match fit (ar ν) pat ((T.drop P).take (tl (ar ν) 1 (T.drop P))) (fun _ => none) with
  | none => .inl (-22)
  | some σ => match sbs σ ins with
    | none => .inl (-23)
    | some u => if 20 < P + u.length + (T.length - (P + tl (ar ν) 1 (T.drop P))) then .inl (-24) else .inr (T.take P ++ u ++ T.drop (P + tl (ar ν) 1 (T.drop P)))
def stp (ν : Mem) (kind which place : Int) (T : List Int) : Int ⊕ List Int :=
  if place < 0 ∨ (T.length : Int) ≤ place then .inl (-20) else
  if kind ≤ 1 then
    (if which < 0 ∨ ν 0 5 ≤ which ∨ ¬ (ν 7 which.toNat = 0 ∨ ν 7 which.toNat = 2) then .inl (-21)
    else if kind = 0 then goP ν (sL ν which.toNat 0) (sL ν which.toNat 1) T place.toNat else goP ν (sL ν which.toNat 1) (sL ν which.toNat 0) T place.toNat)
  else if kind = 2 then
    (if wb ν (atL T place) = -4 then .inl (-21) else goP ν (fcL ν (wb ν (atL T place)).toNat) (mL ν (wb ν (atL T place)).toNat) T place.toNat)
  else (if which < 0 ∨ ν 0 0 ≤ which then .inl (-21) else goP ν (mL ν which.toNat) (fcL ν which.toNat) T place.toNat)
/-- which word a STEP puts in or out, or -4 -/
def ptw (ν : Mem) (kind which place : Int) (T : List Int) : Int := if kind = 2 then wb ν (atL T place) else if kind = 3 then which else -4
/-- n STEPS, told by three rows of numbers from a place on -/
def rnS (ν : Mem) (k w p : Nat → Int) : Nat → Nat → List Int → Option (List Int)
  | _, 0, T => some T
  | i, n + 1, T => match stp ν (k i) (w i) (p i) T with
    | .inl _ => none
    | .inr T' => rnS ν k w p (i + 1) n T'
