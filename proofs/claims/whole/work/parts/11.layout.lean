/-! THE LAYOUTS of the class and of the reference: kinds, lengths, references, cell by cell in the order of making -/
def tgC (c : Nat) : Nat :=
  bif Nat.blt c 7 then ([11, 9, 20, 20, 20, 27, 28] : List Nat).getD (c) 99
  else bif Nat.blt c 23 then ([8, 21, 8, 21] : List Nat).getD ((c - 7) % 4) 99
  else bif Nat.blt c 31 then ([3, 25, 20, 20, 20, 22, 21, 21] : List Nat).getD (c - 23) 99
  else bif Nat.blt c 151 then ([2, 8, 21, 8, 21] : List Nat).getD ((c - 31) % 5) 99
  else bif Nat.blt c 163 then ([7, 21, 8, 21, 8, 21, 6, 8, 21, 20, 20, 20] : List Nat).getD (c - 151) 99
  else bif Nat.blt c 169 then ([1, 20, 20, 20, 20, 24] : List Nat).getD (c - 163) 99
  else bif Nat.blt c 211 then ([8, 21] : List Nat).getD ((c - 169) % 2) 99
  else bif Nat.blt c 217 then ([1, 20, 20, 20, 20, 24] : List Nat).getD (c - 211) 99
  else bif Nat.blt c 259 then ([8, 21] : List Nat).getD ((c - 217) % 2) 99
  else bif Nat.blt c 271 then ([4, 29, 20, 20, 20, 20, 20, 20, 20, 20, 8, 21] : List Nat).getD (c - 259) 99
  else bif Nat.blt c 771 then ([8, 21] : List Nat).getD ((c - 271) % 2) 99
  else bif Nat.blt c 780 then ([10, 20, 26, 20, 20, 20, 20, 20, 20] : List Nat).getD (c - 771) 99
  else bif Nat.blt c 796 then ([0, 8, 21, 8, 21, 8, 21, 8, 21, 8, 21, 8, 21, 8, 21, 20] : List Nat).getD (c - 780) 99
  else bif Nat.blt c 804 then ([5, 26, 20, 20, 20, 20, 20, 20] : List Nat).getD (c - 796) 99
  else 99
def lnC (c : Nat) : Nat :=
  bif Nat.blt c 7 then ([0, 0, 4, 4, 4, 4, 4] : List Nat).getD (c) 0
  else bif Nat.blt c 23 then ([0, 3, 0, 20] : List Nat).getD ((c - 7) % 4) 0
  else bif Nat.blt c 31 then ([0, 24, 200, 200, 200, 424, 424, 424] : List Nat).getD (c - 23) 0
  else bif Nat.blt c 151 then ([0, 0, 20, 0, 20] : List Nat).getD ((c - 31) % 5) 0
  else bif Nat.blt c 163 then ([0, 240, 0, 20, 0, 20, 0, 0, 0, 20, 3, 3] : List Nat).getD (c - 151) 0
  else bif Nat.blt c 169 then ([0, 20, 20, 20, 20, 21] : List Nat).getD (c - 163) 0
  else bif Nat.blt c 211 then ([0, 20] : List Nat).getD ((c - 169) % 2) 0
  else bif Nat.blt c 217 then ([0, 20, 20, 20, 20, 21] : List Nat).getD (c - 211) 0
  else bif Nat.blt c 259 then ([0, 20] : List Nat).getD ((c - 217) % 2) 0
  else bif Nat.blt c 271 then ([0, 250, 250, 250, 250, 250, 250, 256, 250, 20, 0, 20] : List Nat).getD (c - 259) 0
  else bif Nat.blt c 771 then ([0, 20] : List Nat).getD ((c - 271) % 2) 0
  else bif Nat.blt c 780 then ([0, 9, 4, 9, 9, 9, 9, 3, 20] : List Nat).getD (c - 771) 0
  else bif Nat.blt c 796 then ([0, 0, 200, 0, 200, 0, 200, 0, 200, 0, 200, 0, 200, 0, 200, 200] : List Nat).getD (c - 780) 0
  else bif Nat.blt c 804 then ([0, 4, 90, 90, 90, 90, 4, 4] : List Nat).getD (c - 796) 0
  else 0
def rfC (c k : Nat) : Option (Option Nat) := match tgC c with
  | 0 => match k with
    | 0 => some (some (1))
    | 1 => some (some (23))
    | 2 => some (some (781))
    | 3 => some (some (783))
    | 4 => some (some (785))
    | 5 => some (some (787))
    | 6 => some (some (789))
    | 7 => some (some (791))
    | 8 => some (some (793))
    | 9 => some (some (795))
    | _ => none
  | 1 => match k with
    | 0 => some (some (157))
    | 1 => some (some (23))
    | 2 => some (some (c + 1))
    | 3 => some (some (c + 2))
    | 4 => some (some (c + 3))
    | 5 => some (some (c + 4))
    | 6 => some (some (c + 5))
    | _ => none
  | 2 => match k with
    | 0 => some (some (c + 1))
    | 1 => some (some (c + 3))
    | _ => none
  | 3 => match k with
    | 0 => some (some (24))
    | 1 => some (some (25))
    | 2 => some (some (26))
    | 3 => some (some (27))
    | 4 => some (some (28))
    | 5 => some (some (29))
    | 6 => some (some (30))
    | _ => none
  | 4 => match k with
    | 0 => some (some (1))
    | 1 => some (some (23))
    | 2 => some (some (157))
    | 3 => some (some (260))
    | 4 => some (some (261))
    | 5 => some (some (262))
    | 6 => some (some (263))
    | 7 => some (some (264))
    | 8 => some (some (265))
    | 9 => some (some (266))
    | 10 => some (some (267))
    | 11 => some (some (268))
    | 12 => some (some (269))
    | _ => none
  | 5 => match k with
    | 0 => some (some (797))
    | 1 => some (some (802))
    | 2 => some (some (803))
    | _ => none
  | 6 => match k with
    | 0 => some (some (1))
    | 1 => some (some (23))
    | 2 => some none
    | 3 => some (some (160))
    | 4 => some (some (161))
    | 5 => some (some (162))
    | _ => none
  | 7 => match k with
    | 0 => some (some (1))
    | 1 => some (some (23))
    | 2 => some (some (152))
    | 3 => some (some (153))
    | 4 => some (some (155))
    | _ => none
  | 8 => match k with
    | 0 => some (some (c + 1))
    | _ => none
  | 9 => match k with
    | 0 => some (some (2))
    | 1 => some (some (3))
    | 2 => some (some (4))
    | 3 => some (some (5))
    | 4 => some (some (6))
    | _ => none
  | 10 => match k with
    | 0 => some (some (1))
    | 1 => some (some (23))
    | 2 => some (some (772))
    | 3 => some (some (773))
    | 4 => some (some (778))
    | 5 => some (some (779))
    | _ => none
  | 11 => match k with
    | 0 => some (some (1))
    | 1 => some (some (23))
    | 2 => some (some (151))
    | 3 => some (some (163))
    | 4 => some (some (211))
    | 5 => some (some (259))
    | 6 => some (some (771))
    | 7 => some (some (780))
    | 8 => some (some (796))
    | _ => none
  | 24 => some (some (c + 1 + 2 * k))
  | 25 => some (some (31 + 5 * k))
  | 26 => some (some (c + 1 + k))
  | 27 => some (some (7 + 4 * k))
  | 28 => some (some (9 + 4 * k))
  | 29 => some (some (271 + 2 * k))
  | _ => none
def loC : Lo := (804, tgC, lnC, rfC)
def tgR (c : Nat) : Nat := (12 :: [20, 20, 20, 20, 20, 20, 20, 20, 20, 20, 20, 20, 20, 20, 20, 20, 20, 20, 20, 20, 20, 20, 20, 20, 20, 20, 20, 20, 23, 20, 20, 20, 20, 20, 20, 20, 20, 20, 20, 20, 20, 23, 23, 20, 20, 20, 20, 20, 20, 20, 20, 20, 20] : List Nat).getD c 99
def lnR (c : Nat) : Nat := (0 :: [4, 4, 4, 80, 960, 48, 24, 24, 24, 24, 24, 24, 24, 200, 200, 200, 24000, 240, 20, 20, 20, 3, 3, 20, 20, 20, 20, 20, 24, 5000, 250, 250, 250, 250, 250, 250, 250, 4096, 9, 36, 20, 1, 32, 800, 4, 200, 200, 200, 200, 400, 4, 4, 360] : List Nat).getD c 0
def rfR (c k : Nat) : Option (Option Nat) := match tgR c with
  | 12 => match k with
    | 1 => some (some (1))
    | 2 => some (some (2))
    | 3 => some (some (3))
    | 4 => some (some (4))
    | 6 => some (some (5))
    | 7 => some (some (6))
    | 8 => some (some (7))
    | 9 => some (some (8))
    | 10 => some (some (9))
    | 11 => some (some (10))
    | 12 => some (some (11))
    | 13 => some (some (12))
    | 14 => some (some (13))
    | 17 => some (some (14))
    | 18 => some (some (15))
    | 19 => some (some (16))
    | 20 => some (some (17))
    | 24 => some (some (18))
    | 32 => some (some (19))
    | 35 => some (some (20))
    | 37 => some (some (21))
    | 39 => some (some (22))
    | 40 => some (some (23))
    | 41 => some (some (24))
    | 43 => some (some (25))
    | 47 => some (some (26))
    | 48 => some (some (27))
    | 49 => some (some (28))
    | 50 => some (some (29))
    | 51 => some (some (30))
    | 52 => some (some (31))
    | 53 => some (some (32))
    | 54 => some (some (33))
    | 55 => some (some (34))
    | 56 => some (some (35))
    | 57 => some (some (36))
    | 58 => some (some (37))
    | 59 => some (some (38))
    | 65 => some (some (39))
    | 66 => some (some (40))
    | 67 => some (some (41))
    | 69 => some (some (42))
    | 70 => some (some (43))
    | 71 => some (some (44))
    | 72 => some (some (45))
    | 73 => some (some (46))
    | 75 => some (some (47))
    | 77 => some (some (48))
    | 78 => some (some (49))
    | 79 => some (some (50))
    | 80 => some (some (51))
    | 81 => some (some (52))
    | 82 => some (some (53))
    | _ => none
  | _ => none
def loR : Lo := (54, tgR, lnR, rfR)
theorem p32 {x : Int} (h : (decide (-2147483648 ≤ x) && decide (x ≤ 2147483647)) = true) : in32 x := by
  rw [Bool.and_eq_true] at h
  exact ⟨of_decide_eq_true h.1, of_decide_eq_true h.2⟩
theorem p64 {x : Int} (h : (decide (-9223372036854775808 ≤ x) && decide (x ≤ 9223372036854775807)) = true) : in64 x := by
  rw [Bool.and_eq_true] at h
  exact ⟨of_decide_eq_true h.1, of_decide_eq_true h.2⟩
theorem mg (i : Nat) {w : Cond} (h : lw_tbl[i]? = some w) (hg : goodWord w = true) : w ∈ gtb := List.mem_filter.mpr ⟨List.mem_of_getElem? h, hg⟩
def lkp (t : List (Nat × Ins)) (pc : Nat) : Option Ins := match t with
  | [] => none
  | e :: t => bif Nat.beq e.1 pc then some e.2 else lkp t pc
theorem fa1 {α : Type} {P : α → Prop} {a : α} {l : List α} (h : P a) (h2 : ∀ e ∈ l, P e) : ∀ e ∈ a :: l, P e := List.forall_mem_cons.mpr ⟨h, h2⟩
theorem fa0 {α : Type} {P : α → Prop} : ∀ e ∈ ([] : List α), P e := fun _ h => by cases h
theorem lkp_mem : ∀ {t : List (Nat × Ins)} {pc : Nat} {i : Ins}, lkp t pc = some i → (pc, i) ∈ t
  | [], _, _, h => by cases h
  | e :: t, pc, i, h => by
    unfold lkp at h
    cases hb : Nat.beq e.1 pc with
    | true =>
      rw [hb] at h
      have h2 : e.2 = i := Option.some.inj h
      have h3 := Nat.eq_of_beq_eq_true hb
      rw [← h2, ← h3]
      exact List.mem_cons_self
    | false =>
      rw [hb] at h
      exact List.mem_cons_of_mem _ (lkp_mem h)
theorem lkp_tri {t : List (Nat × Ins)} (h : ∀ e ∈ t, Tri e.2) : TriC (lkp t) := fun _ _ h2 => h _ (lkp_mem h2)
theorem lkp_snd {L : Lo} {G : Wp} {l : Launch} {own : String} {cc : ByteArray} {nL : Nat} {ret : Option FieldType} {R : Room} {t : List (Nat × Ins)} (h : ∀ e ∈ t, Snd L G l own cc nL ret R e.1 e.2) : ∀ pc i, lkp t pc = some i → Snd L G l own cc nL ret R pc i := fun _ _ h2 => h _ (lkp_mem h2)
theorem all5 {a b c d e : Cond} (h1 : a ∈ gtb) (h2 : b ∈ gtb) (h3 : c ∈ gtb) (h4 : d ∈ gtb) (h5 : e ∈ gtb) : ∀ w ∈ ([a, b, c, d] : List Cond) ++ [e], w ∈ gtb := fa1 h1 (fa1 h2 (fa1 h3 (fa1 h4 (fa1 h5 fa0))))
theorem all4 {a b c e : Cond} (h1 : a ∈ gtb) (h2 : b ∈ gtb) (h3 : c ∈ gtb) (h5 : e ∈ gtb) : ∀ w ∈ ([a, b, c] : List Cond) ++ [e], w ∈ gtb := fa1 h1 (fa1 h2 (fa1 h3 (fa1 h5 fa0)))
