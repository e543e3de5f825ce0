/-! the constructors: code tables and contracts (printed by wip/whole/geninit.py) -/
def lkpK (t : List (Nat × KI)) (pc : Nat) : Option KI := match t with
  | [] => none
  | e :: t => bif Nat.beq e.1 pc then some e.2 else lkpK t pc
theorem lkpK_mem : ∀ {t : List (Nat × KI)} {pc : Nat} {i : KI}, lkpK t pc = some i → (pc, i) ∈ t
  | [], _, _, h => by cases h
  | e :: t, pc, i, h => by
    unfold lkpK at h
    cases hb : Nat.beq e.1 pc with
    | true =>
      rw [hb] at h
      have h2 : e.2 = i := Option.some.inj h
      have h3 := Nat.eq_of_beq_eq_true hb
      rw [← h2, ← h3]
      exact List.mem_cons_self
    | false =>
      rw [hb] at h
      exact List.mem_cons_of_mem _ (lkpK_mem h)
def dZt (vals : List AV) : Nat := match vals with
  | [_, .inl n] => n.toNat
  | _ => 0
def k_X8_init (N Z : Nat) : List (Nat × KI) := [
  (0, k_aload 1 0),
  (1, k_obj 4),
  (4, k_aload 5 0),
  (5, k_iload 6 1),
  (6, k_push 7 (.inl 0)),
  (7, k_max 10 N Z),
  (10, k_newa 12 21 N Z),
  (12, k_put 15 8 0 isR),
  (15, k_aload 16 0),
  (16, k_push 17 (.inl 0)),
  (17, k_put 20 8 1 isI),
  (20, k_ret N Z)]
def f_X8_init : List AV → KS → Option KS := denK 2 (fun N Z => lkpK (k_X8_init N Z)) 1 dZt 30
set_option maxRecDepth 100000 in
set_option maxHeartbeats 4000000 in
theorem ks_X8_init (G : Wp) (l : Launch) (n0 z0 N Z : Nat) : ∀ e ∈ k_X8_init N Z, SdK G l RX8 cX8_init 2 1 21 n0 z0 N Z e.1 e.2 :=
  fa1 (ks_aload_n (pc := 0) (kf := 0) (j := 0) (by decide +kernel) rfl) <|
  fa1 (ks_obj (pc := 1) (idx := 3) (by decide +kernel) w_135 w_121 w_122 (by decide) (by decide)) <|
  fa1 (ks_aload_n (pc := 4) (kf := 0) (j := 0) (by decide +kernel) rfl) <|
  fa1 (ks_iload_n (pc := 5) (kf := 1) (j := 1) (by decide +kernel) rfl) <|
  fa1 (ks_iconst (pc := 6) (n := 0) (v := 0) (by decide +kernel) (by decide +kernel) (p32 rfl)) <|
  fa1 (ks_max (pc := 7) (idx := 9) (by decide +kernel) w_136 w_137 w_103 w_138 (by decide) (by decide)) <|
  fa1 (ks_newa (pc := 10) (atype := .byte) (t := 21) (by decide +kernel) (by decide) w_154 rfl rfl (by decide) (fun _ _ h => h)) <|
  fa1 (ks_put (pc := 12) (ty := tyX8 0) (ci := 8) (f := 0) (idx := 15) (C := RX8) (T := TX8) (NF := 2) (by decide +kernel) rfl (by decide) inG_X8 (by decide) w_139 tyX8 tyX8_ok nmX8 rfl (tyX8_ok 0 (by decide)) fR_arr) <|
  fa1 (ks_aload_n (pc := 15) (kf := 0) (j := 0) (by decide +kernel) rfl) <|
  fa1 (ks_iconst (pc := 16) (n := 0) (v := 0) (by decide +kernel) (by decide +kernel) (p32 rfl)) <|
  fa1 (ks_put (pc := 17) (ty := tyX8 1) (ci := 8) (f := 1) (idx := 21) (C := RX8) (T := TX8) (NF := 2) (by decide +kernel) rfl (by decide) inG_X8 (by decide) w_140 tyX8 tyX8_ok nmX8 rfl (tyX8_ok 1 (by decide)) fI_int) <|
  fa1 (ks_ret (pc := 20) (by decide +kernel)) <| fa0
theorem gg_X8_init {G : Wp} {l : Launch} : KGood G l yX8_init cX8_init 2 1 21 f_X8_init := metK_of (fun n0 z0 N Z _ _ h => ks_X8_init G l n0 z0 N Z _ (lkpK_mem h)) (by decide +kernel) rfl rfl
def k_X2_init (N Z : Nat) : List (Nat × KI) := [
  (0, k_aload 1 0),
  (1, k_obj 4),
  (4, k_aload 5 0),
  (5, k_new 8 8 2 [vN, vI 0] N Z),
  (8, k_dup 9),
  (9, k_push 11 (.inl 20)),
  (11, k_call 14 2 8 f_X8_init N Z),
  (14, k_put 17 2 0 isR),
  (17, k_aload 18 0),
  (18, k_new 21 8 2 [vN, vI 0] N Z),
  (21, k_dup 22),
  (22, k_push 24 (.inl 20)),
  (24, k_call 27 2 8 f_X8_init N Z),
  (27, k_put 30 2 1 isR),
  (30, k_ret N Z)]
def f_X2_init : List AV → KS → Option KS := denK 1 (fun N Z => lkpK (k_X2_init N Z)) 4 (fun _ => 44) 25
set_option maxRecDepth 100000 in
set_option maxHeartbeats 4000000 in
theorem ks_X2_init (G : Wp) (l : Launch) (n0 z0 N Z : Nat) : ∀ e ∈ k_X2_init N Z, SdK G l RX2 cX2_init 1 2 42 n0 z0 N Z e.1 e.2 :=
  fa1 (ks_aload_n (pc := 0) (kf := 0) (j := 0) (by decide +kernel) rfl) <|
  fa1 (ks_obj (pc := 1) (idx := 3) (by decide +kernel) w_190 w_121 w_122 (by decide) (by decide)) <|
  fa1 (ks_aload_n (pc := 4) (kf := 0) (j := 0) (by decide +kernel) rfl) <|
  fa1 (ks_new (pc := 5) (ci := 8) (idx := 9) (C := RX8) (T := TX8) (NF := 2) (by decide +kernel) rfl inG_X8 tyX8 tyX8_ok (by decide +kernel) w_191 w_131 w_102 rfl (by decide)) <|
  fa1 (ks_dup (pc := 8) (by decide +kernel)) <|
  fa1 (ks_bipush (pc := 9) (n := 20) (v := 20) (by decide +kernel) (by decide +kernel) (p32 rfl)) <|
  fa1 (ks_call (pc := 11) (n := 1) (ci := 8) (idx := 11) (y := yX8_init) (by decide +kernel) gg_X8_init (fun _ _ h _ => Or.inl (h _ w_192)) (by decide +kernel) rfl w_133 w_102 w_134 ⟨by decide, by decide⟩) <|
  fa1 (ks_put (pc := 14) (ty := tyX2 0) (ci := 2) (f := 0) (idx := 14) (C := RX2) (T := TX2) (NF := 11) (by decide +kernel) rfl (by decide) inG_X2 (by decide) w_193 tyX2 tyX2_ok nmX2 rfl (tyX2_ok 0 (by decide)) fR_obj) <|
  fa1 (ks_aload_n (pc := 17) (kf := 0) (j := 0) (by decide +kernel) rfl) <|
  fa1 (ks_new (pc := 18) (ci := 8) (idx := 9) (C := RX8) (T := TX8) (NF := 2) (by decide +kernel) rfl inG_X8 tyX8 tyX8_ok (by decide +kernel) w_191 w_131 w_102 rfl (by decide)) <|
  fa1 (ks_dup (pc := 21) (by decide +kernel)) <|
  fa1 (ks_bipush (pc := 22) (n := 20) (v := 20) (by decide +kernel) (by decide +kernel) (p32 rfl)) <|
  fa1 (ks_call (pc := 24) (n := 1) (ci := 8) (idx := 11) (y := yX8_init) (by decide +kernel) gg_X8_init (fun _ _ h _ => Or.inl (h _ w_192)) (by decide +kernel) rfl w_133 w_102 w_134 ⟨by decide, by decide⟩) <|
  fa1 (ks_put (pc := 27) (ty := tyX2 1) (ci := 2) (f := 1) (idx := 20) (C := RX2) (T := TX2) (NF := 11) (by decide +kernel) rfl (by decide) inG_X2 (by decide) w_201 tyX2 tyX2_ok nmX2 rfl (tyX2_ok 1 (by decide)) fR_obj) <|
  fa1 (ks_ret (pc := 30) (by decide +kernel)) <| fa0
theorem gg_X2_init {G : Wp} {l : Launch} : KGood G l yX2_init cX2_init 1 2 42 f_X2_init := metK_of (fun n0 z0 N Z _ _ h => ks_X2_init G l n0 z0 N Z _ (lkpK_mem h)) (by decide +kernel) rfl rfl
def k_X9_init (N Z : Nat) : List (Nat × KI) := [
  (0, k_aload 1 0),
  (1, k_obj 4),
  (4, k_aload 5 0),
  (5, k_push 6 (.inl 4)),
  (6, k_newa 8 20 N Z),
  (8, k_put 11 9 0 isR),
  (11, k_aload 12 0),
  (12, k_push 13 (.inl 4)),
  (13, k_newa 15 20 N Z),
  (15, k_put 18 9 1 isR),
  (18, k_aload 19 0),
  (19, k_push 20 (.inl 4)),
  (20, k_newa 22 20 N Z),
  (22, k_put 25 9 2 isR),
  (25, k_aload 26 0),
  (26, k_push 27 (.inl 4)),
  (27, k_newa 30 27 N Z),
  (30, k_put 33 9 3 isR),
  (33, k_aload 34 0),
  (34, k_push 35 (.inl 4)),
  (35, k_newa 38 28 N Z),
  (38, k_put 41 9 4 isR),
  (41, k_push 42 (.inl 0)),
  (42, k_istore 43 1),
  (43, k_iload 44 1),
  (44, k_push 45 (.inl 4)),
  (45, k_cmpge 48 91),
  (48, k_aload 49 0),
  (49, k_get 52 9 2),
  (52, k_iload 53 1),
  (53, k_push 55 (.inl (-4))),
  (55, k_iast 56),
  (56, k_aload 57 0),
  (57, k_get 60 9 3),
  (60, k_iload 61 1),
  (61, k_new 64 8 2 [vN, vI 0] N Z),
  (64, k_dup 65),
  (65, k_push 66 (.inl 3)),
  (66, k_call 69 2 8 f_X8_init N Z),
  (69, k_aast 70 27 8),
  (70, k_aload 71 0),
  (71, k_get 74 9 4),
  (74, k_iload 75 1),
  (75, k_new 78 8 2 [vN, vI 0] N Z),
  (78, k_dup 79),
  (79, k_push 81 (.inl 20)),
  (81, k_call 84 2 8 f_X8_init N Z),
  (84, k_aast 85 28 8),
  (85, k_iinc 88 1 (1)),
  (88, k_goto 43),
  (91, k_aload 92 0),
  (92, k_push 93 (.inl 0)),
  (93, k_put 96 9 5 isI),
  (96, k_ret N Z)]
def f_X9_init : List AV → KS → Option KS := denK 2 (fun N Z => lkpK (k_X9_init N Z)) 21 (fun _ => 128) 145
set_option maxRecDepth 100000 in
set_option maxHeartbeats 4000000 in
theorem ks_X9_init (G : Wp) (l : Launch) (n0 z0 N Z : Nat) : ∀ e ∈ k_X9_init N Z, SdK G l RX9 cX9_init 2 2 42 n0 z0 N Z e.1 e.2 :=
  fa1 (ks_aload_n (pc := 0) (kf := 0) (j := 0) (by decide +kernel) rfl) <|
  fa1 (ks_obj (pc := 1) (idx := 3) (by decide +kernel) w_128 w_121 w_122 (by decide) (by decide)) <|
  fa1 (ks_aload_n (pc := 4) (kf := 0) (j := 0) (by decide +kernel) rfl) <|
  fa1 (ks_iconst (pc := 5) (n := 4) (v := 4) (by decide +kernel) (by decide +kernel) (p32 rfl)) <|
  fa1 (ks_newa (pc := 6) (atype := .int) (t := 20) (by decide +kernel) (by decide) w_153 rfl rfl (by decide) (fun _ _ h => h)) <|
  fa1 (ks_put (pc := 8) (ty := tyX9 0) (ci := 9) (f := 0) (idx := 9) (C := RX9) (T := TX9) (NF := 6) (by decide +kernel) rfl (by decide) inG_X9 (by decide) w_155 tyX9 tyX9_ok nmX9 rfl (tyX9_ok 0 (by decide)) fR_arr) <|
  fa1 (ks_aload_n (pc := 11) (kf := 0) (j := 0) (by decide +kernel) rfl) <|
  fa1 (ks_iconst (pc := 12) (n := 4) (v := 4) (by decide +kernel) (by decide +kernel) (p32 rfl)) <|
  fa1 (ks_newa (pc := 13) (atype := .int) (t := 20) (by decide +kernel) (by decide) w_153 rfl rfl (by decide) (fun _ _ h => h)) <|
  fa1 (ks_put (pc := 15) (ty := tyX9 1) (ci := 9) (f := 1) (idx := 15) (C := RX9) (T := TX9) (NF := 6) (by decide +kernel) rfl (by decide) inG_X9 (by decide) w_156 tyX9 tyX9_ok nmX9 rfl (tyX9_ok 1 (by decide)) fR_arr) <|
  fa1 (ks_aload_n (pc := 18) (kf := 0) (j := 0) (by decide +kernel) rfl) <|
  fa1 (ks_iconst (pc := 19) (n := 4) (v := 4) (by decide +kernel) (by decide +kernel) (p32 rfl)) <|
  fa1 (ks_newa (pc := 20) (atype := .int) (t := 20) (by decide +kernel) (by decide) w_153 rfl rfl (by decide) (fun _ _ h => h)) <|
  fa1 (ks_put (pc := 22) (ty := tyX9 2) (ci := 9) (f := 2) (idx := 18) (C := RX9) (T := TX9) (NF := 6) (by decide +kernel) rfl (by decide) inG_X9 (by decide) w_157 tyX9 tyX9_ok nmX9 rfl (tyX9_ok 2 (by decide)) fR_arr) <|
  fa1 (ks_aload_n (pc := 25) (kf := 0) (j := 0) (by decide +kernel) rfl) <|
  fa1 (ks_iconst (pc := 26) (n := 4) (v := 4) (by decide +kernel) (by decide +kernel) (p32 rfl)) <|
  fa1 (ks_newr (pc := 27) (t := 27) (idx := 21) (C := "ShownLibrary$Term") (by decide +kernel) (by decide) w_129 rfl (fun _ h => h.2.1)) <|
  fa1 (ks_put (pc := 30) (ty := tyX9 3) (ci := 9) (f := 3) (idx := 23) (C := RX9) (T := TX9) (NF := 6) (by decide +kernel) rfl (by decide) inG_X9 (by decide) w_158 tyX9 tyX9_ok nmX9 rfl (tyX9_ok 3 (by decide)) fR_arr) <|
  fa1 (ks_aload_n (pc := 33) (kf := 0) (j := 0) (by decide +kernel) rfl) <|
  fa1 (ks_iconst (pc := 34) (n := 4) (v := 4) (by decide +kernel) (by decide +kernel) (p32 rfl)) <|
  fa1 (ks_newr (pc := 35) (t := 28) (idx := 21) (C := "ShownLibrary$Term") (by decide +kernel) (by decide) w_129 rfl (fun _ h => h.2.1)) <|
  fa1 (ks_put (pc := 38) (ty := tyX9 4) (ci := 9) (f := 4) (idx := 27) (C := RX9) (T := TX9) (NF := 6) (by decide +kernel) rfl (by decide) inG_X9 (by decide) w_159 tyX9 tyX9_ok nmX9 rfl (tyX9_ok 4 (by decide)) fR_arr) <|
  fa1 (ks_iconst (pc := 41) (n := 0) (v := 0) (by decide +kernel) (by decide +kernel) (p32 rfl)) <|
  fa1 (ks_istore_n (pc := 42) (kf := 1) (j := 1) (by decide +kernel) rfl (by decide)) <|
  fa1 (ks_iload_n (pc := 43) (kf := 1) (j := 1) (by decide +kernel) rfl) <|
  fa1 (ks_iconst (pc := 44) (n := 4) (v := 4) (by decide +kernel) (by decide +kernel) (p32 rfl)) <|
  fa1 (ks_cmpge (pc := 45) (off := 46) (by decide +kernel) (by decide)) <|
  fa1 (ks_aload_n (pc := 48) (kf := 0) (j := 0) (by decide +kernel) rfl) <|
  fa1 (ks_get (pc := 49) (ci := 9) (f := 2) (idx := 18) (C := RX9) (T := TX9) (NF := 6) (by decide +kernel) rfl (by decide) inG_X9 (by decide) w_157) <|
  fa1 (ks_iload_n (pc := 52) (kf := 1) (j := 1) (by decide +kernel) rfl) <|
  fa1 (ks_bipush (pc := 53) (n := -4) (v := -4) (by decide +kernel) (by decide +kernel) (p32 rfl)) <|
  fa1 (ks_iast (pc := 55) (by decide +kernel)) <|
  fa1 (ks_aload_n (pc := 56) (kf := 0) (j := 0) (by decide +kernel) rfl) <|
  fa1 (ks_get (pc := 57) (ci := 9) (f := 3) (idx := 23) (C := RX9) (T := TX9) (NF := 6) (by decide +kernel) rfl (by decide) inG_X9 (by decide) w_158) <|
  fa1 (ks_iload_n (pc := 60) (kf := 1) (j := 1) (by decide +kernel) rfl) <|
  fa1 (ks_new (pc := 61) (ci := 8) (idx := 21) (C := RX8) (T := TX8) (NF := 2) (by decide +kernel) rfl inG_X8 tyX8 tyX8_ok (by decide +kernel) w_129 w_131 w_102 rfl (by decide)) <|
  fa1 (ks_dup (pc := 64) (by decide +kernel)) <|
  fa1 (ks_iconst (pc := 65) (n := 3) (v := 3) (by decide +kernel) (by decide +kernel) (p32 rfl)) <|
  fa1 (ks_call (pc := 66) (n := 1) (ci := 8) (idx := 30) (y := yX8_init) (by decide +kernel) gg_X8_init (fun _ _ h _ => Or.inl (h _ w_132)) (by decide +kernel) rfl w_133 w_102 w_134 ⟨by decide, by decide⟩) <|
  fa1 (ks_aast (pc := 69) (tA := 27) (ci := 8) (C := RX8) (T := TX8) (NF := 2) (by decide +kernel) rfl (by decide) (by decide) rfl) <|
  fa1 (ks_aload_n (pc := 70) (kf := 0) (j := 0) (by decide +kernel) rfl) <|
  fa1 (ks_get (pc := 71) (ci := 9) (f := 4) (idx := 27) (C := RX9) (T := TX9) (NF := 6) (by decide +kernel) rfl (by decide) inG_X9 (by decide) w_159) <|
  fa1 (ks_iload_n (pc := 74) (kf := 1) (j := 1) (by decide +kernel) rfl) <|
  fa1 (ks_new (pc := 75) (ci := 8) (idx := 21) (C := RX8) (T := TX8) (NF := 2) (by decide +kernel) rfl inG_X8 tyX8 tyX8_ok (by decide +kernel) w_129 w_131 w_102 rfl (by decide)) <|
  fa1 (ks_dup (pc := 78) (by decide +kernel)) <|
  fa1 (ks_bipush (pc := 79) (n := 20) (v := 20) (by decide +kernel) (by decide +kernel) (p32 rfl)) <|
  fa1 (ks_call (pc := 81) (n := 1) (ci := 8) (idx := 30) (y := yX8_init) (by decide +kernel) gg_X8_init (fun _ _ h _ => Or.inl (h _ w_132)) (by decide +kernel) rfl w_133 w_102 w_134 ⟨by decide, by decide⟩) <|
  fa1 (ks_aast (pc := 84) (tA := 28) (ci := 8) (C := RX8) (T := TX8) (NF := 2) (by decide +kernel) rfl (by decide) (by decide) rfl) <|
  fa1 (ks_iinc (pc := 85) (j := 1) (d := 1) (by decide +kernel) (by decide)) <|
  fa1 (ks_goto (pc := 88) (off := -45) (by decide +kernel) (by decide)) <|
  fa1 (ks_aload_n (pc := 91) (kf := 0) (j := 0) (by decide +kernel) rfl) <|
  fa1 (ks_iconst (pc := 92) (n := 0) (v := 0) (by decide +kernel) (by decide +kernel) (p32 rfl)) <|
  fa1 (ks_put (pc := 93) (ty := tyX9 5) (ci := 9) (f := 5) (idx := 33) (C := RX9) (T := TX9) (NF := 6) (by decide +kernel) rfl (by decide) inG_X9 (by decide) w_160 tyX9 tyX9_ok nmX9 rfl (tyX9_ok 5 (by decide)) fI_int) <|
  fa1 (ks_ret (pc := 96) (by decide +kernel)) <| fa0
theorem gg_X9_init {G : Wp} {l : Launch} : KGood G l yX9_init cX9_init 2 2 42 f_X9_init := metK_of (fun n0 z0 N Z _ _ h => ks_X9_init G l n0 z0 N Z _ (lkpK_mem h)) (by decide +kernel) rfl rfl
def k_X3_init (N Z : Nat) : List (Nat × KI) := [
  (0, k_aload 1 0),
  (1, k_obj 4),
  (4, k_aload 5 0),
  (5, k_push 7 (.inl 24)),
  (7, k_newa 10 25 N Z),
  (10, k_put 13 3 0 isR),
  (13, k_aload 14 0),
  (14, k_push 17 (.inl 200)),
  (17, k_newa 19 20 N Z),
  (19, k_put 22 3 1 isR),
  (22, k_aload 23 0),
  (23, k_push 26 (.inl 200)),
  (26, k_newa 28 20 N Z),
  (28, k_put 31 3 2 isR),
  (31, k_aload 32 0),
  (32, k_push 35 (.inl 200)),
  (35, k_newa 37 20 N Z),
  (37, k_put 40 3 3 isR),
  (40, k_aload 41 0),
  (41, k_push 44 (.inl 424)),
  (44, k_newa 46 22 N Z),
  (46, k_put 49 3 4 isR),
  (49, k_aload 50 0),
  (50, k_push 53 (.inl 424)),
  (53, k_newa 55 21 N Z),
  (55, k_put 58 3 5 isR),
  (58, k_aload 59 0),
  (59, k_push 62 (.inl 424)),
  (62, k_newa 64 21 N Z),
  (64, k_put 67 3 6 isR),
  (67, k_push 68 (.inl 0)),
  (68, k_istore 69 1),
  (69, k_iload 70 1),
  (70, k_push 72 (.inl 24)),
  (72, k_cmpge 75 94),
  (75, k_aload 76 0),
  (76, k_get 79 3 0),
  (79, k_iload 80 1),
  (80, k_new 83 2 11 [vN, vN, vI 0, vI 0, vI 0, vI 0, vI 0, vI 0, vI 0, vI 0, vI 0] N Z),
  (83, k_dup 84),
  (84, k_call 87 1 2 f_X2_init N Z),
  (87, k_aast 88 25 2),
  (88, k_iinc 91 1 (1)),
  (91, k_goto 69),
  (94, k_ret N Z)]
def f_X3_init : List AV → KS → Option KS := denK 2 (fun N Z => lkpK (k_X3_init N Z)) 127 (fun _ => 3216) 334
set_option maxRecDepth 100000 in
set_option maxHeartbeats 4000000 in
theorem ks_X3_init (G : Wp) (l : Launch) (n0 z0 N Z : Nat) : ∀ e ∈ k_X3_init N Z, SdK G l RX3 cX3_init 2 3 62 n0 z0 N Z e.1 e.2 :=
  fa1 (ks_aload_n (pc := 0) (kf := 0) (j := 0) (by decide +kernel) rfl) <|
  fa1 (ks_obj (pc := 1) (idx := 3) (by decide +kernel) w_183 w_121 w_122 (by decide) (by decide)) <|
  fa1 (ks_aload_n (pc := 4) (kf := 0) (j := 0) (by decide +kernel) rfl) <|
  fa1 (ks_bipush (pc := 5) (n := 24) (v := 24) (by decide +kernel) (by decide +kernel) (p32 rfl)) <|
  fa1 (ks_newr (pc := 7) (t := 25) (idx := 9) (C := "ShownLibrary$Saying") (by decide +kernel) (by decide) w_184 rfl (fun _ h => h.1)) <|
  fa1 (ks_put (pc := 10) (ty := tyX3 0) (ci := 3) (f := 0) (idx := 11) (C := RX3) (T := TX3) (NF := 11) (by decide +kernel) rfl (by decide) inG_X3 (by decide) w_250 tyX3 tyX3_ok nmX3 rfl (tyX3_ok 0 (by decide)) fR_arr) <|
  fa1 (ks_aload_n (pc := 13) (kf := 0) (j := 0) (by decide +kernel) rfl) <|
  fa1 (ks_sipush (pc := 14) (n := 200) (v := 200) (by decide +kernel) (by decide +kernel) (p32 rfl)) <|
  fa1 (ks_newa (pc := 17) (atype := .int) (t := 20) (by decide +kernel) (by decide) w_153 rfl rfl (by decide) (fun _ _ h => h)) <|
  fa1 (ks_put (pc := 19) (ty := tyX3 1) (ci := 3) (f := 1) (idx := 17) (C := RX3) (T := TX3) (NF := 11) (by decide +kernel) rfl (by decide) inG_X3 (by decide) w_251 tyX3 tyX3_ok nmX3 rfl (tyX3_ok 1 (by decide)) fR_arr) <|
  fa1 (ks_aload_n (pc := 22) (kf := 0) (j := 0) (by decide +kernel) rfl) <|
  fa1 (ks_sipush (pc := 23) (n := 200) (v := 200) (by decide +kernel) (by decide +kernel) (p32 rfl)) <|
  fa1 (ks_newa (pc := 26) (atype := .int) (t := 20) (by decide +kernel) (by decide) w_153 rfl rfl (by decide) (fun _ _ h => h)) <|
  fa1 (ks_put (pc := 28) (ty := tyX3 2) (ci := 3) (f := 2) (idx := 21) (C := RX3) (T := TX3) (NF := 11) (by decide +kernel) rfl (by decide) inG_X3 (by decide) w_252 tyX3 tyX3_ok nmX3 rfl (tyX3_ok 2 (by decide)) fR_arr) <|
  fa1 (ks_aload_n (pc := 31) (kf := 0) (j := 0) (by decide +kernel) rfl) <|
  fa1 (ks_sipush (pc := 32) (n := 200) (v := 200) (by decide +kernel) (by decide +kernel) (p32 rfl)) <|
  fa1 (ks_newa (pc := 35) (atype := .int) (t := 20) (by decide +kernel) (by decide) w_153 rfl rfl (by decide) (fun _ _ h => h)) <|
  fa1 (ks_put (pc := 37) (ty := tyX3 3) (ci := 3) (f := 3) (idx := 24) (C := RX3) (T := TX3) (NF := 11) (by decide +kernel) rfl (by decide) inG_X3 (by decide) w_253 tyX3 tyX3_ok nmX3 rfl (tyX3_ok 3 (by decide)) fR_arr) <|
  fa1 (ks_aload_n (pc := 40) (kf := 0) (j := 0) (by decide +kernel) rfl) <|
  fa1 (ks_sipush (pc := 41) (n := 424) (v := 424) (by decide +kernel) (by decide +kernel) (p32 rfl)) <|
  fa1 (ks_newa (pc := 44) (atype := .short) (t := 22) (by decide +kernel) (by decide) w_249 rfl rfl (by decide) (fun _ _ h => h)) <|
  fa1 (ks_put (pc := 46) (ty := tyX3 4) (ci := 3) (f := 4) (idx := 27) (C := RX3) (T := TX3) (NF := 11) (by decide +kernel) rfl (by decide) inG_X3 (by decide) w_254 tyX3 tyX3_ok nmX3 rfl (tyX3_ok 4 (by decide)) fR_arr) <|
  fa1 (ks_aload_n (pc := 49) (kf := 0) (j := 0) (by decide +kernel) rfl) <|
  fa1 (ks_sipush (pc := 50) (n := 424) (v := 424) (by decide +kernel) (by decide +kernel) (p32 rfl)) <|
  fa1 (ks_newa (pc := 53) (atype := .byte) (t := 21) (by decide +kernel) (by decide) w_154 rfl rfl (by decide) (fun _ _ h => h)) <|
  fa1 (ks_put (pc := 55) (ty := tyX3 5) (ci := 3) (f := 5) (idx := 31) (C := RX3) (T := TX3) (NF := 11) (by decide +kernel) rfl (by decide) inG_X3 (by decide) w_255 tyX3 tyX3_ok nmX3 rfl (tyX3_ok 5 (by decide)) fR_arr) <|
  fa1 (ks_aload_n (pc := 58) (kf := 0) (j := 0) (by decide +kernel) rfl) <|
  fa1 (ks_sipush (pc := 59) (n := 424) (v := 424) (by decide +kernel) (by decide +kernel) (p32 rfl)) <|
  fa1 (ks_newa (pc := 62) (atype := .byte) (t := 21) (by decide +kernel) (by decide) w_154 rfl rfl (by decide) (fun _ _ h => h)) <|
  fa1 (ks_put (pc := 64) (ty := tyX3 6) (ci := 3) (f := 6) (idx := 35) (C := RX3) (T := TX3) (NF := 11) (by decide +kernel) rfl (by decide) inG_X3 (by decide) w_256 tyX3 tyX3_ok nmX3 rfl (tyX3_ok 6 (by decide)) fR_arr) <|
  fa1 (ks_iconst (pc := 67) (n := 0) (v := 0) (by decide +kernel) (by decide +kernel) (p32 rfl)) <|
  fa1 (ks_istore_n (pc := 68) (kf := 1) (j := 1) (by decide +kernel) rfl (by decide)) <|
  fa1 (ks_iload_n (pc := 69) (kf := 1) (j := 1) (by decide +kernel) rfl) <|
  fa1 (ks_bipush (pc := 70) (n := 24) (v := 24) (by decide +kernel) (by decide +kernel) (p32 rfl)) <|
  fa1 (ks_cmpge (pc := 72) (off := 22) (by decide +kernel) (by decide)) <|
  fa1 (ks_aload_n (pc := 75) (kf := 0) (j := 0) (by decide +kernel) rfl) <|
  fa1 (ks_get (pc := 76) (ci := 3) (f := 0) (idx := 11) (C := RX3) (T := TX3) (NF := 11) (by decide +kernel) rfl (by decide) inG_X3 (by decide) w_250) <|
  fa1 (ks_iload_n (pc := 79) (kf := 1) (j := 1) (by decide +kernel) rfl) <|
  fa1 (ks_new (pc := 80) (ci := 2) (idx := 9) (C := RX2) (T := TX2) (NF := 11) (by decide +kernel) rfl inG_X2 tyX2 tyX2_ok (by decide +kernel) w_184 w_186 w_105 rfl (by decide)) <|
  fa1 (ks_dup (pc := 83) (by decide +kernel)) <|
  fa1 (ks_call (pc := 84) (n := 0) (ci := 2) (idx := 38) (y := yX2_init) (by decide +kernel) gg_X2_init (fun _ _ _ h => Or.inr h.2.2.1) (by decide +kernel) rfl w_188 w_105 w_189 ⟨by decide, by decide⟩) <|
  fa1 (ks_aast (pc := 87) (tA := 25) (ci := 2) (C := RX2) (T := TX2) (NF := 11) (by decide +kernel) rfl (by decide) (by decide) rfl) <|
  fa1 (ks_iinc (pc := 88) (j := 1) (d := 1) (by decide +kernel) (by decide)) <|
  fa1 (ks_goto (pc := 91) (off := -22) (by decide +kernel) (by decide)) <|
  fa1 (ks_ret (pc := 94) (by decide +kernel)) <| fa0
theorem gg_X3_init {G : Wp} {l : Launch} : KGood G l yX3_init cX3_init 2 3 62 f_X3_init := metK_of (fun n0 z0 N Z _ _ h => ks_X3_init G l n0 z0 N Z _ (lkpK_mem h)) (by decide +kernel) rfl rfl
def k_X7_init (N Z : Nat) : List (Nat × KI) := [
  (0, k_aload 1 0),
  (1, k_obj 4),
  (4, k_aload 5 0),
  (5, k_push 8 (.inl 240)),
  (8, k_newa 10 21 N Z),
  (10, k_put 13 7 2 isR),
  (13, k_aload 14 0),
  (14, k_new 17 8 2 [vN, vI 0] N Z),
  (17, k_dup 18),
  (18, k_push 20 (.inl 20)),
  (20, k_call 23 2 8 f_X8_init N Z),
  (23, k_put 26 7 3 isR),
  (26, k_aload 27 0),
  (27, k_new 30 8 2 [vN, vI 0] N Z),
  (30, k_dup 31),
  (31, k_push 33 (.inl 20)),
  (33, k_call 36 2 8 f_X8_init N Z),
  (36, k_put 39 7 4 isR),
  (39, k_aload 40 0),
  (40, k_aload 41 1),
  (41, k_put 44 7 0 isR),
  (44, k_aload 45 0),
  (45, k_aload 46 2),
  (46, k_put 49 7 1 isR),
  (49, k_ret N Z)]
def f_X7_init : List AV → KS → Option KS := denK 3 (fun N Z => lkpK (k_X7_init N Z)) 5 (fun _ => 284) 35
set_option maxRecDepth 100000 in
set_option maxHeartbeats 4000000 in
theorem ks_X7_init (G : Wp) (l : Launch) (n0 z0 N Z : Nat) : ∀ e ∈ k_X7_init N Z, SdK G l RX7 cX7_init 3 2 42 n0 z0 N Z e.1 e.2 :=
  fa1 (ks_aload_n (pc := 0) (kf := 0) (j := 0) (by decide +kernel) rfl) <|
  fa1 (ks_obj (pc := 1) (idx := 3) (by decide +kernel) w_295 w_121 w_122 (by decide) (by decide)) <|
  fa1 (ks_aload_n (pc := 4) (kf := 0) (j := 0) (by decide +kernel) rfl) <|
  fa1 (ks_sipush (pc := 5) (n := 240) (v := 240) (by decide +kernel) (by decide +kernel) (p32 rfl)) <|
  fa1 (ks_newa (pc := 8) (atype := .byte) (t := 21) (by decide +kernel) (by decide) w_154 rfl rfl (by decide) (fun _ _ h => h)) <|
  fa1 (ks_put (pc := 10) (ty := tyX7 2) (ci := 7) (f := 2) (idx := 11) (C := RX7) (T := TX7) (NF := 10) (by decide +kernel) rfl (by decide) inG_X7 (by decide) w_300 tyX7 tyX7_ok nmX7 rfl (tyX7_ok 2 (by decide)) fR_arr) <|
  fa1 (ks_aload_n (pc := 13) (kf := 0) (j := 0) (by decide +kernel) rfl) <|
  fa1 (ks_new (pc := 14) (ci := 8) (idx := 15) (C := RX8) (T := TX8) (NF := 2) (by decide +kernel) rfl inG_X8 tyX8 tyX8_ok (by decide +kernel) w_296 w_131 w_102 rfl (by decide)) <|
  fa1 (ks_dup (pc := 17) (by decide +kernel)) <|
  fa1 (ks_bipush (pc := 18) (n := 20) (v := 20) (by decide +kernel) (by decide +kernel) (p32 rfl)) <|
  fa1 (ks_call (pc := 20) (n := 1) (ci := 8) (idx := 17) (y := yX8_init) (by decide +kernel) gg_X8_init (fun _ _ h _ => Or.inl (h _ w_297)) (by decide +kernel) rfl w_133 w_102 w_134 ⟨by decide, by decide⟩) <|
  fa1 (ks_put (pc := 23) (ty := tyX7 3) (ci := 7) (f := 3) (idx := 20) (C := RX7) (T := TX7) (NF := 10) (by decide +kernel) rfl (by decide) inG_X7 (by decide) w_301 tyX7 tyX7_ok nmX7 rfl (tyX7_ok 3 (by decide)) fR_obj) <|
  fa1 (ks_aload_n (pc := 26) (kf := 0) (j := 0) (by decide +kernel) rfl) <|
  fa1 (ks_new (pc := 27) (ci := 8) (idx := 15) (C := RX8) (T := TX8) (NF := 2) (by decide +kernel) rfl inG_X8 tyX8 tyX8_ok (by decide +kernel) w_296 w_131 w_102 rfl (by decide)) <|
  fa1 (ks_dup (pc := 30) (by decide +kernel)) <|
  fa1 (ks_bipush (pc := 31) (n := 20) (v := 20) (by decide +kernel) (by decide +kernel) (p32 rfl)) <|
  fa1 (ks_call (pc := 33) (n := 1) (ci := 8) (idx := 17) (y := yX8_init) (by decide +kernel) gg_X8_init (fun _ _ h _ => Or.inl (h _ w_297)) (by decide +kernel) rfl w_133 w_102 w_134 ⟨by decide, by decide⟩) <|
  fa1 (ks_put (pc := 36) (ty := tyX7 4) (ci := 7) (f := 4) (idx := 24) (C := RX7) (T := TX7) (NF := 10) (by decide +kernel) rfl (by decide) inG_X7 (by decide) w_302 tyX7 tyX7_ok nmX7 rfl (tyX7_ok 4 (by decide)) fR_obj) <|
  fa1 (ks_aload_n (pc := 39) (kf := 0) (j := 0) (by decide +kernel) rfl) <|
  fa1 (ks_aload_n (pc := 40) (kf := 1) (j := 1) (by decide +kernel) rfl) <|
  fa1 (ks_put (pc := 41) (ty := tyX7 0) (ci := 7) (f := 0) (idx := 27) (C := RX7) (T := TX7) (NF := 10) (by decide +kernel) rfl (by decide) inG_X7 (by decide) w_298 tyX7 tyX7_ok nmX7 rfl (tyX7_ok 0 (by decide)) fR_obj) <|
  fa1 (ks_aload_n (pc := 44) (kf := 0) (j := 0) (by decide +kernel) rfl) <|
  fa1 (ks_aload_n (pc := 45) (kf := 2) (j := 2) (by decide +kernel) rfl) <|
  fa1 (ks_put (pc := 46) (ty := tyX7 1) (ci := 7) (f := 1) (idx := 31) (C := RX7) (T := TX7) (NF := 10) (by decide +kernel) rfl (by decide) inG_X7 (by decide) w_299 tyX7 tyX7_ok nmX7 rfl (tyX7_ok 1 (by decide)) fR_obj) <|
  fa1 (ks_ret (pc := 49) (by decide +kernel)) <| fa0
theorem gg_X7_init {G : Wp} {l : Launch} : KGood G l yX7_init cX7_init 3 2 42 f_X7_init := metK_of (fun n0 z0 N Z _ _ h => ks_X7_init G l n0 z0 N Z _ (lkpK_mem h)) (by decide +kernel) rfl rfl
def k_X6_init (N Z : Nat) : List (Nat × KI) := [
  (0, k_aload 1 0),
  (1, k_obj 4),
  (4, k_aload 5 0),
  (5, k_new 8 8 2 [vN, vI 0] N Z),
  (8, k_dup 9),
  (9, k_push 10 (.inl 0)),
  (10, k_call 13 2 8 f_X8_init N Z),
  (13, k_put 16 6 2 isR),
  (16, k_aload 17 0),
  (17, k_push 19 (.inl 20)),
  (19, k_newa 21 20 N Z),
  (21, k_put 24 6 3 isR),
  (24, k_aload 25 0),
  (25, k_push 26 (.inl 3)),
  (26, k_newa 28 20 N Z),
  (28, k_put 31 6 4 isR),
  (31, k_aload 32 0),
  (32, k_push 33 (.inl 3)),
  (33, k_newa 35 20 N Z),
  (35, k_put 38 6 5 isR),
  (38, k_aload 39 0),
  (39, k_aload 40 1),
  (40, k_put 43 6 0 isR),
  (43, k_aload 44 0),
  (44, k_aload 45 2),
  (45, k_put 48 6 1 isR),
  (48, k_ret N Z)]
def f_X6_init : List AV → KS → Option KS := denK 3 (fun N Z => lkpK (k_X6_init N Z)) 5 (fun _ => 28) 37
set_option maxRecDepth 100000 in
set_option maxHeartbeats 4000000 in
theorem ks_X6_init (G : Wp) (l : Launch) (n0 z0 N Z : Nat) : ∀ e ∈ k_X6_init N Z, SdK G l RX6 cX6_init 3 2 42 n0 z0 N Z e.1 e.2 :=
  fa1 (ks_aload_n (pc := 0) (kf := 0) (j := 0) (by decide +kernel) rfl) <|
  fa1 (ks_obj (pc := 1) (idx := 3) (by decide +kernel) w_336 w_121 w_122 (by decide) (by decide)) <|
  fa1 (ks_aload_n (pc := 4) (kf := 0) (j := 0) (by decide +kernel) rfl) <|
  fa1 (ks_new (pc := 5) (ci := 8) (idx := 9) (C := RX8) (T := TX8) (NF := 2) (by decide +kernel) rfl inG_X8 tyX8 tyX8_ok (by decide +kernel) w_337 w_131 w_102 rfl (by decide)) <|
  fa1 (ks_dup (pc := 8) (by decide +kernel)) <|
  fa1 (ks_iconst (pc := 9) (n := 0) (v := 0) (by decide +kernel) (by decide +kernel) (p32 rfl)) <|
  fa1 (ks_call (pc := 10) (n := 1) (ci := 8) (idx := 11) (y := yX8_init) (by decide +kernel) gg_X8_init (fun _ _ h _ => Or.inl (h _ w_338)) (by decide +kernel) rfl w_133 w_102 w_134 ⟨by decide, by decide⟩) <|
  fa1 (ks_put (pc := 13) (ty := tyX6 2) (ci := 6) (f := 2) (idx := 14) (C := RX6) (T := TX6) (NF := 7) (by decide +kernel) rfl (by decide) inG_X6 (by decide) w_341 tyX6 tyX6_ok nmX6 rfl (tyX6_ok 2 (by decide)) fR_obj) <|
  fa1 (ks_aload_n (pc := 16) (kf := 0) (j := 0) (by decide +kernel) rfl) <|
  fa1 (ks_bipush (pc := 17) (n := 20) (v := 20) (by decide +kernel) (by decide +kernel) (p32 rfl)) <|
  fa1 (ks_newa (pc := 19) (atype := .int) (t := 20) (by decide +kernel) (by decide) w_153 rfl rfl (by decide) (fun _ _ h => h)) <|
  fa1 (ks_put (pc := 21) (ty := tyX6 3) (ci := 6) (f := 3) (idx := 20) (C := RX6) (T := TX6) (NF := 7) (by decide +kernel) rfl (by decide) inG_X6 (by decide) w_342 tyX6 tyX6_ok nmX6 rfl (tyX6_ok 3 (by decide)) fR_arr) <|
  fa1 (ks_aload_n (pc := 24) (kf := 0) (j := 0) (by decide +kernel) rfl) <|
  fa1 (ks_iconst (pc := 25) (n := 3) (v := 3) (by decide +kernel) (by decide +kernel) (p32 rfl)) <|
  fa1 (ks_newa (pc := 26) (atype := .int) (t := 20) (by decide +kernel) (by decide) w_153 rfl rfl (by decide) (fun _ _ h => h)) <|
  fa1 (ks_put (pc := 28) (ty := tyX6 4) (ci := 6) (f := 4) (idx := 24) (C := RX6) (T := TX6) (NF := 7) (by decide +kernel) rfl (by decide) inG_X6 (by decide) w_343 tyX6 tyX6_ok nmX6 rfl (tyX6_ok 4 (by decide)) fR_arr) <|
  fa1 (ks_aload_n (pc := 31) (kf := 0) (j := 0) (by decide +kernel) rfl) <|
  fa1 (ks_iconst (pc := 32) (n := 3) (v := 3) (by decide +kernel) (by decide +kernel) (p32 rfl)) <|
  fa1 (ks_newa (pc := 33) (atype := .int) (t := 20) (by decide +kernel) (by decide) w_153 rfl rfl (by decide) (fun _ _ h => h)) <|
  fa1 (ks_put (pc := 35) (ty := tyX6 5) (ci := 6) (f := 5) (idx := 27) (C := RX6) (T := TX6) (NF := 7) (by decide +kernel) rfl (by decide) inG_X6 (by decide) w_344 tyX6 tyX6_ok nmX6 rfl (tyX6_ok 5 (by decide)) fR_arr) <|
  fa1 (ks_aload_n (pc := 38) (kf := 0) (j := 0) (by decide +kernel) rfl) <|
  fa1 (ks_aload_n (pc := 39) (kf := 1) (j := 1) (by decide +kernel) rfl) <|
  fa1 (ks_put (pc := 40) (ty := tyX6 0) (ci := 6) (f := 0) (idx := 30) (C := RX6) (T := TX6) (NF := 7) (by decide +kernel) rfl (by decide) inG_X6 (by decide) w_339 tyX6 tyX6_ok nmX6 rfl (tyX6_ok 0 (by decide)) fR_obj) <|
  fa1 (ks_aload_n (pc := 43) (kf := 0) (j := 0) (by decide +kernel) rfl) <|
  fa1 (ks_aload_n (pc := 44) (kf := 2) (j := 2) (by decide +kernel) rfl) <|
  fa1 (ks_put (pc := 45) (ty := tyX6 1) (ci := 6) (f := 1) (idx := 34) (C := RX6) (T := TX6) (NF := 7) (by decide +kernel) rfl (by decide) inG_X6 (by decide) w_340 tyX6 tyX6_ok nmX6 rfl (tyX6_ok 1 (by decide)) fR_obj) <|
  fa1 (ks_ret (pc := 48) (by decide +kernel)) <| fa0
theorem gg_X6_init {G : Wp} {l : Launch} : KGood G l yX6_init cX6_init 3 2 42 f_X6_init := metK_of (fun n0 z0 N Z _ _ h => ks_X6_init G l n0 z0 N Z _ (lkpK_mem h)) (by decide +kernel) rfl rfl
def k_X1_init (N Z : Nat) : List (Nat × KI) := [
  (0, k_aload 1 0),
  (1, k_obj 4),
  (4, k_aload 5 0),
  (5, k_push 7 (.inl 20)),
  (7, k_newa 9 20 N Z),
  (9, k_put 12 1 2 isR),
  (12, k_aload 13 0),
  (13, k_push 15 (.inl 20)),
  (15, k_newa 17 20 N Z),
  (17, k_put 20 1 3 isR),
  (20, k_aload 21 0),
  (21, k_push 23 (.inl 20)),
  (23, k_newa 25 20 N Z),
  (25, k_put 28 1 4 isR),
  (28, k_aload 29 0),
  (29, k_push 31 (.inl 20)),
  (31, k_newa 33 20 N Z),
  (33, k_put 36 1 5 isR),
  (36, k_aload 37 0),
  (37, k_push 39 (.inl 21)),
  (39, k_newa 42 24 N Z),
  (42, k_put 45 1 6 isR),
  (45, k_aload 46 0),
  (46, k_aload 47 1),
  (47, k_put 50 1 0 isR),
  (50, k_aload 51 0),
  (51, k_aload 52 2),
  (52, k_put 55 1 1 isR),
  (55, k_push 56 (.inl 0)),
  (56, k_istore 57 3),
  (57, k_iload 58 3),
  (58, k_push 60 (.inl 20)),
  (60, k_cmpgt 63 84),
  (63, k_aload 64 0),
  (64, k_get 67 1 6),
  (67, k_iload 68 3),
  (68, k_new 71 8 2 [vN, vI 0] N Z),
  (71, k_dup 72),
  (72, k_push 74 (.inl 20)),
  (74, k_call 77 2 8 f_X8_init N Z),
  (77, k_aast 78 24 8),
  (78, k_iinc 81 3 (1)),
  (81, k_goto 57),
  (84, k_aload 85 0),
  (85, k_push 87 (.inl (-4))),
  (87, k_put 90 1 7 isI),
  (90, k_aload 91 0),
  (91, k_push 92 (.inl 0)),
  (92, k_put 95 1 8 isI),
  (95, k_ret N Z)]
def f_X1_init : List AV → KS → Option KS := denK 4 (fun N Z => lkpK (k_X1_init N Z)) 47 (fun _ => 563) 323
set_option maxRecDepth 100000 in
set_option maxHeartbeats 4000000 in
theorem ks_X1_init (G : Wp) (l : Launch) (n0 z0 N Z : Nat) : ∀ e ∈ k_X1_init N Z, SdK G l RX1 cX1_init 4 2 42 n0 z0 N Z e.1 e.2 :=
  fa1 (ks_aload_n (pc := 0) (kf := 0) (j := 0) (by decide +kernel) rfl) <|
  fa1 (ks_obj (pc := 1) (idx := 3) (by decide +kernel) w_367 w_121 w_122 (by decide) (by decide)) <|
  fa1 (ks_aload_n (pc := 4) (kf := 0) (j := 0) (by decide +kernel) rfl) <|
  fa1 (ks_bipush (pc := 5) (n := 20) (v := 20) (by decide +kernel) (by decide +kernel) (p32 rfl)) <|
  fa1 (ks_newa (pc := 7) (atype := .int) (t := 20) (by decide +kernel) (by decide) w_153 rfl rfl (by decide) (fun _ _ h => h)) <|
  fa1 (ks_put (pc := 9) (ty := tyX1 2) (ci := 1) (f := 2) (idx := 9) (C := RX1) (T := TX1) (NF := 9) (by decide +kernel) rfl (by decide) inG_X1 (by decide) w_372 tyX1 tyX1_ok nmX1 rfl (tyX1_ok 2 (by decide)) fR_arr) <|
  fa1 (ks_aload_n (pc := 12) (kf := 0) (j := 0) (by decide +kernel) rfl) <|
  fa1 (ks_bipush (pc := 13) (n := 20) (v := 20) (by decide +kernel) (by decide +kernel) (p32 rfl)) <|
  fa1 (ks_newa (pc := 15) (atype := .int) (t := 20) (by decide +kernel) (by decide) w_153 rfl rfl (by decide) (fun _ _ h => h)) <|
  fa1 (ks_put (pc := 17) (ty := tyX1 3) (ci := 1) (f := 3) (idx := 15) (C := RX1) (T := TX1) (NF := 9) (by decide +kernel) rfl (by decide) inG_X1 (by decide) w_373 tyX1 tyX1_ok nmX1 rfl (tyX1_ok 3 (by decide)) fR_arr) <|
  fa1 (ks_aload_n (pc := 20) (kf := 0) (j := 0) (by decide +kernel) rfl) <|
  fa1 (ks_bipush (pc := 21) (n := 20) (v := 20) (by decide +kernel) (by decide +kernel) (p32 rfl)) <|
  fa1 (ks_newa (pc := 23) (atype := .int) (t := 20) (by decide +kernel) (by decide) w_153 rfl rfl (by decide) (fun _ _ h => h)) <|
  fa1 (ks_put (pc := 25) (ty := tyX1 4) (ci := 1) (f := 4) (idx := 18) (C := RX1) (T := TX1) (NF := 9) (by decide +kernel) rfl (by decide) inG_X1 (by decide) w_374 tyX1 tyX1_ok nmX1 rfl (tyX1_ok 4 (by decide)) fR_arr) <|
  fa1 (ks_aload_n (pc := 28) (kf := 0) (j := 0) (by decide +kernel) rfl) <|
  fa1 (ks_bipush (pc := 29) (n := 20) (v := 20) (by decide +kernel) (by decide +kernel) (p32 rfl)) <|
  fa1 (ks_newa (pc := 31) (atype := .int) (t := 20) (by decide +kernel) (by decide) w_153 rfl rfl (by decide) (fun _ _ h => h)) <|
  fa1 (ks_put (pc := 33) (ty := tyX1 5) (ci := 1) (f := 5) (idx := 21) (C := RX1) (T := TX1) (NF := 9) (by decide +kernel) rfl (by decide) inG_X1 (by decide) w_375 tyX1 tyX1_ok nmX1 rfl (tyX1_ok 5 (by decide)) fR_arr) <|
  fa1 (ks_aload_n (pc := 36) (kf := 0) (j := 0) (by decide +kernel) rfl) <|
  fa1 (ks_bipush (pc := 37) (n := 21) (v := 21) (by decide +kernel) (by decide +kernel) (p32 rfl)) <|
  fa1 (ks_newr (pc := 39) (t := 24) (idx := 24) (C := "ShownLibrary$Term") (by decide +kernel) (by decide) w_368 rfl (fun _ h => h.2.1)) <|
  fa1 (ks_put (pc := 42) (ty := tyX1 6) (ci := 1) (f := 6) (idx := 26) (C := RX1) (T := TX1) (NF := 9) (by decide +kernel) rfl (by decide) inG_X1 (by decide) w_376 tyX1 tyX1_ok nmX1 rfl (tyX1_ok 6 (by decide)) fR_arr) <|
  fa1 (ks_aload_n (pc := 45) (kf := 0) (j := 0) (by decide +kernel) rfl) <|
  fa1 (ks_aload_n (pc := 46) (kf := 1) (j := 1) (by decide +kernel) rfl) <|
  fa1 (ks_put (pc := 47) (ty := tyX1 0) (ci := 1) (f := 0) (idx := 30) (C := RX1) (T := TX1) (NF := 9) (by decide +kernel) rfl (by decide) inG_X1 (by decide) w_370 tyX1 tyX1_ok nmX1 rfl (tyX1_ok 0 (by decide)) fR_obj) <|
  fa1 (ks_aload_n (pc := 50) (kf := 0) (j := 0) (by decide +kernel) rfl) <|
  fa1 (ks_aload_n (pc := 51) (kf := 2) (j := 2) (by decide +kernel) rfl) <|
  fa1 (ks_put (pc := 52) (ty := tyX1 1) (ci := 1) (f := 1) (idx := 34) (C := RX1) (T := TX1) (NF := 9) (by decide +kernel) rfl (by decide) inG_X1 (by decide) w_371 tyX1 tyX1_ok nmX1 rfl (tyX1_ok 1 (by decide)) fR_obj) <|
  fa1 (ks_iconst (pc := 55) (n := 0) (v := 0) (by decide +kernel) (by decide +kernel) (p32 rfl)) <|
  fa1 (ks_istore_n (pc := 56) (kf := 3) (j := 3) (by decide +kernel) rfl (by decide)) <|
  fa1 (ks_iload_n (pc := 57) (kf := 3) (j := 3) (by decide +kernel) rfl) <|
  fa1 (ks_bipush (pc := 58) (n := 20) (v := 20) (by decide +kernel) (by decide +kernel) (p32 rfl)) <|
  fa1 (ks_cmpgt (pc := 60) (off := 24) (by decide +kernel) (by decide)) <|
  fa1 (ks_aload_n (pc := 63) (kf := 0) (j := 0) (by decide +kernel) rfl) <|
  fa1 (ks_get (pc := 64) (ci := 1) (f := 6) (idx := 26) (C := RX1) (T := TX1) (NF := 9) (by decide +kernel) rfl (by decide) inG_X1 (by decide) w_376) <|
  fa1 (ks_iload_n (pc := 67) (kf := 3) (j := 3) (by decide +kernel) rfl) <|
  fa1 (ks_new (pc := 68) (ci := 8) (idx := 24) (C := RX8) (T := TX8) (NF := 2) (by decide +kernel) rfl inG_X8 tyX8 tyX8_ok (by decide +kernel) w_368 w_131 w_102 rfl (by decide)) <|
  fa1 (ks_dup (pc := 71) (by decide +kernel)) <|
  fa1 (ks_bipush (pc := 72) (n := 20) (v := 20) (by decide +kernel) (by decide +kernel) (p32 rfl)) <|
  fa1 (ks_call (pc := 74) (n := 1) (ci := 8) (idx := 38) (y := yX8_init) (by decide +kernel) gg_X8_init (fun _ _ h _ => Or.inl (h _ w_369)) (by decide +kernel) rfl w_133 w_102 w_134 ⟨by decide, by decide⟩) <|
  fa1 (ks_aast (pc := 77) (tA := 24) (ci := 8) (C := RX8) (T := TX8) (NF := 2) (by decide +kernel) rfl (by decide) (by decide) rfl) <|
  fa1 (ks_iinc (pc := 78) (j := 3) (d := 1) (by decide +kernel) (by decide)) <|
  fa1 (ks_goto (pc := 81) (off := -24) (by decide +kernel) (by decide)) <|
  fa1 (ks_aload_n (pc := 84) (kf := 0) (j := 0) (by decide +kernel) rfl) <|
  fa1 (ks_bipush (pc := 85) (n := -4) (v := -4) (by decide +kernel) (by decide +kernel) (p32 rfl)) <|
  fa1 (ks_put (pc := 87) (ty := tyX1 7) (ci := 1) (f := 7) (idx := 41) (C := RX1) (T := TX1) (NF := 9) (by decide +kernel) rfl (by decide) inG_X1 (by decide) w_377 tyX1 tyX1_ok nmX1 rfl (tyX1_ok 7 (by decide)) fI_int) <|
  fa1 (ks_aload_n (pc := 90) (kf := 0) (j := 0) (by decide +kernel) rfl) <|
  fa1 (ks_iconst (pc := 91) (n := 0) (v := 0) (by decide +kernel) (by decide +kernel) (p32 rfl)) <|
  fa1 (ks_put (pc := 92) (ty := tyX1 8) (ci := 1) (f := 8) (idx := 45) (C := RX1) (T := TX1) (NF := 9) (by decide +kernel) rfl (by decide) inG_X1 (by decide) w_380 tyX1 tyX1_ok nmX1 rfl (tyX1_ok 8 (by decide)) fI_int) <|
  fa1 (ks_ret (pc := 95) (by decide +kernel)) <| fa0
theorem gg_X1_init {G : Wp} {l : Launch} : KGood G l yX1_init cX1_init 4 2 42 f_X1_init := metK_of (fun n0 z0 N Z _ _ h => ks_X1_init G l n0 z0 N Z _ (lkpK_mem h)) (by decide +kernel) rfl rfl
def k_X4_init (N Z : Nat) : List (Nat × KI) := [
  (0, k_aload 1 0),
  (1, k_obj 4),
  (4, k_aload 5 0),
  (5, k_push 8 (.inl 250)),
  (8, k_newa 11 29 N Z),
  (11, k_put 14 4 3 isR),
  (14, k_aload 15 0),
  (15, k_push 18 (.inl 250)),
  (18, k_newa 20 20 N Z),
  (20, k_put 23 4 4 isR),
  (23, k_aload 24 0),
  (24, k_push 27 (.inl 250)),
  (27, k_newa 29 20 N Z),
  (29, k_put 32 4 5 isR),
  (32, k_aload 33 0),
  (33, k_push 36 (.inl 250)),
  (36, k_newa 38 20 N Z),
  (38, k_put 41 4 6 isR),
  (41, k_aload 42 0),
  (42, k_push 45 (.inl 250)),
  (45, k_newa 47 20 N Z),
  (47, k_put 50 4 7 isR),
  (50, k_aload 51 0),
  (51, k_push 54 (.inl 250)),
  (54, k_newa 56 20 N Z),
  (56, k_put 59 4 8 isR),
  (59, k_aload 60 0),
  (60, k_push 63 (.inl 256)),
  (63, k_newa 65 20 N Z),
  (65, k_put 68 4 9 isR),
  (68, k_aload 69 0),
  (69, k_push 72 (.inl 250)),
  (72, k_newa 74 20 N Z),
  (74, k_put 77 4 10 isR),
  (77, k_aload 78 0),
  (78, k_push 80 (.inl 20)),
  (80, k_newa 82 20 N Z),
  (82, k_put 85 4 11 isR),
  (85, k_aload 86 0),
  (86, k_new 89 8 2 [vN, vI 0] N Z),
  (89, k_dup 90),
  (90, k_push 92 (.inl 20)),
  (92, k_call 95 2 8 f_X8_init N Z),
  (95, k_put 98 4 12 isR),
  (98, k_aload 99 0),
  (99, k_aload 100 1),
  (100, k_put 103 4 0 isR),
  (103, k_aload 104 0),
  (104, k_aload 105 2),
  (105, k_put 108 4 1 isR),
  (108, k_aload 109 0),
  (109, k_aload 110 3),
  (110, k_put 113 4 2 isR),
  (113, k_push 114 (.inl 0)),
  (114, k_istore 116 4),
  (116, k_iload 118 4),
  (118, k_push 121 (.inl 250)),
  (121, k_cmpge 124 146),
  (124, k_aload 125 0),
  (125, k_get 128 4 3),
  (128, k_iload 130 4),
  (130, k_new 133 8 2 [vN, vI 0] N Z),
  (133, k_dup 134),
  (134, k_push 136 (.inl 20)),
  (136, k_call 139 2 8 f_X8_init N Z),
  (139, k_aast 140 29 8),
  (140, k_iinc 143 4 (1)),
  (143, k_goto 116),
  (146, k_ret N Z)]
def f_X4_init : List AV → KS → Option KS := denK 5 (fun N Z => lkpK (k_X4_init N Z)) 511 (fun _ => 7548) 3319
set_option maxRecDepth 100000 in
set_option maxHeartbeats 4000000 in
theorem ks_X4_init (G : Wp) (l : Launch) (n0 z0 N Z : Nat) : ∀ e ∈ k_X4_init N Z, SdK G l RX4 cX4_init 5 2 42 n0 z0 N Z e.1 e.2 :=
  fa1 (ks_aload_n (pc := 0) (kf := 0) (j := 0) (by decide +kernel) rfl) <|
  fa1 (ks_obj (pc := 1) (idx := 3) (by decide +kernel) w_407 w_121 w_122 (by decide) (by decide)) <|
  fa1 (ks_aload_n (pc := 4) (kf := 0) (j := 0) (by decide +kernel) rfl) <|
  fa1 (ks_sipush (pc := 5) (n := 250) (v := 250) (by decide +kernel) (by decide +kernel) (p32 rfl)) <|
  fa1 (ks_newr (pc := 8) (t := 29) (idx := 11) (C := "ShownLibrary$Term") (by decide +kernel) (by decide) w_408 rfl (fun _ h => h.2.1)) <|
  fa1 (ks_put (pc := 11) (ty := tyX4 3) (ci := 4) (f := 3) (idx := 13) (C := RX4) (T := TX4) (NF := 18) (by decide +kernel) rfl (by decide) inG_X4 (by decide) w_413 tyX4 tyX4_ok nmX4 rfl (tyX4_ok 3 (by decide)) fR_arr) <|
  fa1 (ks_aload_n (pc := 14) (kf := 0) (j := 0) (by decide +kernel) rfl) <|
  fa1 (ks_sipush (pc := 15) (n := 250) (v := 250) (by decide +kernel) (by decide +kernel) (p32 rfl)) <|
  fa1 (ks_newa (pc := 18) (atype := .int) (t := 20) (by decide +kernel) (by decide) w_153 rfl rfl (by decide) (fun _ _ h => h)) <|
  fa1 (ks_put (pc := 20) (ty := tyX4 4) (ci := 4) (f := 4) (idx := 17) (C := RX4) (T := TX4) (NF := 18) (by decide +kernel) rfl (by decide) inG_X4 (by decide) w_414 tyX4 tyX4_ok nmX4 rfl (tyX4_ok 4 (by decide)) fR_arr) <|
  fa1 (ks_aload_n (pc := 23) (kf := 0) (j := 0) (by decide +kernel) rfl) <|
  fa1 (ks_sipush (pc := 24) (n := 250) (v := 250) (by decide +kernel) (by decide +kernel) (p32 rfl)) <|
  fa1 (ks_newa (pc := 27) (atype := .int) (t := 20) (by decide +kernel) (by decide) w_153 rfl rfl (by decide) (fun _ _ h => h)) <|
  fa1 (ks_put (pc := 29) (ty := tyX4 5) (ci := 4) (f := 5) (idx := 21) (C := RX4) (T := TX4) (NF := 18) (by decide +kernel) rfl (by decide) inG_X4 (by decide) w_415 tyX4 tyX4_ok nmX4 rfl (tyX4_ok 5 (by decide)) fR_arr) <|
  fa1 (ks_aload_n (pc := 32) (kf := 0) (j := 0) (by decide +kernel) rfl) <|
  fa1 (ks_sipush (pc := 33) (n := 250) (v := 250) (by decide +kernel) (by decide +kernel) (p32 rfl)) <|
  fa1 (ks_newa (pc := 36) (atype := .int) (t := 20) (by decide +kernel) (by decide) w_153 rfl rfl (by decide) (fun _ _ h => h)) <|
  fa1 (ks_put (pc := 38) (ty := tyX4 6) (ci := 4) (f := 6) (idx := 24) (C := RX4) (T := TX4) (NF := 18) (by decide +kernel) rfl (by decide) inG_X4 (by decide) w_416 tyX4 tyX4_ok nmX4 rfl (tyX4_ok 6 (by decide)) fR_arr) <|
  fa1 (ks_aload_n (pc := 41) (kf := 0) (j := 0) (by decide +kernel) rfl) <|
  fa1 (ks_sipush (pc := 42) (n := 250) (v := 250) (by decide +kernel) (by decide +kernel) (p32 rfl)) <|
  fa1 (ks_newa (pc := 45) (atype := .int) (t := 20) (by decide +kernel) (by decide) w_153 rfl rfl (by decide) (fun _ _ h => h)) <|
  fa1 (ks_put (pc := 47) (ty := tyX4 7) (ci := 4) (f := 7) (idx := 27) (C := RX4) (T := TX4) (NF := 18) (by decide +kernel) rfl (by decide) inG_X4 (by decide) w_417 tyX4 tyX4_ok nmX4 rfl (tyX4_ok 7 (by decide)) fR_arr) <|
  fa1 (ks_aload_n (pc := 50) (kf := 0) (j := 0) (by decide +kernel) rfl) <|
  fa1 (ks_sipush (pc := 51) (n := 250) (v := 250) (by decide +kernel) (by decide +kernel) (p32 rfl)) <|
  fa1 (ks_newa (pc := 54) (atype := .int) (t := 20) (by decide +kernel) (by decide) w_153 rfl rfl (by decide) (fun _ _ h => h)) <|
  fa1 (ks_put (pc := 56) (ty := tyX4 8) (ci := 4) (f := 8) (idx := 30) (C := RX4) (T := TX4) (NF := 18) (by decide +kernel) rfl (by decide) inG_X4 (by decide) w_418 tyX4 tyX4_ok nmX4 rfl (tyX4_ok 8 (by decide)) fR_arr) <|
  fa1 (ks_aload_n (pc := 59) (kf := 0) (j := 0) (by decide +kernel) rfl) <|
  fa1 (ks_sipush (pc := 60) (n := 256) (v := 256) (by decide +kernel) (by decide +kernel) (p32 rfl)) <|
  fa1 (ks_newa (pc := 63) (atype := .int) (t := 20) (by decide +kernel) (by decide) w_153 rfl rfl (by decide) (fun _ _ h => h)) <|
  fa1 (ks_put (pc := 65) (ty := tyX4 9) (ci := 4) (f := 9) (idx := 33) (C := RX4) (T := TX4) (NF := 18) (by decide +kernel) rfl (by decide) inG_X4 (by decide) w_419 tyX4 tyX4_ok nmX4 rfl (tyX4_ok 9 (by decide)) fR_arr) <|
  fa1 (ks_aload_n (pc := 68) (kf := 0) (j := 0) (by decide +kernel) rfl) <|
  fa1 (ks_sipush (pc := 69) (n := 250) (v := 250) (by decide +kernel) (by decide +kernel) (p32 rfl)) <|
  fa1 (ks_newa (pc := 72) (atype := .int) (t := 20) (by decide +kernel) (by decide) w_153 rfl rfl (by decide) (fun _ _ h => h)) <|
  fa1 (ks_put (pc := 74) (ty := tyX4 10) (ci := 4) (f := 10) (idx := 36) (C := RX4) (T := TX4) (NF := 18) (by decide +kernel) rfl (by decide) inG_X4 (by decide) w_420 tyX4 tyX4_ok nmX4 rfl (tyX4_ok 10 (by decide)) fR_arr) <|
  fa1 (ks_aload_n (pc := 77) (kf := 0) (j := 0) (by decide +kernel) rfl) <|
  fa1 (ks_bipush (pc := 78) (n := 20) (v := 20) (by decide +kernel) (by decide +kernel) (p32 rfl)) <|
  fa1 (ks_newa (pc := 80) (atype := .int) (t := 20) (by decide +kernel) (by decide) w_153 rfl rfl (by decide) (fun _ _ h => h)) <|
  fa1 (ks_put (pc := 82) (ty := tyX4 11) (ci := 4) (f := 11) (idx := 39) (C := RX4) (T := TX4) (NF := 18) (by decide +kernel) rfl (by decide) inG_X4 (by decide) w_421 tyX4 tyX4_ok nmX4 rfl (tyX4_ok 11 (by decide)) fR_arr) <|
  fa1 (ks_aload_n (pc := 85) (kf := 0) (j := 0) (by decide +kernel) rfl) <|
  fa1 (ks_new (pc := 86) (ci := 8) (idx := 11) (C := RX8) (T := TX8) (NF := 2) (by decide +kernel) rfl inG_X8 tyX8 tyX8_ok (by decide +kernel) w_408 w_131 w_102 rfl (by decide)) <|
  fa1 (ks_dup (pc := 89) (by decide +kernel)) <|
  fa1 (ks_bipush (pc := 90) (n := 20) (v := 20) (by decide +kernel) (by decide +kernel) (p32 rfl)) <|
  fa1 (ks_call (pc := 92) (n := 1) (ci := 8) (idx := 42) (y := yX8_init) (by decide +kernel) gg_X8_init (fun _ _ h _ => Or.inl (h _ w_409)) (by decide +kernel) rfl w_133 w_102 w_134 ⟨by decide, by decide⟩) <|
  fa1 (ks_put (pc := 95) (ty := tyX4 12) (ci := 4) (f := 12) (idx := 45) (C := RX4) (T := TX4) (NF := 18) (by decide +kernel) rfl (by decide) inG_X4 (by decide) w_422 tyX4 tyX4_ok nmX4 rfl (tyX4_ok 12 (by decide)) fR_obj) <|
  fa1 (ks_aload_n (pc := 98) (kf := 0) (j := 0) (by decide +kernel) rfl) <|
  fa1 (ks_aload_n (pc := 99) (kf := 1) (j := 1) (by decide +kernel) rfl) <|
  fa1 (ks_put (pc := 100) (ty := tyX4 0) (ci := 4) (f := 0) (idx := 49) (C := RX4) (T := TX4) (NF := 18) (by decide +kernel) rfl (by decide) inG_X4 (by decide) w_410 tyX4 tyX4_ok nmX4 rfl (tyX4_ok 0 (by decide)) fR_obj) <|
  fa1 (ks_aload_n (pc := 103) (kf := 0) (j := 0) (by decide +kernel) rfl) <|
  fa1 (ks_aload_n (pc := 104) (kf := 2) (j := 2) (by decide +kernel) rfl) <|
  fa1 (ks_put (pc := 105) (ty := tyX4 1) (ci := 4) (f := 1) (idx := 53) (C := RX4) (T := TX4) (NF := 18) (by decide +kernel) rfl (by decide) inG_X4 (by decide) w_411 tyX4 tyX4_ok nmX4 rfl (tyX4_ok 1 (by decide)) fR_obj) <|
  fa1 (ks_aload_n (pc := 108) (kf := 0) (j := 0) (by decide +kernel) rfl) <|
  fa1 (ks_aload_n (pc := 109) (kf := 3) (j := 3) (by decide +kernel) rfl) <|
  fa1 (ks_put (pc := 110) (ty := tyX4 2) (ci := 4) (f := 2) (idx := 57) (C := RX4) (T := TX4) (NF := 18) (by decide +kernel) rfl (by decide) inG_X4 (by decide) w_412 tyX4 tyX4_ok nmX4 rfl (tyX4_ok 2 (by decide)) fR_obj) <|
  fa1 (ks_iconst (pc := 113) (n := 0) (v := 0) (by decide +kernel) (by decide +kernel) (p32 rfl)) <|
  fa1 (ks_istore (pc := 114) (j := 4) (by decide +kernel) (by decide)) <|
  fa1 (ks_iload (pc := 116) (j := 4) (by decide +kernel)) <|
  fa1 (ks_sipush (pc := 118) (n := 250) (v := 250) (by decide +kernel) (by decide +kernel) (p32 rfl)) <|
  fa1 (ks_cmpge (pc := 121) (off := 25) (by decide +kernel) (by decide)) <|
  fa1 (ks_aload_n (pc := 124) (kf := 0) (j := 0) (by decide +kernel) rfl) <|
  fa1 (ks_get (pc := 125) (ci := 4) (f := 3) (idx := 13) (C := RX4) (T := TX4) (NF := 18) (by decide +kernel) rfl (by decide) inG_X4 (by decide) w_413) <|
  fa1 (ks_iload (pc := 128) (j := 4) (by decide +kernel)) <|
  fa1 (ks_new (pc := 130) (ci := 8) (idx := 11) (C := RX8) (T := TX8) (NF := 2) (by decide +kernel) rfl inG_X8 tyX8 tyX8_ok (by decide +kernel) w_408 w_131 w_102 rfl (by decide)) <|
  fa1 (ks_dup (pc := 133) (by decide +kernel)) <|
  fa1 (ks_bipush (pc := 134) (n := 20) (v := 20) (by decide +kernel) (by decide +kernel) (p32 rfl)) <|
  fa1 (ks_call (pc := 136) (n := 1) (ci := 8) (idx := 42) (y := yX8_init) (by decide +kernel) gg_X8_init (fun _ _ h _ => Or.inl (h _ w_409)) (by decide +kernel) rfl w_133 w_102 w_134 ⟨by decide, by decide⟩) <|
  fa1 (ks_aast (pc := 139) (tA := 29) (ci := 8) (C := RX8) (T := TX8) (NF := 2) (by decide +kernel) rfl (by decide) (by decide) rfl) <|
  fa1 (ks_iinc (pc := 140) (j := 4) (d := 1) (by decide +kernel) (by decide)) <|
  fa1 (ks_goto (pc := 143) (off := -27) (by decide +kernel) (by decide)) <|
  fa1 (ks_ret (pc := 146) (by decide +kernel)) <| fa0
theorem gg_X4_init {G : Wp} {l : Launch} : KGood G l yX4_init cX4_init 5 2 42 f_X4_init := metK_of (fun n0 z0 N Z _ _ h => ks_X4_init G l n0 z0 N Z _ (lkpK_mem h)) (by decide +kernel) rfl rfl
def k_X10_init (N Z : Nat) : List (Nat × KI) := [
  (0, k_aload 1 0),
  (1, k_obj 4),
  (4, k_aload 5 0),
  (5, k_push 7 (.inl 9)),
  (7, k_newa 9 20 N Z),
  (9, k_put 12 10 2 isR),
  (12, k_aload 13 0),
  (13, k_push 14 (.inl 4)),
  (14, k_push 16 (.inl 9)),
  (16, k_mna 20 N Z),
  (20, k_put 23 10 3 isR),
  (23, k_aload 24 0),
  (24, k_push 25 (.inl 3)),
  (25, k_newa 27 20 N Z),
  (27, k_put 30 10 4 isR),
  (30, k_aload 31 0),
  (31, k_push 33 (.inl 20)),
  (33, k_newa 35 20 N Z),
  (35, k_put 38 10 5 isR),
  (38, k_aload 39 0),
  (39, k_aload 40 1),
  (40, k_put 43 10 0 isR),
  (43, k_aload 44 0),
  (44, k_aload 45 2),
  (45, k_put 48 10 1 isR),
  (48, k_ret N Z)]
def f_X10_init : List AV → KS → Option KS := denK 3 (fun N Z => lkpK (k_X10_init N Z)) 8 (fun _ => 72) 36
set_option maxRecDepth 100000 in
set_option maxHeartbeats 4000000 in
theorem ks_X10_init (G : Wp) (l : Launch) (n0 z0 N Z : Nat) : ∀ e ∈ k_X10_init N Z, SdK G l RX10 cX10_init 3 1 20 n0 z0 N Z e.1 e.2 :=
  fa1 (ks_aload_n (pc := 0) (kf := 0) (j := 0) (by decide +kernel) rfl) <|
  fa1 (ks_obj (pc := 1) (idx := 3) (by decide +kernel) w_471 w_121 w_122 (by decide) (by decide)) <|
  fa1 (ks_aload_n (pc := 4) (kf := 0) (j := 0) (by decide +kernel) rfl) <|
  fa1 (ks_bipush (pc := 5) (n := 9) (v := 9) (by decide +kernel) (by decide +kernel) (p32 rfl)) <|
  fa1 (ks_newa (pc := 7) (atype := .int) (t := 20) (by decide +kernel) (by decide) w_153 rfl rfl (by decide) (fun _ _ h => h)) <|
  fa1 (ks_put (pc := 9) (ty := tyX10 2) (ci := 10) (f := 2) (idx := 11) (C := RX10) (T := TX10) (NF := 8) (by decide +kernel) rfl (by decide) inG_X10 (by decide) w_476 tyX10 tyX10_ok nmX10 rfl (tyX10_ok 2 (by decide)) fR_arr) <|
  fa1 (ks_aload_n (pc := 12) (kf := 0) (j := 0) (by decide +kernel) rfl) <|
  fa1 (ks_iconst (pc := 13) (n := 4) (v := 4) (by decide +kernel) (by decide +kernel) (p32 rfl)) <|
  fa1 (ks_bipush (pc := 14) (n := 9) (v := 9) (by decide +kernel) (by decide +kernel) (p32 rfl)) <|
  fa1 (ks_mna (pc := 16) (idx := 15) (by decide +kernel) w_472) <|
  fa1 (ks_put (pc := 20) (ty := tyX10 3) (ci := 10) (f := 3) (idx := 17) (C := RX10) (T := TX10) (NF := 8) (by decide +kernel) rfl (by decide) inG_X10 (by decide) w_477 tyX10 tyX10_ok nmX10 rfl (tyX10_ok 3 (by decide)) fR_arr) <|
  fa1 (ks_aload_n (pc := 23) (kf := 0) (j := 0) (by decide +kernel) rfl) <|
  fa1 (ks_iconst (pc := 24) (n := 3) (v := 3) (by decide +kernel) (by decide +kernel) (p32 rfl)) <|
  fa1 (ks_newa (pc := 25) (atype := .int) (t := 20) (by decide +kernel) (by decide) w_153 rfl rfl (by decide) (fun _ _ h => h)) <|
  fa1 (ks_put (pc := 27) (ty := tyX10 4) (ci := 10) (f := 4) (idx := 20) (C := RX10) (T := TX10) (NF := 8) (by decide +kernel) rfl (by decide) inG_X10 (by decide) w_478 tyX10 tyX10_ok nmX10 rfl (tyX10_ok 4 (by decide)) fR_arr) <|
  fa1 (ks_aload_n (pc := 30) (kf := 0) (j := 0) (by decide +kernel) rfl) <|
  fa1 (ks_bipush (pc := 31) (n := 20) (v := 20) (by decide +kernel) (by decide +kernel) (p32 rfl)) <|
  fa1 (ks_newa (pc := 33) (atype := .int) (t := 20) (by decide +kernel) (by decide) w_153 rfl rfl (by decide) (fun _ _ h => h)) <|
  fa1 (ks_put (pc := 35) (ty := tyX10 5) (ci := 10) (f := 5) (idx := 23) (C := RX10) (T := TX10) (NF := 8) (by decide +kernel) rfl (by decide) inG_X10 (by decide) w_479 tyX10 tyX10_ok nmX10 rfl (tyX10_ok 5 (by decide)) fR_arr) <|
  fa1 (ks_aload_n (pc := 38) (kf := 0) (j := 0) (by decide +kernel) rfl) <|
  fa1 (ks_aload_n (pc := 39) (kf := 1) (j := 1) (by decide +kernel) rfl) <|
  fa1 (ks_put (pc := 40) (ty := tyX10 0) (ci := 10) (f := 0) (idx := 26) (C := RX10) (T := TX10) (NF := 8) (by decide +kernel) rfl (by decide) inG_X10 (by decide) w_474 tyX10 tyX10_ok nmX10 rfl (tyX10_ok 0 (by decide)) fR_obj) <|
  fa1 (ks_aload_n (pc := 43) (kf := 0) (j := 0) (by decide +kernel) rfl) <|
  fa1 (ks_aload_n (pc := 44) (kf := 2) (j := 2) (by decide +kernel) rfl) <|
  fa1 (ks_put (pc := 45) (ty := tyX10 1) (ci := 10) (f := 1) (idx := 30) (C := RX10) (T := TX10) (NF := 8) (by decide +kernel) rfl (by decide) inG_X10 (by decide) w_475 tyX10 tyX10_ok nmX10 rfl (tyX10_ok 1 (by decide)) fR_obj) <|
  fa1 (ks_ret (pc := 48) (by decide +kernel)) <| fa0
theorem gg_X10_init {G : Wp} {l : Launch} : KGood G l yX10_init cX10_init 3 1 20 f_X10_init := metK_of (fun n0 z0 N Z _ _ h => ks_X10_init G l n0 z0 N Z _ (lkpK_mem h)) (by decide +kernel) rfl rfl
def k_X0_init (N Z : Nat) : List (Nat × KI) := [
  (0, k_aload 1 0),
  (1, k_obj 4),
  (4, k_aload 5 0),
  (5, k_new 8 8 2 [vN, vI 0] N Z),
  (8, k_dup 9),
  (9, k_push 12 (.inl 200)),
  (12, k_call 15 2 8 f_X8_init N Z),
  (15, k_put 18 0 2 isR),
  (18, k_aload 19 0),
  (19, k_new 22 8 2 [vN, vI 0] N Z),
  (22, k_dup 23),
  (23, k_push 26 (.inl 200)),
  (26, k_call 29 2 8 f_X8_init N Z),
  (29, k_put 32 0 3 isR),
  (32, k_aload 33 0),
  (33, k_new 36 8 2 [vN, vI 0] N Z),
  (36, k_dup 37),
  (37, k_push 40 (.inl 200)),
  (40, k_call 43 2 8 f_X8_init N Z),
  (43, k_put 46 0 4 isR),
  (46, k_aload 47 0),
  (47, k_new 50 8 2 [vN, vI 0] N Z),
  (50, k_dup 51),
  (51, k_push 54 (.inl 200)),
  (54, k_call 57 2 8 f_X8_init N Z),
  (57, k_put 60 0 5 isR),
  (60, k_aload 61 0),
  (61, k_new 64 8 2 [vN, vI 0] N Z),
  (64, k_dup 65),
  (65, k_push 68 (.inl 200)),
  (68, k_call 71 2 8 f_X8_init N Z),
  (71, k_put 74 0 6 isR),
  (74, k_aload 75 0),
  (75, k_new 78 8 2 [vN, vI 0] N Z),
  (78, k_dup 79),
  (79, k_push 82 (.inl 200)),
  (82, k_call 85 2 8 f_X8_init N Z),
  (85, k_put 88 0 7 isR),
  (88, k_aload 89 0),
  (89, k_new 92 8 2 [vN, vI 0] N Z),
  (92, k_dup 93),
  (93, k_push 96 (.inl 200)),
  (96, k_call 99 2 8 f_X8_init N Z),
  (99, k_put 102 0 8 isR),
  (102, k_aload 103 0),
  (103, k_push 106 (.inl 200)),
  (106, k_newa 108 20 N Z),
  (108, k_put 111 0 9 isR),
  (111, k_aload 112 0),
  (112, k_aload 113 1),
  (113, k_put 116 0 0 isR),
  (116, k_aload 117 0),
  (117, k_aload 118 2),
  (118, k_put 121 0 1 isR),
  (121, k_ret N Z)]
def f_X0_init : List AV → KS → Option KS := denK 3 (fun N Z => lkpK (k_X0_init N Z)) 15 (fun _ => 1614) 65
set_option maxRecDepth 100000 in
set_option maxHeartbeats 4000000 in
theorem ks_X0_init (G : Wp) (l : Launch) (n0 z0 N Z : Nat) : ∀ e ∈ k_X0_init N Z, SdK G l RX0 cX0_init 3 2 42 n0 z0 N Z e.1 e.2 :=
  fa1 (ks_aload_n (pc := 0) (kf := 0) (j := 0) (by decide +kernel) rfl) <|
  fa1 (ks_obj (pc := 1) (idx := 3) (by decide +kernel) w_504 w_121 w_122 (by decide) (by decide)) <|
  fa1 (ks_aload_n (pc := 4) (kf := 0) (j := 0) (by decide +kernel) rfl) <|
  fa1 (ks_new (pc := 5) (ci := 8) (idx := 9) (C := RX8) (T := TX8) (NF := 2) (by decide +kernel) rfl inG_X8 tyX8 tyX8_ok (by decide +kernel) w_505 w_131 w_102 rfl (by decide)) <|
  fa1 (ks_dup (pc := 8) (by decide +kernel)) <|
  fa1 (ks_sipush (pc := 9) (n := 200) (v := 200) (by decide +kernel) (by decide +kernel) (p32 rfl)) <|
  fa1 (ks_call (pc := 12) (n := 1) (ci := 8) (idx := 13) (y := yX8_init) (by decide +kernel) gg_X8_init (fun _ _ h _ => Or.inl (h _ w_506)) (by decide +kernel) rfl w_133 w_102 w_134 ⟨by decide, by decide⟩) <|
  fa1 (ks_put (pc := 15) (ty := tyX0 2) (ci := 0) (f := 2) (idx := 16) (C := RX0) (T := TX0) (NF := 11) (by decide +kernel) rfl (by decide) inG_X0 (by decide) w_509 tyX0 tyX0_ok nmX0 rfl (tyX0_ok 2 (by decide)) fR_obj) <|
  fa1 (ks_aload_n (pc := 18) (kf := 0) (j := 0) (by decide +kernel) rfl) <|
  fa1 (ks_new (pc := 19) (ci := 8) (idx := 9) (C := RX8) (T := TX8) (NF := 2) (by decide +kernel) rfl inG_X8 tyX8 tyX8_ok (by decide +kernel) w_505 w_131 w_102 rfl (by decide)) <|
  fa1 (ks_dup (pc := 22) (by decide +kernel)) <|
  fa1 (ks_sipush (pc := 23) (n := 200) (v := 200) (by decide +kernel) (by decide +kernel) (p32 rfl)) <|
  fa1 (ks_call (pc := 26) (n := 1) (ci := 8) (idx := 13) (y := yX8_init) (by decide +kernel) gg_X8_init (fun _ _ h _ => Or.inl (h _ w_506)) (by decide +kernel) rfl w_133 w_102 w_134 ⟨by decide, by decide⟩) <|
  fa1 (ks_put (pc := 29) (ty := tyX0 3) (ci := 0) (f := 3) (idx := 20) (C := RX0) (T := TX0) (NF := 11) (by decide +kernel) rfl (by decide) inG_X0 (by decide) w_510 tyX0 tyX0_ok nmX0 rfl (tyX0_ok 3 (by decide)) fR_obj) <|
  fa1 (ks_aload_n (pc := 32) (kf := 0) (j := 0) (by decide +kernel) rfl) <|
  fa1 (ks_new (pc := 33) (ci := 8) (idx := 9) (C := RX8) (T := TX8) (NF := 2) (by decide +kernel) rfl inG_X8 tyX8 tyX8_ok (by decide +kernel) w_505 w_131 w_102 rfl (by decide)) <|
  fa1 (ks_dup (pc := 36) (by decide +kernel)) <|
  fa1 (ks_sipush (pc := 37) (n := 200) (v := 200) (by decide +kernel) (by decide +kernel) (p32 rfl)) <|
  fa1 (ks_call (pc := 40) (n := 1) (ci := 8) (idx := 13) (y := yX8_init) (by decide +kernel) gg_X8_init (fun _ _ h _ => Or.inl (h _ w_506)) (by decide +kernel) rfl w_133 w_102 w_134 ⟨by decide, by decide⟩) <|
  fa1 (ks_put (pc := 43) (ty := tyX0 4) (ci := 0) (f := 4) (idx := 23) (C := RX0) (T := TX0) (NF := 11) (by decide +kernel) rfl (by decide) inG_X0 (by decide) w_511 tyX0 tyX0_ok nmX0 rfl (tyX0_ok 4 (by decide)) fR_obj) <|
  fa1 (ks_aload_n (pc := 46) (kf := 0) (j := 0) (by decide +kernel) rfl) <|
  fa1 (ks_new (pc := 47) (ci := 8) (idx := 9) (C := RX8) (T := TX8) (NF := 2) (by decide +kernel) rfl inG_X8 tyX8 tyX8_ok (by decide +kernel) w_505 w_131 w_102 rfl (by decide)) <|
  fa1 (ks_dup (pc := 50) (by decide +kernel)) <|
  fa1 (ks_sipush (pc := 51) (n := 200) (v := 200) (by decide +kernel) (by decide +kernel) (p32 rfl)) <|
  fa1 (ks_call (pc := 54) (n := 1) (ci := 8) (idx := 13) (y := yX8_init) (by decide +kernel) gg_X8_init (fun _ _ h _ => Or.inl (h _ w_506)) (by decide +kernel) rfl w_133 w_102 w_134 ⟨by decide, by decide⟩) <|
  fa1 (ks_put (pc := 57) (ty := tyX0 5) (ci := 0) (f := 5) (idx := 26) (C := RX0) (T := TX0) (NF := 11) (by decide +kernel) rfl (by decide) inG_X0 (by decide) w_512 tyX0 tyX0_ok nmX0 rfl (tyX0_ok 5 (by decide)) fR_obj) <|
  fa1 (ks_aload_n (pc := 60) (kf := 0) (j := 0) (by decide +kernel) rfl) <|
  fa1 (ks_new (pc := 61) (ci := 8) (idx := 9) (C := RX8) (T := TX8) (NF := 2) (by decide +kernel) rfl inG_X8 tyX8 tyX8_ok (by decide +kernel) w_505 w_131 w_102 rfl (by decide)) <|
  fa1 (ks_dup (pc := 64) (by decide +kernel)) <|
  fa1 (ks_sipush (pc := 65) (n := 200) (v := 200) (by decide +kernel) (by decide +kernel) (p32 rfl)) <|
  fa1 (ks_call (pc := 68) (n := 1) (ci := 8) (idx := 13) (y := yX8_init) (by decide +kernel) gg_X8_init (fun _ _ h _ => Or.inl (h _ w_506)) (by decide +kernel) rfl w_133 w_102 w_134 ⟨by decide, by decide⟩) <|
  fa1 (ks_put (pc := 71) (ty := tyX0 6) (ci := 0) (f := 6) (idx := 29) (C := RX0) (T := TX0) (NF := 11) (by decide +kernel) rfl (by decide) inG_X0 (by decide) w_513 tyX0 tyX0_ok nmX0 rfl (tyX0_ok 6 (by decide)) fR_obj) <|
  fa1 (ks_aload_n (pc := 74) (kf := 0) (j := 0) (by decide +kernel) rfl) <|
  fa1 (ks_new (pc := 75) (ci := 8) (idx := 9) (C := RX8) (T := TX8) (NF := 2) (by decide +kernel) rfl inG_X8 tyX8 tyX8_ok (by decide +kernel) w_505 w_131 w_102 rfl (by decide)) <|
  fa1 (ks_dup (pc := 78) (by decide +kernel)) <|
  fa1 (ks_sipush (pc := 79) (n := 200) (v := 200) (by decide +kernel) (by decide +kernel) (p32 rfl)) <|
  fa1 (ks_call (pc := 82) (n := 1) (ci := 8) (idx := 13) (y := yX8_init) (by decide +kernel) gg_X8_init (fun _ _ h _ => Or.inl (h _ w_506)) (by decide +kernel) rfl w_133 w_102 w_134 ⟨by decide, by decide⟩) <|
  fa1 (ks_put (pc := 85) (ty := tyX0 7) (ci := 0) (f := 7) (idx := 32) (C := RX0) (T := TX0) (NF := 11) (by decide +kernel) rfl (by decide) inG_X0 (by decide) w_514 tyX0 tyX0_ok nmX0 rfl (tyX0_ok 7 (by decide)) fR_obj) <|
  fa1 (ks_aload_n (pc := 88) (kf := 0) (j := 0) (by decide +kernel) rfl) <|
  fa1 (ks_new (pc := 89) (ci := 8) (idx := 9) (C := RX8) (T := TX8) (NF := 2) (by decide +kernel) rfl inG_X8 tyX8 tyX8_ok (by decide +kernel) w_505 w_131 w_102 rfl (by decide)) <|
  fa1 (ks_dup (pc := 92) (by decide +kernel)) <|
  fa1 (ks_sipush (pc := 93) (n := 200) (v := 200) (by decide +kernel) (by decide +kernel) (p32 rfl)) <|
  fa1 (ks_call (pc := 96) (n := 1) (ci := 8) (idx := 13) (y := yX8_init) (by decide +kernel) gg_X8_init (fun _ _ h _ => Or.inl (h _ w_506)) (by decide +kernel) rfl w_133 w_102 w_134 ⟨by decide, by decide⟩) <|
  fa1 (ks_put (pc := 99) (ty := tyX0 8) (ci := 0) (f := 8) (idx := 35) (C := RX0) (T := TX0) (NF := 11) (by decide +kernel) rfl (by decide) inG_X0 (by decide) w_515 tyX0 tyX0_ok nmX0 rfl (tyX0_ok 8 (by decide)) fR_obj) <|
  fa1 (ks_aload_n (pc := 102) (kf := 0) (j := 0) (by decide +kernel) rfl) <|
  fa1 (ks_sipush (pc := 103) (n := 200) (v := 200) (by decide +kernel) (by decide +kernel) (p32 rfl)) <|
  fa1 (ks_newa (pc := 106) (atype := .int) (t := 20) (by decide +kernel) (by decide) w_153 rfl rfl (by decide) (fun _ _ h => h)) <|
  fa1 (ks_put (pc := 108) (ty := tyX0 9) (ci := 0) (f := 9) (idx := 38) (C := RX0) (T := TX0) (NF := 11) (by decide +kernel) rfl (by decide) inG_X0 (by decide) w_516 tyX0 tyX0_ok nmX0 rfl (tyX0_ok 9 (by decide)) fR_arr) <|
  fa1 (ks_aload_n (pc := 111) (kf := 0) (j := 0) (by decide +kernel) rfl) <|
  fa1 (ks_aload_n (pc := 112) (kf := 1) (j := 1) (by decide +kernel) rfl) <|
  fa1 (ks_put (pc := 113) (ty := tyX0 0) (ci := 0) (f := 0) (idx := 42) (C := RX0) (T := TX0) (NF := 11) (by decide +kernel) rfl (by decide) inG_X0 (by decide) w_507 tyX0 tyX0_ok nmX0 rfl (tyX0_ok 0 (by decide)) fR_obj) <|
  fa1 (ks_aload_n (pc := 116) (kf := 0) (j := 0) (by decide +kernel) rfl) <|
  fa1 (ks_aload_n (pc := 117) (kf := 2) (j := 2) (by decide +kernel) rfl) <|
  fa1 (ks_put (pc := 118) (ty := tyX0 1) (ci := 0) (f := 1) (idx := 46) (C := RX0) (T := TX0) (NF := 11) (by decide +kernel) rfl (by decide) inG_X0 (by decide) w_508 tyX0 tyX0_ok nmX0 rfl (tyX0_ok 1 (by decide)) fR_obj) <|
  fa1 (ks_ret (pc := 121) (by decide +kernel)) <| fa0
theorem gg_X0_init {G : Wp} {l : Launch} : KGood G l yX0_init cX0_init 3 2 42 f_X0_init := metK_of (fun n0 z0 N Z _ _ h => ks_X0_init G l n0 z0 N Z _ (lkpK_mem h)) (by decide +kernel) rfl rfl
def k_X5_init (N Z : Nat) : List (Nat × KI) := [
  (0, k_aload 1 0),
  (1, k_obj 4),
  (4, k_aload 5 0),
  (5, k_push 6 (.inl 4)),
  (6, k_push 8 (.inl 90)),
  (8, k_mna 12 N Z),
  (12, k_put 15 5 0 isR),
  (15, k_aload 16 0),
  (16, k_push 17 (.inl 4)),
  (17, k_newa 19 20 N Z),
  (19, k_put 22 5 1 isR),
  (22, k_aload 23 0),
  (23, k_push 24 (.inl 4)),
  (24, k_newa 26 20 N Z),
  (26, k_put 29 5 2 isR),
  (29, k_push 30 (.inl 0)),
  (30, k_istore 31 1),
  (31, k_iload 32 1),
  (32, k_push 33 (.inl 4)),
  (33, k_cmpge 36 50),
  (36, k_aload 37 0),
  (37, k_get 40 5 2),
  (40, k_iload 41 1),
  (41, k_push 43 (.inl (-4))),
  (43, k_iast 44),
  (44, k_iinc 47 1 (1)),
  (47, k_goto 31),
  (50, k_ret N Z)]
def f_X5_init : List AV → KS → Option KS := denK 2 (fun N Z => lkpK (k_X5_init N Z)) 7 (fun _ => 372) 71
set_option maxRecDepth 100000 in
set_option maxHeartbeats 4000000 in
theorem ks_X5_init (G : Wp) (l : Launch) (n0 z0 N Z : Nat) : ∀ e ∈ k_X5_init N Z, SdK G l RX5 cX5_init 2 1 20 n0 z0 N Z e.1 e.2 :=
  fa1 (ks_aload_n (pc := 0) (kf := 0) (j := 0) (by decide +kernel) rfl) <|
  fa1 (ks_obj (pc := 1) (idx := 3) (by decide +kernel) w_546 w_121 w_122 (by decide) (by decide)) <|
  fa1 (ks_aload_n (pc := 4) (kf := 0) (j := 0) (by decide +kernel) rfl) <|
  fa1 (ks_iconst (pc := 5) (n := 4) (v := 4) (by decide +kernel) (by decide +kernel) (p32 rfl)) <|
  fa1 (ks_bipush (pc := 6) (n := 90) (v := 90) (by decide +kernel) (by decide +kernel) (p32 rfl)) <|
  fa1 (ks_mna (pc := 8) (idx := 11) (by decide +kernel) w_547) <|
  fa1 (ks_put (pc := 12) (ty := tyX5 0) (ci := 5) (f := 0) (idx := 13) (C := RX5) (T := TX5) (NF := 3) (by decide +kernel) rfl (by decide) inG_X5 (by decide) w_548 tyX5 tyX5_ok nmX5 rfl (tyX5_ok 0 (by decide)) fR_arr) <|
  fa1 (ks_aload_n (pc := 15) (kf := 0) (j := 0) (by decide +kernel) rfl) <|
  fa1 (ks_iconst (pc := 16) (n := 4) (v := 4) (by decide +kernel) (by decide +kernel) (p32 rfl)) <|
  fa1 (ks_newa (pc := 17) (atype := .int) (t := 20) (by decide +kernel) (by decide) w_153 rfl rfl (by decide) (fun _ _ h => h)) <|
  fa1 (ks_put (pc := 19) (ty := tyX5 1) (ci := 5) (f := 1) (idx := 16) (C := RX5) (T := TX5) (NF := 3) (by decide +kernel) rfl (by decide) inG_X5 (by decide) w_549 tyX5 tyX5_ok nmX5 rfl (tyX5_ok 1 (by decide)) fR_arr) <|
  fa1 (ks_aload_n (pc := 22) (kf := 0) (j := 0) (by decide +kernel) rfl) <|
  fa1 (ks_iconst (pc := 23) (n := 4) (v := 4) (by decide +kernel) (by decide +kernel) (p32 rfl)) <|
  fa1 (ks_newa (pc := 24) (atype := .int) (t := 20) (by decide +kernel) (by decide) w_153 rfl rfl (by decide) (fun _ _ h => h)) <|
  fa1 (ks_put (pc := 26) (ty := tyX5 2) (ci := 5) (f := 2) (idx := 20) (C := RX5) (T := TX5) (NF := 3) (by decide +kernel) rfl (by decide) inG_X5 (by decide) w_550 tyX5 tyX5_ok nmX5 rfl (tyX5_ok 2 (by decide)) fR_arr) <|
  fa1 (ks_iconst (pc := 29) (n := 0) (v := 0) (by decide +kernel) (by decide +kernel) (p32 rfl)) <|
  fa1 (ks_istore_n (pc := 30) (kf := 1) (j := 1) (by decide +kernel) rfl (by decide)) <|
  fa1 (ks_iload_n (pc := 31) (kf := 1) (j := 1) (by decide +kernel) rfl) <|
  fa1 (ks_iconst (pc := 32) (n := 4) (v := 4) (by decide +kernel) (by decide +kernel) (p32 rfl)) <|
  fa1 (ks_cmpge (pc := 33) (off := 17) (by decide +kernel) (by decide)) <|
  fa1 (ks_aload_n (pc := 36) (kf := 0) (j := 0) (by decide +kernel) rfl) <|
  fa1 (ks_get (pc := 37) (ci := 5) (f := 2) (idx := 20) (C := RX5) (T := TX5) (NF := 3) (by decide +kernel) rfl (by decide) inG_X5 (by decide) w_550) <|
  fa1 (ks_iload_n (pc := 40) (kf := 1) (j := 1) (by decide +kernel) rfl) <|
  fa1 (ks_bipush (pc := 41) (n := -4) (v := -4) (by decide +kernel) (by decide +kernel) (p32 rfl)) <|
  fa1 (ks_iast (pc := 43) (by decide +kernel)) <|
  fa1 (ks_iinc (pc := 44) (j := 1) (d := 1) (by decide +kernel) (by decide)) <|
  fa1 (ks_goto (pc := 47) (off := -16) (by decide +kernel) (by decide)) <|
  fa1 (ks_ret (pc := 50) (by decide +kernel)) <| fa0
theorem gg_X5_init {G : Wp} {l : Launch} : KGood G l yX5_init cX5_init 2 1 20 f_X5_init := metK_of (fun n0 z0 N Z _ _ h => ks_X5_init G l n0 z0 N Z _ (lkpK_mem h)) (by decide +kernel) rfl rfl
def k_X11_init (N Z : Nat) : List (Nat × KI) := [
  (0, k_aload 1 0),
  (1, k_obj 4),
  (4, k_aload 5 0),
  (5, k_new 8 9 6 [vN, vN, vN, vN, vN, vI 0] N Z),
  (8, k_dup 9),
  (9, k_call 12 1 9 f_X9_init N Z),
  (12, k_put 15 11 0 isR),
  (15, k_aload 16 0),
  (16, k_new 19 3 11 [vN, vN, vN, vN, vN, vN, vN, vI 0, vI 0, vI 0, vI 0] N Z),
  (19, k_dup 20),
  (20, k_call 23 1 3 f_X3_init N Z),
  (23, k_put 26 11 1 isR),
  (26, k_aload 27 0),
  (27, k_new 30 7 10 [vN, vN, vN, vN, vN, vI 0, vI 0, vI 0, vI 0, vI 0] N Z),
  (30, k_dup 31),
  (31, k_aload 32 0),
  (32, k_get 35 11 0),
  (35, k_aload 36 0),
  (36, k_get 39 11 1),
  (39, k_call 42 3 7 f_X7_init N Z),
  (42, k_put 45 11 2 isR),
  (45, k_new 48 6 7 [vN, vN, vN, vN, vN, vN, vI 0] N Z),
  (48, k_dup 49),
  (49, k_aload 50 0),
  (50, k_get 53 11 0),
  (53, k_aload 54 0),
  (54, k_get 57 11 1),
  (57, k_call 60 3 6 f_X6_init N Z),
  (60, k_astore 61 1),
  (61, k_aload 62 0),
  (62, k_new 65 1 9 [vN, vN, vN, vN, vN, vN, vN, vI 0, vI 0] N Z),
  (65, k_dup 66),
  (66, k_aload 67 1),
  (67, k_aload 68 0),
  (68, k_get 71 11 1),
  (71, k_call 74 3 1 f_X1_init N Z),
  (74, k_put 77 11 3 isR),
  (77, k_aload 78 0),
  (78, k_new 81 1 9 [vN, vN, vN, vN, vN, vN, vN, vI 0, vI 0] N Z),
  (81, k_dup 82),
  (82, k_aload 83 1),
  (83, k_aload 84 0),
  (84, k_get 87 11 1),
  (87, k_call 90 3 1 f_X1_init N Z),
  (90, k_put 93 11 4 isR),
  (93, k_aload 94 0),
  (94, k_new 97 4 18 [vN, vN, vN, vN, vN, vN, vN, vN, vN, vN, vN, vN, vN, vI 0, vI 0, vI 0, vI 0, vI 0] N Z),
  (97, k_dup 98),
  (98, k_aload 99 0),
  (99, k_get 102 11 0),
  (102, k_aload 103 0),
  (103, k_get 106 11 1),
  (106, k_aload 107 1),
  (107, k_call 110 4 4 f_X4_init N Z),
  (110, k_put 113 11 5 isR),
  (113, k_aload 114 0),
  (114, k_new 117 10 8 [vN, vN, vN, vN, vN, vN, vI 0, vI 0] N Z),
  (117, k_dup 118),
  (118, k_aload 119 0),
  (119, k_get 122 11 0),
  (122, k_aload 123 0),
  (123, k_get 126 11 1),
  (126, k_call 129 3 10 f_X10_init N Z),
  (129, k_put 132 11 6 isR),
  (132, k_aload 133 0),
  (133, k_new 136 0 11 [vN, vN, vN, vN, vN, vN, vN, vN, vN, vN, vI 0] N Z),
  (136, k_dup 137),
  (137, k_aload 138 0),
  (138, k_get 141 11 0),
  (141, k_aload 142 0),
  (142, k_get 145 11 1),
  (145, k_call 148 3 0 f_X0_init N Z),
  (148, k_put 151 11 7 isR),
  (151, k_aload 152 0),
  (152, k_new 155 5 3 [vN, vN, vN] N Z),
  (155, k_dup 156),
  (156, k_call 159 1 5 f_X5_init N Z),
  (159, k_put 162 11 8 isR),
  (162, k_aload 163 0),
  (163, k_push 164 (.inl 0)),
  (164, k_put 167 11 9 isI),
  (167, k_aload 168 0),
  (168, k_push 169 (.inl 0)),
  (169, k_put 172 11 10 isI),
  (172, k_ret N Z)]
def f_X11_init : List AV → KS → Option KS := denK 2 (fun N Z => lkpK (k_X11_init N Z)) 803 (fun _ => 14480) 95
set_option maxRecDepth 100000 in
set_option maxHeartbeats 4000000 in
theorem ks_X11_init (G : Wp) (l : Launch) (n0 z0 N Z : Nat) : ∀ e ∈ k_X11_init N Z, SdK G l RX11 cX11_init 2 4 83 n0 z0 N Z e.1 e.2 :=
  fa1 (ks_aload_n (pc := 0) (kf := 0) (j := 0) (by decide +kernel) rfl) <|
  fa1 (ks_obj (pc := 1) (idx := 1) (by decide +kernel) w_120 w_121 w_122 (by decide) (by decide)) <|
  fa1 (ks_aload_n (pc := 4) (kf := 0) (j := 0) (by decide +kernel) rfl) <|
  fa1 (ks_new (pc := 5) (ci := 9) (idx := 7) (C := RX9) (T := TX9) (NF := 6) (by decide +kernel) rfl inG_X9 tyX9 tyX9_ok (by decide +kernel) w_123 w_124 w_101 rfl (by decide)) <|
  fa1 (ks_dup (pc := 8) (by decide +kernel)) <|
  fa1 (ks_call (pc := 9) (n := 0) (ci := 9) (idx := 9) (y := yX9_init) (by decide +kernel) gg_X9_init (fun _ _ h _ => Or.inl (h _ w_125)) (by decide +kernel) rfl w_126 w_101 w_127 ⟨by decide, by decide⟩) <|
  fa1 (ks_put (pc := 12) (ty := tyX11 0) (ci := 11) (f := 0) (idx := 10) (C := RX11) (T := TX11) (NF := 11) (by decide +kernel) rfl (by decide) inG_X11 (by decide) w_558 tyX11 tyX11_ok nmX11 rfl (tyX11_ok 0 (by decide)) fR_obj) <|
  fa1 (ks_aload_n (pc := 15) (kf := 0) (j := 0) (by decide +kernel) rfl) <|
  fa1 (ks_new (pc := 16) (ci := 3) (idx := 16) (C := RX3) (T := TX3) (NF := 11) (by decide +kernel) rfl inG_X3 tyX3 tyX3_ok (by decide +kernel) w_178 w_179 w_104 rfl (by decide)) <|
  fa1 (ks_dup (pc := 19) (by decide +kernel)) <|
  fa1 (ks_call (pc := 20) (n := 0) (ci := 3) (idx := 18) (y := yX3_init) (by decide +kernel) gg_X3_init (fun _ _ h _ => Or.inl (h _ w_180)) (by decide +kernel) rfl w_181 w_104 w_182 ⟨by decide, by decide⟩) <|
  fa1 (ks_put (pc := 23) (ty := tyX11 1) (ci := 11) (f := 1) (idx := 19) (C := RX11) (T := TX11) (NF := 11) (by decide +kernel) rfl (by decide) inG_X11 (by decide) w_559 tyX11 tyX11_ok nmX11 rfl (tyX11_ok 1 (by decide)) fR_obj) <|
  fa1 (ks_aload_n (pc := 26) (kf := 0) (j := 0) (by decide +kernel) rfl) <|
  fa1 (ks_new (pc := 27) (ci := 7) (idx := 23) (C := RX7) (T := TX7) (NF := 10) (by decide +kernel) rfl inG_X7 tyX7 tyX7_ok (by decide +kernel) w_290 w_291 w_106 rfl (by decide)) <|
  fa1 (ks_dup (pc := 30) (by decide +kernel)) <|
  fa1 (ks_aload_n (pc := 31) (kf := 0) (j := 0) (by decide +kernel) rfl) <|
  fa1 (ks_get (pc := 32) (ci := 11) (f := 0) (idx := 10) (C := RX11) (T := TX11) (NF := 11) (by decide +kernel) rfl (by decide) inG_X11 (by decide) w_558) <|
  fa1 (ks_aload_n (pc := 35) (kf := 0) (j := 0) (by decide +kernel) rfl) <|
  fa1 (ks_get (pc := 36) (ci := 11) (f := 1) (idx := 19) (C := RX11) (T := TX11) (NF := 11) (by decide +kernel) rfl (by decide) inG_X11 (by decide) w_559) <|
  fa1 (ks_call (pc := 39) (n := 2) (ci := 7) (idx := 25) (y := yX7_init) (by decide +kernel) gg_X7_init (fun _ _ h _ => Or.inl (h _ w_292)) (by decide +kernel) rfl w_293 w_106 w_294 ⟨by decide, by decide⟩) <|
  fa1 (ks_put (pc := 42) (ty := tyX11 2) (ci := 11) (f := 2) (idx := 28) (C := RX11) (T := TX11) (NF := 11) (by decide +kernel) rfl (by decide) inG_X11 (by decide) w_560 tyX11 tyX11_ok nmX11 rfl (tyX11_ok 2 (by decide)) fR_obj) <|
  fa1 (ks_new (pc := 45) (ci := 6) (idx := 32) (C := RX6) (T := TX6) (NF := 7) (by decide +kernel) rfl inG_X6 tyX6 tyX6_ok (by decide +kernel) w_331 w_332 w_107 rfl (by decide)) <|
  fa1 (ks_dup (pc := 48) (by decide +kernel)) <|
  fa1 (ks_aload_n (pc := 49) (kf := 0) (j := 0) (by decide +kernel) rfl) <|
  fa1 (ks_get (pc := 50) (ci := 11) (f := 0) (idx := 10) (C := RX11) (T := TX11) (NF := 11) (by decide +kernel) rfl (by decide) inG_X11 (by decide) w_558) <|
  fa1 (ks_aload_n (pc := 53) (kf := 0) (j := 0) (by decide +kernel) rfl) <|
  fa1 (ks_get (pc := 54) (ci := 11) (f := 1) (idx := 19) (C := RX11) (T := TX11) (NF := 11) (by decide +kernel) rfl (by decide) inG_X11 (by decide) w_559) <|
  fa1 (ks_call (pc := 57) (n := 2) (ci := 6) (idx := 34) (y := yX6_init) (by decide +kernel) gg_X6_init (fun _ _ h _ => Or.inl (h _ w_333)) (by decide +kernel) rfl w_334 w_107 w_335 ⟨by decide, by decide⟩) <|
  fa1 (ks_astore_n (pc := 60) (kf := 1) (j := 1) (by decide +kernel) rfl (by decide)) <|
  fa1 (ks_aload_n (pc := 61) (kf := 0) (j := 0) (by decide +kernel) rfl) <|
  fa1 (ks_new (pc := 62) (ci := 1) (idx := 35) (C := RX1) (T := TX1) (NF := 9) (by decide +kernel) rfl inG_X1 tyX1 tyX1_ok (by decide +kernel) w_362 w_363 w_108 rfl (by decide)) <|
  fa1 (ks_dup (pc := 65) (by decide +kernel)) <|
  fa1 (ks_aload_n (pc := 66) (kf := 1) (j := 1) (by decide +kernel) rfl) <|
  fa1 (ks_aload_n (pc := 67) (kf := 0) (j := 0) (by decide +kernel) rfl) <|
  fa1 (ks_get (pc := 68) (ci := 11) (f := 1) (idx := 19) (C := RX11) (T := TX11) (NF := 11) (by decide +kernel) rfl (by decide) inG_X11 (by decide) w_559) <|
  fa1 (ks_call (pc := 71) (n := 2) (ci := 1) (idx := 37) (y := yX1_init) (by decide +kernel) gg_X1_init (fun _ _ h _ => Or.inl (h _ w_364)) (by decide +kernel) rfl w_365 w_108 w_366 ⟨by decide, by decide⟩) <|
  fa1 (ks_put (pc := 74) (ty := tyX11 3) (ci := 11) (f := 3) (idx := 40) (C := RX11) (T := TX11) (NF := 11) (by decide +kernel) rfl (by decide) inG_X11 (by decide) w_561 tyX11 tyX11_ok nmX11 rfl (tyX11_ok 3 (by decide)) fR_obj) <|
  fa1 (ks_aload_n (pc := 77) (kf := 0) (j := 0) (by decide +kernel) rfl) <|
  fa1 (ks_new (pc := 78) (ci := 1) (idx := 35) (C := RX1) (T := TX1) (NF := 9) (by decide +kernel) rfl inG_X1 tyX1 tyX1_ok (by decide +kernel) w_362 w_363 w_108 rfl (by decide)) <|
  fa1 (ks_dup (pc := 81) (by decide +kernel)) <|
  fa1 (ks_aload_n (pc := 82) (kf := 1) (j := 1) (by decide +kernel) rfl) <|
  fa1 (ks_aload_n (pc := 83) (kf := 0) (j := 0) (by decide +kernel) rfl) <|
  fa1 (ks_get (pc := 84) (ci := 11) (f := 1) (idx := 19) (C := RX11) (T := TX11) (NF := 11) (by decide +kernel) rfl (by decide) inG_X11 (by decide) w_559) <|
  fa1 (ks_call (pc := 87) (n := 2) (ci := 1) (idx := 37) (y := yX1_init) (by decide +kernel) gg_X1_init (fun _ _ h _ => Or.inl (h _ w_364)) (by decide +kernel) rfl w_365 w_108 w_366 ⟨by decide, by decide⟩) <|
  fa1 (ks_put (pc := 90) (ty := tyX11 4) (ci := 11) (f := 4) (idx := 44) (C := RX11) (T := TX11) (NF := 11) (by decide +kernel) rfl (by decide) inG_X11 (by decide) w_562 tyX11 tyX11_ok nmX11 rfl (tyX11_ok 4 (by decide)) fR_obj) <|
  fa1 (ks_aload_n (pc := 93) (kf := 0) (j := 0) (by decide +kernel) rfl) <|
  fa1 (ks_new (pc := 94) (ci := 4) (idx := 47) (C := RX4) (T := TX4) (NF := 18) (by decide +kernel) rfl inG_X4 tyX4 tyX4_ok (by decide +kernel) w_402 w_403 w_109 rfl (by decide)) <|
  fa1 (ks_dup (pc := 97) (by decide +kernel)) <|
  fa1 (ks_aload_n (pc := 98) (kf := 0) (j := 0) (by decide +kernel) rfl) <|
  fa1 (ks_get (pc := 99) (ci := 11) (f := 0) (idx := 10) (C := RX11) (T := TX11) (NF := 11) (by decide +kernel) rfl (by decide) inG_X11 (by decide) w_558) <|
  fa1 (ks_aload_n (pc := 102) (kf := 0) (j := 0) (by decide +kernel) rfl) <|
  fa1 (ks_get (pc := 103) (ci := 11) (f := 1) (idx := 19) (C := RX11) (T := TX11) (NF := 11) (by decide +kernel) rfl (by decide) inG_X11 (by decide) w_559) <|
  fa1 (ks_aload_n (pc := 106) (kf := 1) (j := 1) (by decide +kernel) rfl) <|
  fa1 (ks_call (pc := 107) (n := 3) (ci := 4) (idx := 49) (y := yX4_init) (by decide +kernel) gg_X4_init (fun _ _ h _ => Or.inl (h _ w_404)) (by decide +kernel) rfl w_405 w_109 w_406 ⟨by decide, by decide⟩) <|
  fa1 (ks_put (pc := 110) (ty := tyX11 5) (ci := 11) (f := 5) (idx := 52) (C := RX11) (T := TX11) (NF := 11) (by decide +kernel) rfl (by decide) inG_X11 (by decide) w_563 tyX11 tyX11_ok nmX11 rfl (tyX11_ok 5 (by decide)) fR_obj) <|
  fa1 (ks_aload_n (pc := 113) (kf := 0) (j := 0) (by decide +kernel) rfl) <|
  fa1 (ks_new (pc := 114) (ci := 10) (idx := 56) (C := RX10) (T := TX10) (NF := 8) (by decide +kernel) rfl inG_X10 tyX10 tyX10_ok (by decide +kernel) w_466 w_467 w_110 rfl (by decide)) <|
  fa1 (ks_dup (pc := 117) (by decide +kernel)) <|
  fa1 (ks_aload_n (pc := 118) (kf := 0) (j := 0) (by decide +kernel) rfl) <|
  fa1 (ks_get (pc := 119) (ci := 11) (f := 0) (idx := 10) (C := RX11) (T := TX11) (NF := 11) (by decide +kernel) rfl (by decide) inG_X11 (by decide) w_558) <|
  fa1 (ks_aload_n (pc := 122) (kf := 0) (j := 0) (by decide +kernel) rfl) <|
  fa1 (ks_get (pc := 123) (ci := 11) (f := 1) (idx := 19) (C := RX11) (T := TX11) (NF := 11) (by decide +kernel) rfl (by decide) inG_X11 (by decide) w_559) <|
  fa1 (ks_call (pc := 126) (n := 2) (ci := 10) (idx := 58) (y := yX10_init) (by decide +kernel) gg_X10_init (fun _ _ h _ => Or.inl (h _ w_468)) (by decide +kernel) rfl w_469 w_110 w_470 ⟨by decide, by decide⟩) <|
  fa1 (ks_put (pc := 129) (ty := tyX11 6) (ci := 11) (f := 6) (idx := 59) (C := RX11) (T := TX11) (NF := 11) (by decide +kernel) rfl (by decide) inG_X11 (by decide) w_564 tyX11 tyX11_ok nmX11 rfl (tyX11_ok 6 (by decide)) fR_obj) <|
  fa1 (ks_aload_n (pc := 132) (kf := 0) (j := 0) (by decide +kernel) rfl) <|
  fa1 (ks_new (pc := 133) (ci := 0) (idx := 63) (C := RX0) (T := TX0) (NF := 11) (by decide +kernel) rfl inG_X0 tyX0 tyX0_ok (by decide +kernel) w_499 w_500 w_111 rfl (by decide)) <|
  fa1 (ks_dup (pc := 136) (by decide +kernel)) <|
  fa1 (ks_aload_n (pc := 137) (kf := 0) (j := 0) (by decide +kernel) rfl) <|
  fa1 (ks_get (pc := 138) (ci := 11) (f := 0) (idx := 10) (C := RX11) (T := TX11) (NF := 11) (by decide +kernel) rfl (by decide) inG_X11 (by decide) w_558) <|
  fa1 (ks_aload_n (pc := 141) (kf := 0) (j := 0) (by decide +kernel) rfl) <|
  fa1 (ks_get (pc := 142) (ci := 11) (f := 1) (idx := 19) (C := RX11) (T := TX11) (NF := 11) (by decide +kernel) rfl (by decide) inG_X11 (by decide) w_559) <|
  fa1 (ks_call (pc := 145) (n := 2) (ci := 0) (idx := 65) (y := yX0_init) (by decide +kernel) gg_X0_init (fun _ _ h _ => Or.inl (h _ w_501)) (by decide +kernel) rfl w_502 w_111 w_503 ⟨by decide, by decide⟩) <|
  fa1 (ks_put (pc := 148) (ty := tyX11 7) (ci := 11) (f := 7) (idx := 66) (C := RX11) (T := TX11) (NF := 11) (by decide +kernel) rfl (by decide) inG_X11 (by decide) w_565 tyX11 tyX11_ok nmX11 rfl (tyX11_ok 7 (by decide)) fR_obj) <|
  fa1 (ks_aload_n (pc := 151) (kf := 0) (j := 0) (by decide +kernel) rfl) <|
  fa1 (ks_new (pc := 152) (ci := 5) (idx := 70) (C := RX5) (T := TX5) (NF := 3) (by decide +kernel) rfl inG_X5 tyX5 tyX5_ok (by decide +kernel) w_541 w_542 w_112 rfl (by decide)) <|
  fa1 (ks_dup (pc := 155) (by decide +kernel)) <|
  fa1 (ks_call (pc := 156) (n := 0) (ci := 5) (idx := 72) (y := yX5_init) (by decide +kernel) gg_X5_init (fun _ _ h _ => Or.inl (h _ w_543)) (by decide +kernel) rfl w_544 w_112 w_545 ⟨by decide, by decide⟩) <|
  fa1 (ks_put (pc := 159) (ty := tyX11 8) (ci := 11) (f := 8) (idx := 73) (C := RX11) (T := TX11) (NF := 11) (by decide +kernel) rfl (by decide) inG_X11 (by decide) w_566 tyX11 tyX11_ok nmX11 rfl (tyX11_ok 8 (by decide)) fR_obj) <|
  fa1 (ks_aload_n (pc := 162) (kf := 0) (j := 0) (by decide +kernel) rfl) <|
  fa1 (ks_iconst (pc := 163) (n := 0) (v := 0) (by decide +kernel) (by decide +kernel) (p32 rfl)) <|
  fa1 (ks_put (pc := 164) (ty := tyX11 9) (ci := 11) (f := 9) (idx := 77) (C := RX11) (T := TX11) (NF := 11) (by decide +kernel) rfl (by decide) inG_X11 (by decide) w_567 tyX11 tyX11_ok nmX11 rfl (tyX11_ok 9 (by decide)) fI_int) <|
  fa1 (ks_aload_n (pc := 167) (kf := 0) (j := 0) (by decide +kernel) rfl) <|
  fa1 (ks_iconst (pc := 168) (n := 0) (v := 0) (by decide +kernel) (by decide +kernel) (p32 rfl)) <|
  fa1 (ks_put (pc := 169) (ty := tyX11 10) (ci := 11) (f := 10) (idx := 81) (C := RX11) (T := TX11) (NF := 11) (by decide +kernel) rfl (by decide) inG_X11 (by decide) w_568 tyX11 tyX11_ok nmX11 rfl (tyX11_ok 10 (by decide)) fI_int) <|
  fa1 (ks_ret (pc := 172) (by decide +kernel)) <| fa0
theorem gg_X11_init {G : Wp} {l : Launch} : KGood G l yX11_init cX11_init 2 4 83 f_X11_init := metK_of (fun n0 z0 N Z _ _ h => ks_X11_init G l n0 z0 N Z _ (lkpK_mem h)) (by decide +kernel) rfl rfl
def k_X12_init (N Z : Nat) : List (Nat × KI) := [
  (0, k_aload 1 0),
  (1, k_obj 4),
  (4, k_aload 5 0),
  (5, k_push 6 (.inl 4)),
  (6, k_newa 8 20 N Z),
  (8, k_put 11 12 1 isR),
  (11, k_aload 12 0),
  (12, k_push 13 (.inl 4)),
  (13, k_newa 15 20 N Z),
  (15, k_put 18 12 2 isR),
  (18, k_aload 19 0),
  (19, k_push 20 (.inl 4)),
  (20, k_newa 22 20 N Z),
  (22, k_put 25 12 3 isR),
  (25, k_aload 26 0),
  (26, k_push 28 (.inl 80)),
  (28, k_newa 30 20 N Z),
  (30, k_put 33 12 4 isR),
  (33, k_aload 34 0),
  (34, k_push 37 (.inl 960)),
  (37, k_newa 39 20 N Z),
  (39, k_put 42 12 6 isR),
  (42, k_aload 43 0),
  (43, k_push 45 (.inl 48)),
  (45, k_newa 47 20 N Z),
  (47, k_put 50 12 7 isR),
  (50, k_aload 51 0),
  (51, k_push 53 (.inl 24)),
  (53, k_newa 55 20 N Z),
  (55, k_put 58 12 8 isR),
  (58, k_aload 59 0),
  (59, k_push 61 (.inl 24)),
  (61, k_newa 63 20 N Z),
  (63, k_put 66 12 9 isR),
  (66, k_aload 67 0),
  (67, k_push 69 (.inl 24)),
  (69, k_newa 71 20 N Z),
  (71, k_put 74 12 10 isR),
  (74, k_aload 75 0),
  (75, k_push 77 (.inl 24)),
  (77, k_newa 79 20 N Z),
  (79, k_put 82 12 11 isR),
  (82, k_aload 83 0),
  (83, k_push 85 (.inl 24)),
  (85, k_newa 87 20 N Z),
  (87, k_put 90 12 12 isR),
  (90, k_aload 91 0),
  (91, k_push 93 (.inl 24)),
  (93, k_newa 95 20 N Z),
  (95, k_put 98 12 13 isR),
  (98, k_aload 99 0),
  (99, k_push 101 (.inl 24)),
  (101, k_newa 103 20 N Z),
  (103, k_put 106 12 14 isR),
  (106, k_aload 107 0),
  (107, k_push 110 (.inl 200)),
  (110, k_newa 112 20 N Z),
  (112, k_put 115 12 17 isR),
  (115, k_aload 116 0),
  (116, k_push 119 (.inl 200)),
  (119, k_newa 121 20 N Z),
  (121, k_put 124 12 18 isR),
  (124, k_aload 125 0),
  (125, k_push 128 (.inl 200)),
  (128, k_newa 130 20 N Z),
  (130, k_put 133 12 19 isR),
  (133, k_aload 134 0),
  (134, k_push 137 (.inl 24000)),
  (137, k_newa 139 20 N Z),
  (139, k_put 142 12 20 isR),
  (142, k_aload 143 0),
  (143, k_push 146 (.inl 240)),
  (146, k_newa 148 20 N Z),
  (148, k_put 151 12 24 isR),
  (151, k_aload 152 0),
  (152, k_push 154 (.inl 20)),
  (154, k_newa 156 20 N Z),
  (156, k_put 159 12 32 isR),
  (159, k_aload 160 0),
  (160, k_push 162 (.inl 20)),
  (162, k_newa 164 20 N Z),
  (164, k_put 167 12 35 isR),
  (167, k_aload 168 0),
  (168, k_push 170 (.inl 20)),
  (170, k_newa 172 20 N Z),
  (172, k_put 175 12 37 isR),
  (175, k_aload 176 0),
  (176, k_push 177 (.inl 3)),
  (177, k_newa 179 20 N Z),
  (179, k_put 182 12 39 isR),
  (182, k_aload 183 0),
  (183, k_push 184 (.inl 3)),
  (184, k_newa 186 20 N Z),
  (186, k_put 189 12 40 isR),
  (189, k_aload 190 0),
  (190, k_push 192 (.inl 20)),
  (192, k_newa 194 20 N Z),
  (194, k_put 197 12 41 isR),
  (197, k_aload 198 0),
  (198, k_push 200 (.inl 20)),
  (200, k_newa 202 20 N Z),
  (202, k_put 205 12 43 isR),
  (205, k_aload 206 0),
  (206, k_push 208 (.inl (-4))),
  (208, k_put 211 12 45 isI),
  (211, k_aload 212 0),
  (212, k_push 214 (.inl 20)),
  (214, k_newa 216 20 N Z),
  (216, k_put 219 12 47 isR),
  (219, k_aload 220 0),
  (220, k_push 222 (.inl 20)),
  (222, k_newa 224 20 N Z),
  (224, k_put 227 12 48 isR),
  (227, k_aload 228 0),
  (228, k_push 230 (.inl 20)),
  (230, k_newa 232 20 N Z),
  (232, k_put 235 12 49 isR),
  (235, k_aload 236 0),
  (236, k_push 238 (.inl 24)),
  (238, k_newa 240 23 N Z),
  (240, k_put 243 12 50 isR),
  (243, k_aload 244 0),
  (244, k_push 247 (.inl 5000)),
  (247, k_newa 249 20 N Z),
  (249, k_put 252 12 51 isR),
  (252, k_aload 253 0),
  (253, k_push 256 (.inl 250)),
  (256, k_newa 258 20 N Z),
  (258, k_put 261 12 52 isR),
  (261, k_aload 262 0),
  (262, k_push 265 (.inl 250)),
  (265, k_newa 267 20 N Z),
  (267, k_put 270 12 53 isR),
  (270, k_aload 271 0),
  (271, k_push 274 (.inl 250)),
  (274, k_newa 276 20 N Z),
  (276, k_put 279 12 54 isR),
  (279, k_aload 280 0),
  (280, k_push 283 (.inl 250)),
  (283, k_newa 285 20 N Z),
  (285, k_put 288 12 55 isR),
  (288, k_aload 289 0),
  (289, k_push 292 (.inl 250)),
  (292, k_newa 294 20 N Z),
  (294, k_put 297 12 56 isR),
  (297, k_aload 298 0),
  (298, k_push 301 (.inl 250)),
  (301, k_newa 303 20 N Z),
  (303, k_put 306 12 57 isR),
  (306, k_aload 307 0),
  (307, k_push 310 (.inl 250)),
  (310, k_newa 312 20 N Z),
  (312, k_put 315 12 58 isR),
  (315, k_aload 316 0),
  (316, k_push 319 (.inl 4096)),
  (319, k_newa 321 20 N Z),
  (321, k_put 324 12 59 isR),
  (324, k_aload 325 0),
  (325, k_push 327 (.inl 9)),
  (327, k_newa 329 20 N Z),
  (329, k_put 332 12 65 isR),
  (332, k_aload 333 0),
  (333, k_push 335 (.inl 36)),
  (335, k_newa 337 20 N Z),
  (337, k_put 340 12 66 isR),
  (340, k_aload 341 0),
  (341, k_push 343 (.inl 20)),
  (343, k_newa 345 20 N Z),
  (345, k_put 348 12 67 isR),
  (348, k_aload 349 0),
  (349, k_push 350 (.inl 1)),
  (350, k_newa 352 23 N Z),
  (352, k_put 355 12 69 isR),
  (355, k_aload 356 0),
  (356, k_push 358 (.inl 32)),
  (358, k_newa 360 23 N Z),
  (360, k_put 363 12 70 isR),
  (363, k_aload 364 0),
  (364, k_push 367 (.inl 800)),
  (367, k_newa 369 20 N Z),
  (369, k_put 372 12 71 isR),
  (372, k_aload 373 0),
  (373, k_push 374 (.inl 4)),
  (374, k_newa 376 20 N Z),
  (376, k_put 379 12 72 isR),
  (379, k_aload 380 0),
  (380, k_push 383 (.inl 200)),
  (383, k_newa 385 20 N Z),
  (385, k_put 388 12 73 isR),
  (388, k_aload 389 0),
  (389, k_push 392 (.inl 200)),
  (392, k_newa 394 20 N Z),
  (394, k_put 397 12 75 isR),
  (397, k_aload 398 0),
  (398, k_push 401 (.inl 200)),
  (401, k_newa 403 20 N Z),
  (403, k_put 406 12 77 isR),
  (406, k_aload 407 0),
  (407, k_push 410 (.inl 200)),
  (410, k_newa 412 20 N Z),
  (412, k_put 415 12 78 isR),
  (415, k_aload 416 0),
  (416, k_push 419 (.inl 400)),
  (419, k_newa 421 20 N Z),
  (421, k_put 424 12 79 isR),
  (424, k_aload 425 0),
  (425, k_push 426 (.inl 4)),
  (426, k_newa 428 20 N Z),
  (428, k_put 431 12 80 isR),
  (431, k_aload 432 0),
  (432, k_push 433 (.inl 4)),
  (433, k_newa 435 20 N Z),
  (435, k_put 438 12 81 isR),
  (438, k_aload 439 0),
  (439, k_push 442 (.inl 360)),
  (442, k_newa 444 20 N Z),
  (444, k_put 447 12 82 isR),
  (447, k_push 448 (.inl 0)),
  (448, k_istore 449 1),
  (449, k_iload 450 1),
  (450, k_push 451 (.inl 4)),
  (451, k_cmpge 454 468),
  (454, k_aload 455 0),
  (455, k_get 458 12 80),
  (458, k_iload 459 1),
  (459, k_push 461 (.inl (-4))),
  (461, k_iast 462),
  (462, k_iinc 465 1 (1)),
  (465, k_goto 449),
  (468, k_ret N Z)]
def f_X12_init : List AV → KS → Option KS := denK 2 (fun N Z => lkpK (k_X12_init N Z)) 53 (fun _ => 39614) 273
set_option maxRecDepth 100000 in
set_option maxHeartbeats 4000000 in
theorem ks_X12_init (G : Wp) (l : Launch) (n0 z0 N Z : Nat) : ∀ e ∈ k_X12_init N Z, SdK G l RX12 cX12_init 2 1 20 n0 z0 N Z e.1 e.2 :=
  fa1 (ks_aload_n (pc := 0) (kf := 0) (j := 0) (by decide +kernel) rfl) <|
  fa1 (ks_obj (pc := 1) (idx := 1) (by decide +kernel) w_1237 w_121 w_122 (by decide) (by decide)) <|
  fa1 (ks_aload_n (pc := 4) (kf := 0) (j := 0) (by decide +kernel) rfl) <|
  fa1 (ks_iconst (pc := 5) (n := 4) (v := 4) (by decide +kernel) (by decide +kernel) (p32 rfl)) <|
  fa1 (ks_newa (pc := 6) (atype := .int) (t := 20) (by decide +kernel) (by decide) w_153 rfl rfl (by decide) (fun _ _ h => h)) <|
  fa1 (ks_put (pc := 8) (ty := tyX12 1) (ci := 12) (f := 1) (idx := 7) (C := RX12) (T := TX12) (NF := 83) (by decide +kernel) rfl (by decide) inG_X12 (by decide) w_1239 tyX12 tyX12_ok nmX12 rfl (tyX12_ok 1 (by decide)) fR_arr) <|
  fa1 (ks_aload_n (pc := 11) (kf := 0) (j := 0) (by decide +kernel) rfl) <|
  fa1 (ks_iconst (pc := 12) (n := 4) (v := 4) (by decide +kernel) (by decide +kernel) (p32 rfl)) <|
  fa1 (ks_newa (pc := 13) (atype := .int) (t := 20) (by decide +kernel) (by decide) w_153 rfl rfl (by decide) (fun _ _ h => h)) <|
  fa1 (ks_put (pc := 15) (ty := tyX12 2) (ci := 12) (f := 2) (idx := 13) (C := RX12) (T := TX12) (NF := 83) (by decide +kernel) rfl (by decide) inG_X12 (by decide) w_1240 tyX12 tyX12_ok nmX12 rfl (tyX12_ok 2 (by decide)) fR_arr) <|
  fa1 (ks_aload_n (pc := 18) (kf := 0) (j := 0) (by decide +kernel) rfl) <|
  fa1 (ks_iconst (pc := 19) (n := 4) (v := 4) (by decide +kernel) (by decide +kernel) (p32 rfl)) <|
  fa1 (ks_newa (pc := 20) (atype := .int) (t := 20) (by decide +kernel) (by decide) w_153 rfl rfl (by decide) (fun _ _ h => h)) <|
  fa1 (ks_put (pc := 22) (ty := tyX12 3) (ci := 12) (f := 3) (idx := 16) (C := RX12) (T := TX12) (NF := 83) (by decide +kernel) rfl (by decide) inG_X12 (by decide) w_1241 tyX12 tyX12_ok nmX12 rfl (tyX12_ok 3 (by decide)) fR_arr) <|
  fa1 (ks_aload_n (pc := 25) (kf := 0) (j := 0) (by decide +kernel) rfl) <|
  fa1 (ks_bipush (pc := 26) (n := 80) (v := 80) (by decide +kernel) (by decide +kernel) (p32 rfl)) <|
  fa1 (ks_newa (pc := 28) (atype := .int) (t := 20) (by decide +kernel) (by decide) w_153 rfl rfl (by decide) (fun _ _ h => h)) <|
  fa1 (ks_put (pc := 30) (ty := tyX12 4) (ci := 12) (f := 4) (idx := 19) (C := RX12) (T := TX12) (NF := 83) (by decide +kernel) rfl (by decide) inG_X12 (by decide) w_1242 tyX12 tyX12_ok nmX12 rfl (tyX12_ok 4 (by decide)) fR_arr) <|
  fa1 (ks_aload_n (pc := 33) (kf := 0) (j := 0) (by decide +kernel) rfl) <|
  fa1 (ks_sipush (pc := 34) (n := 960) (v := 960) (by decide +kernel) (by decide +kernel) (p32 rfl)) <|
  fa1 (ks_newa (pc := 37) (atype := .int) (t := 20) (by decide +kernel) (by decide) w_153 rfl rfl (by decide) (fun _ _ h => h)) <|
  fa1 (ks_put (pc := 39) (ty := tyX12 6) (ci := 12) (f := 6) (idx := 22) (C := RX12) (T := TX12) (NF := 83) (by decide +kernel) rfl (by decide) inG_X12 (by decide) w_1244 tyX12 tyX12_ok nmX12 rfl (tyX12_ok 6 (by decide)) fR_arr) <|
  fa1 (ks_aload_n (pc := 42) (kf := 0) (j := 0) (by decide +kernel) rfl) <|
  fa1 (ks_bipush (pc := 43) (n := 48) (v := 48) (by decide +kernel) (by decide +kernel) (p32 rfl)) <|
  fa1 (ks_newa (pc := 45) (atype := .int) (t := 20) (by decide +kernel) (by decide) w_153 rfl rfl (by decide) (fun _ _ h => h)) <|
  fa1 (ks_put (pc := 47) (ty := tyX12 7) (ci := 12) (f := 7) (idx := 25) (C := RX12) (T := TX12) (NF := 83) (by decide +kernel) rfl (by decide) inG_X12 (by decide) w_1245 tyX12 tyX12_ok nmX12 rfl (tyX12_ok 7 (by decide)) fR_arr) <|
  fa1 (ks_aload_n (pc := 50) (kf := 0) (j := 0) (by decide +kernel) rfl) <|
  fa1 (ks_bipush (pc := 51) (n := 24) (v := 24) (by decide +kernel) (by decide +kernel) (p32 rfl)) <|
  fa1 (ks_newa (pc := 53) (atype := .int) (t := 20) (by decide +kernel) (by decide) w_153 rfl rfl (by decide) (fun _ _ h => h)) <|
  fa1 (ks_put (pc := 55) (ty := tyX12 8) (ci := 12) (f := 8) (idx := 28) (C := RX12) (T := TX12) (NF := 83) (by decide +kernel) rfl (by decide) inG_X12 (by decide) w_1246 tyX12 tyX12_ok nmX12 rfl (tyX12_ok 8 (by decide)) fR_arr) <|
  fa1 (ks_aload_n (pc := 58) (kf := 0) (j := 0) (by decide +kernel) rfl) <|
  fa1 (ks_bipush (pc := 59) (n := 24) (v := 24) (by decide +kernel) (by decide +kernel) (p32 rfl)) <|
  fa1 (ks_newa (pc := 61) (atype := .int) (t := 20) (by decide +kernel) (by decide) w_153 rfl rfl (by decide) (fun _ _ h => h)) <|
  fa1 (ks_put (pc := 63) (ty := tyX12 9) (ci := 12) (f := 9) (idx := 31) (C := RX12) (T := TX12) (NF := 83) (by decide +kernel) rfl (by decide) inG_X12 (by decide) w_1247 tyX12 tyX12_ok nmX12 rfl (tyX12_ok 9 (by decide)) fR_arr) <|
  fa1 (ks_aload_n (pc := 66) (kf := 0) (j := 0) (by decide +kernel) rfl) <|
  fa1 (ks_bipush (pc := 67) (n := 24) (v := 24) (by decide +kernel) (by decide +kernel) (p32 rfl)) <|
  fa1 (ks_newa (pc := 69) (atype := .int) (t := 20) (by decide +kernel) (by decide) w_153 rfl rfl (by decide) (fun _ _ h => h)) <|
  fa1 (ks_put (pc := 71) (ty := tyX12 10) (ci := 12) (f := 10) (idx := 34) (C := RX12) (T := TX12) (NF := 83) (by decide +kernel) rfl (by decide) inG_X12 (by decide) w_1248 tyX12 tyX12_ok nmX12 rfl (tyX12_ok 10 (by decide)) fR_arr) <|
  fa1 (ks_aload_n (pc := 74) (kf := 0) (j := 0) (by decide +kernel) rfl) <|
  fa1 (ks_bipush (pc := 75) (n := 24) (v := 24) (by decide +kernel) (by decide +kernel) (p32 rfl)) <|
  fa1 (ks_newa (pc := 77) (atype := .int) (t := 20) (by decide +kernel) (by decide) w_153 rfl rfl (by decide) (fun _ _ h => h)) <|
  fa1 (ks_put (pc := 79) (ty := tyX12 11) (ci := 12) (f := 11) (idx := 37) (C := RX12) (T := TX12) (NF := 83) (by decide +kernel) rfl (by decide) inG_X12 (by decide) w_1249 tyX12 tyX12_ok nmX12 rfl (tyX12_ok 11 (by decide)) fR_arr) <|
  fa1 (ks_aload_n (pc := 82) (kf := 0) (j := 0) (by decide +kernel) rfl) <|
  fa1 (ks_bipush (pc := 83) (n := 24) (v := 24) (by decide +kernel) (by decide +kernel) (p32 rfl)) <|
  fa1 (ks_newa (pc := 85) (atype := .int) (t := 20) (by decide +kernel) (by decide) w_153 rfl rfl (by decide) (fun _ _ h => h)) <|
  fa1 (ks_put (pc := 87) (ty := tyX12 12) (ci := 12) (f := 12) (idx := 40) (C := RX12) (T := TX12) (NF := 83) (by decide +kernel) rfl (by decide) inG_X12 (by decide) w_1250 tyX12 tyX12_ok nmX12 rfl (tyX12_ok 12 (by decide)) fR_arr) <|
  fa1 (ks_aload_n (pc := 90) (kf := 0) (j := 0) (by decide +kernel) rfl) <|
  fa1 (ks_bipush (pc := 91) (n := 24) (v := 24) (by decide +kernel) (by decide +kernel) (p32 rfl)) <|
  fa1 (ks_newa (pc := 93) (atype := .int) (t := 20) (by decide +kernel) (by decide) w_153 rfl rfl (by decide) (fun _ _ h => h)) <|
  fa1 (ks_put (pc := 95) (ty := tyX12 13) (ci := 12) (f := 13) (idx := 43) (C := RX12) (T := TX12) (NF := 83) (by decide +kernel) rfl (by decide) inG_X12 (by decide) w_1251 tyX12 tyX12_ok nmX12 rfl (tyX12_ok 13 (by decide)) fR_arr) <|
  fa1 (ks_aload_n (pc := 98) (kf := 0) (j := 0) (by decide +kernel) rfl) <|
  fa1 (ks_bipush (pc := 99) (n := 24) (v := 24) (by decide +kernel) (by decide +kernel) (p32 rfl)) <|
  fa1 (ks_newa (pc := 101) (atype := .int) (t := 20) (by decide +kernel) (by decide) w_153 rfl rfl (by decide) (fun _ _ h => h)) <|
  fa1 (ks_put (pc := 103) (ty := tyX12 14) (ci := 12) (f := 14) (idx := 46) (C := RX12) (T := TX12) (NF := 83) (by decide +kernel) rfl (by decide) inG_X12 (by decide) w_1252 tyX12 tyX12_ok nmX12 rfl (tyX12_ok 14 (by decide)) fR_arr) <|
  fa1 (ks_aload_n (pc := 106) (kf := 0) (j := 0) (by decide +kernel) rfl) <|
  fa1 (ks_sipush (pc := 107) (n := 200) (v := 200) (by decide +kernel) (by decide +kernel) (p32 rfl)) <|
  fa1 (ks_newa (pc := 110) (atype := .int) (t := 20) (by decide +kernel) (by decide) w_153 rfl rfl (by decide) (fun _ _ h => h)) <|
  fa1 (ks_put (pc := 112) (ty := tyX12 17) (ci := 12) (f := 17) (idx := 49) (C := RX12) (T := TX12) (NF := 83) (by decide +kernel) rfl (by decide) inG_X12 (by decide) w_1255 tyX12 tyX12_ok nmX12 rfl (tyX12_ok 17 (by decide)) fR_arr) <|
  fa1 (ks_aload_n (pc := 115) (kf := 0) (j := 0) (by decide +kernel) rfl) <|
  fa1 (ks_sipush (pc := 116) (n := 200) (v := 200) (by decide +kernel) (by decide +kernel) (p32 rfl)) <|
  fa1 (ks_newa (pc := 119) (atype := .int) (t := 20) (by decide +kernel) (by decide) w_153 rfl rfl (by decide) (fun _ _ h => h)) <|
  fa1 (ks_put (pc := 121) (ty := tyX12 18) (ci := 12) (f := 18) (idx := 52) (C := RX12) (T := TX12) (NF := 83) (by decide +kernel) rfl (by decide) inG_X12 (by decide) w_1256 tyX12 tyX12_ok nmX12 rfl (tyX12_ok 18 (by decide)) fR_arr) <|
  fa1 (ks_aload_n (pc := 124) (kf := 0) (j := 0) (by decide +kernel) rfl) <|
  fa1 (ks_sipush (pc := 125) (n := 200) (v := 200) (by decide +kernel) (by decide +kernel) (p32 rfl)) <|
  fa1 (ks_newa (pc := 128) (atype := .int) (t := 20) (by decide +kernel) (by decide) w_153 rfl rfl (by decide) (fun _ _ h => h)) <|
  fa1 (ks_put (pc := 130) (ty := tyX12 19) (ci := 12) (f := 19) (idx := 55) (C := RX12) (T := TX12) (NF := 83) (by decide +kernel) rfl (by decide) inG_X12 (by decide) w_1257 tyX12 tyX12_ok nmX12 rfl (tyX12_ok 19 (by decide)) fR_arr) <|
  fa1 (ks_aload_n (pc := 133) (kf := 0) (j := 0) (by decide +kernel) rfl) <|
  fa1 (ks_sipush (pc := 134) (n := 24000) (v := 24000) (by decide +kernel) (by decide +kernel) (p32 rfl)) <|
  fa1 (ks_newa (pc := 137) (atype := .int) (t := 20) (by decide +kernel) (by decide) w_153 rfl rfl (by decide) (fun _ _ h => h)) <|
  fa1 (ks_put (pc := 139) (ty := tyX12 20) (ci := 12) (f := 20) (idx := 58) (C := RX12) (T := TX12) (NF := 83) (by decide +kernel) rfl (by decide) inG_X12 (by decide) w_1258 tyX12 tyX12_ok nmX12 rfl (tyX12_ok 20 (by decide)) fR_arr) <|
  fa1 (ks_aload_n (pc := 142) (kf := 0) (j := 0) (by decide +kernel) rfl) <|
  fa1 (ks_sipush (pc := 143) (n := 240) (v := 240) (by decide +kernel) (by decide +kernel) (p32 rfl)) <|
  fa1 (ks_newa (pc := 146) (atype := .int) (t := 20) (by decide +kernel) (by decide) w_153 rfl rfl (by decide) (fun _ _ h => h)) <|
  fa1 (ks_put (pc := 148) (ty := tyX12 24) (ci := 12) (f := 24) (idx := 61) (C := RX12) (T := TX12) (NF := 83) (by decide +kernel) rfl (by decide) inG_X12 (by decide) w_1262 tyX12 tyX12_ok nmX12 rfl (tyX12_ok 24 (by decide)) fR_arr) <|
  fa1 (ks_aload_n (pc := 151) (kf := 0) (j := 0) (by decide +kernel) rfl) <|
  fa1 (ks_bipush (pc := 152) (n := 20) (v := 20) (by decide +kernel) (by decide +kernel) (p32 rfl)) <|
  fa1 (ks_newa (pc := 154) (atype := .int) (t := 20) (by decide +kernel) (by decide) w_153 rfl rfl (by decide) (fun _ _ h => h)) <|
  fa1 (ks_put (pc := 156) (ty := tyX12 32) (ci := 12) (f := 32) (idx := 64) (C := RX12) (T := TX12) (NF := 83) (by decide +kernel) rfl (by decide) inG_X12 (by decide) w_1270 tyX12 tyX12_ok nmX12 rfl (tyX12_ok 32 (by decide)) fR_arr) <|
  fa1 (ks_aload_n (pc := 159) (kf := 0) (j := 0) (by decide +kernel) rfl) <|
  fa1 (ks_bipush (pc := 160) (n := 20) (v := 20) (by decide +kernel) (by decide +kernel) (p32 rfl)) <|
  fa1 (ks_newa (pc := 162) (atype := .int) (t := 20) (by decide +kernel) (by decide) w_153 rfl rfl (by decide) (fun _ _ h => h)) <|
  fa1 (ks_put (pc := 164) (ty := tyX12 35) (ci := 12) (f := 35) (idx := 67) (C := RX12) (T := TX12) (NF := 83) (by decide +kernel) rfl (by decide) inG_X12 (by decide) w_1273 tyX12 tyX12_ok nmX12 rfl (tyX12_ok 35 (by decide)) fR_arr) <|
  fa1 (ks_aload_n (pc := 167) (kf := 0) (j := 0) (by decide +kernel) rfl) <|
  fa1 (ks_bipush (pc := 168) (n := 20) (v := 20) (by decide +kernel) (by decide +kernel) (p32 rfl)) <|
  fa1 (ks_newa (pc := 170) (atype := .int) (t := 20) (by decide +kernel) (by decide) w_153 rfl rfl (by decide) (fun _ _ h => h)) <|
  fa1 (ks_put (pc := 172) (ty := tyX12 37) (ci := 12) (f := 37) (idx := 70) (C := RX12) (T := TX12) (NF := 83) (by decide +kernel) rfl (by decide) inG_X12 (by decide) w_1275 tyX12 tyX12_ok nmX12 rfl (tyX12_ok 37 (by decide)) fR_arr) <|
  fa1 (ks_aload_n (pc := 175) (kf := 0) (j := 0) (by decide +kernel) rfl) <|
  fa1 (ks_iconst (pc := 176) (n := 3) (v := 3) (by decide +kernel) (by decide +kernel) (p32 rfl)) <|
  fa1 (ks_newa (pc := 177) (atype := .int) (t := 20) (by decide +kernel) (by decide) w_153 rfl rfl (by decide) (fun _ _ h => h)) <|
  fa1 (ks_put (pc := 179) (ty := tyX12 39) (ci := 12) (f := 39) (idx := 73) (C := RX12) (T := TX12) (NF := 83) (by decide +kernel) rfl (by decide) inG_X12 (by decide) w_1277 tyX12 tyX12_ok nmX12 rfl (tyX12_ok 39 (by decide)) fR_arr) <|
  fa1 (ks_aload_n (pc := 182) (kf := 0) (j := 0) (by decide +kernel) rfl) <|
  fa1 (ks_iconst (pc := 183) (n := 3) (v := 3) (by decide +kernel) (by decide +kernel) (p32 rfl)) <|
  fa1 (ks_newa (pc := 184) (atype := .int) (t := 20) (by decide +kernel) (by decide) w_153 rfl rfl (by decide) (fun _ _ h => h)) <|
  fa1 (ks_put (pc := 186) (ty := tyX12 40) (ci := 12) (f := 40) (idx := 76) (C := RX12) (T := TX12) (NF := 83) (by decide +kernel) rfl (by decide) inG_X12 (by decide) w_1278 tyX12 tyX12_ok nmX12 rfl (tyX12_ok 40 (by decide)) fR_arr) <|
  fa1 (ks_aload_n (pc := 189) (kf := 0) (j := 0) (by decide +kernel) rfl) <|
  fa1 (ks_bipush (pc := 190) (n := 20) (v := 20) (by decide +kernel) (by decide +kernel) (p32 rfl)) <|
  fa1 (ks_newa (pc := 192) (atype := .int) (t := 20) (by decide +kernel) (by decide) w_153 rfl rfl (by decide) (fun _ _ h => h)) <|
  fa1 (ks_put (pc := 194) (ty := tyX12 41) (ci := 12) (f := 41) (idx := 79) (C := RX12) (T := TX12) (NF := 83) (by decide +kernel) rfl (by decide) inG_X12 (by decide) w_1279 tyX12 tyX12_ok nmX12 rfl (tyX12_ok 41 (by decide)) fR_arr) <|
  fa1 (ks_aload_n (pc := 197) (kf := 0) (j := 0) (by decide +kernel) rfl) <|
  fa1 (ks_bipush (pc := 198) (n := 20) (v := 20) (by decide +kernel) (by decide +kernel) (p32 rfl)) <|
  fa1 (ks_newa (pc := 200) (atype := .int) (t := 20) (by decide +kernel) (by decide) w_153 rfl rfl (by decide) (fun _ _ h => h)) <|
  fa1 (ks_put (pc := 202) (ty := tyX12 43) (ci := 12) (f := 43) (idx := 82) (C := RX12) (T := TX12) (NF := 83) (by decide +kernel) rfl (by decide) inG_X12 (by decide) w_1281 tyX12 tyX12_ok nmX12 rfl (tyX12_ok 43 (by decide)) fR_arr) <|
  fa1 (ks_aload_n (pc := 205) (kf := 0) (j := 0) (by decide +kernel) rfl) <|
  fa1 (ks_bipush (pc := 206) (n := -4) (v := -4) (by decide +kernel) (by decide +kernel) (p32 rfl)) <|
  fa1 (ks_put (pc := 208) (ty := tyX12 45) (ci := 12) (f := 45) (idx := 85) (C := RX12) (T := TX12) (NF := 83) (by decide +kernel) rfl (by decide) inG_X12 (by decide) w_1283 tyX12 tyX12_ok nmX12 rfl (tyX12_ok 45 (by decide)) fI_int) <|
  fa1 (ks_aload_n (pc := 211) (kf := 0) (j := 0) (by decide +kernel) rfl) <|
  fa1 (ks_bipush (pc := 212) (n := 20) (v := 20) (by decide +kernel) (by decide +kernel) (p32 rfl)) <|
  fa1 (ks_newa (pc := 214) (atype := .int) (t := 20) (by decide +kernel) (by decide) w_153 rfl rfl (by decide) (fun _ _ h => h)) <|
  fa1 (ks_put (pc := 216) (ty := tyX12 47) (ci := 12) (f := 47) (idx := 89) (C := RX12) (T := TX12) (NF := 83) (by decide +kernel) rfl (by decide) inG_X12 (by decide) w_1285 tyX12 tyX12_ok nmX12 rfl (tyX12_ok 47 (by decide)) fR_arr) <|
  fa1 (ks_aload_n (pc := 219) (kf := 0) (j := 0) (by decide +kernel) rfl) <|
  fa1 (ks_bipush (pc := 220) (n := 20) (v := 20) (by decide +kernel) (by decide +kernel) (p32 rfl)) <|
  fa1 (ks_newa (pc := 222) (atype := .int) (t := 20) (by decide +kernel) (by decide) w_153 rfl rfl (by decide) (fun _ _ h => h)) <|
  fa1 (ks_put (pc := 224) (ty := tyX12 48) (ci := 12) (f := 48) (idx := 92) (C := RX12) (T := TX12) (NF := 83) (by decide +kernel) rfl (by decide) inG_X12 (by decide) w_1286 tyX12 tyX12_ok nmX12 rfl (tyX12_ok 48 (by decide)) fR_arr) <|
  fa1 (ks_aload_n (pc := 227) (kf := 0) (j := 0) (by decide +kernel) rfl) <|
  fa1 (ks_bipush (pc := 228) (n := 20) (v := 20) (by decide +kernel) (by decide +kernel) (p32 rfl)) <|
  fa1 (ks_newa (pc := 230) (atype := .int) (t := 20) (by decide +kernel) (by decide) w_153 rfl rfl (by decide) (fun _ _ h => h)) <|
  fa1 (ks_put (pc := 232) (ty := tyX12 49) (ci := 12) (f := 49) (idx := 95) (C := RX12) (T := TX12) (NF := 83) (by decide +kernel) rfl (by decide) inG_X12 (by decide) w_1287 tyX12 tyX12_ok nmX12 rfl (tyX12_ok 49 (by decide)) fR_arr) <|
  fa1 (ks_aload_n (pc := 235) (kf := 0) (j := 0) (by decide +kernel) rfl) <|
  fa1 (ks_bipush (pc := 236) (n := 24) (v := 24) (by decide +kernel) (by decide +kernel) (p32 rfl)) <|
  fa1 (ks_newa (pc := 238) (atype := .boolean) (t := 23) (by decide +kernel) (by decide) w_1488 rfl rfl (by decide) (fun _ _ h => h)) <|
  fa1 (ks_put (pc := 240) (ty := tyX12 50) (ci := 12) (f := 50) (idx := 98) (C := RX12) (T := TX12) (NF := 83) (by decide +kernel) rfl (by decide) inG_X12 (by decide) w_1288 tyX12 tyX12_ok nmX12 rfl (tyX12_ok 50 (by decide)) fR_arr) <|
  fa1 (ks_aload_n (pc := 243) (kf := 0) (j := 0) (by decide +kernel) rfl) <|
  fa1 (ks_sipush (pc := 244) (n := 5000) (v := 5000) (by decide +kernel) (by decide +kernel) (p32 rfl)) <|
  fa1 (ks_newa (pc := 247) (atype := .int) (t := 20) (by decide +kernel) (by decide) w_153 rfl rfl (by decide) (fun _ _ h => h)) <|
  fa1 (ks_put (pc := 249) (ty := tyX12 51) (ci := 12) (f := 51) (idx := 102) (C := RX12) (T := TX12) (NF := 83) (by decide +kernel) rfl (by decide) inG_X12 (by decide) w_1289 tyX12 tyX12_ok nmX12 rfl (tyX12_ok 51 (by decide)) fR_arr) <|
  fa1 (ks_aload_n (pc := 252) (kf := 0) (j := 0) (by decide +kernel) rfl) <|
  fa1 (ks_sipush (pc := 253) (n := 250) (v := 250) (by decide +kernel) (by decide +kernel) (p32 rfl)) <|
  fa1 (ks_newa (pc := 256) (atype := .int) (t := 20) (by decide +kernel) (by decide) w_153 rfl rfl (by decide) (fun _ _ h => h)) <|
  fa1 (ks_put (pc := 258) (ty := tyX12 52) (ci := 12) (f := 52) (idx := 105) (C := RX12) (T := TX12) (NF := 83) (by decide +kernel) rfl (by decide) inG_X12 (by decide) w_1290 tyX12 tyX12_ok nmX12 rfl (tyX12_ok 52 (by decide)) fR_arr) <|
  fa1 (ks_aload_n (pc := 261) (kf := 0) (j := 0) (by decide +kernel) rfl) <|
  fa1 (ks_sipush (pc := 262) (n := 250) (v := 250) (by decide +kernel) (by decide +kernel) (p32 rfl)) <|
  fa1 (ks_newa (pc := 265) (atype := .int) (t := 20) (by decide +kernel) (by decide) w_153 rfl rfl (by decide) (fun _ _ h => h)) <|
  fa1 (ks_put (pc := 267) (ty := tyX12 53) (ci := 12) (f := 53) (idx := 108) (C := RX12) (T := TX12) (NF := 83) (by decide +kernel) rfl (by decide) inG_X12 (by decide) w_1291 tyX12 tyX12_ok nmX12 rfl (tyX12_ok 53 (by decide)) fR_arr) <|
  fa1 (ks_aload_n (pc := 270) (kf := 0) (j := 0) (by decide +kernel) rfl) <|
  fa1 (ks_sipush (pc := 271) (n := 250) (v := 250) (by decide +kernel) (by decide +kernel) (p32 rfl)) <|
  fa1 (ks_newa (pc := 274) (atype := .int) (t := 20) (by decide +kernel) (by decide) w_153 rfl rfl (by decide) (fun _ _ h => h)) <|
  fa1 (ks_put (pc := 276) (ty := tyX12 54) (ci := 12) (f := 54) (idx := 111) (C := RX12) (T := TX12) (NF := 83) (by decide +kernel) rfl (by decide) inG_X12 (by decide) w_1292 tyX12 tyX12_ok nmX12 rfl (tyX12_ok 54 (by decide)) fR_arr) <|
  fa1 (ks_aload_n (pc := 279) (kf := 0) (j := 0) (by decide +kernel) rfl) <|
  fa1 (ks_sipush (pc := 280) (n := 250) (v := 250) (by decide +kernel) (by decide +kernel) (p32 rfl)) <|
  fa1 (ks_newa (pc := 283) (atype := .int) (t := 20) (by decide +kernel) (by decide) w_153 rfl rfl (by decide) (fun _ _ h => h)) <|
  fa1 (ks_put (pc := 285) (ty := tyX12 55) (ci := 12) (f := 55) (idx := 114) (C := RX12) (T := TX12) (NF := 83) (by decide +kernel) rfl (by decide) inG_X12 (by decide) w_1293 tyX12 tyX12_ok nmX12 rfl (tyX12_ok 55 (by decide)) fR_arr) <|
  fa1 (ks_aload_n (pc := 288) (kf := 0) (j := 0) (by decide +kernel) rfl) <|
  fa1 (ks_sipush (pc := 289) (n := 250) (v := 250) (by decide +kernel) (by decide +kernel) (p32 rfl)) <|
  fa1 (ks_newa (pc := 292) (atype := .int) (t := 20) (by decide +kernel) (by decide) w_153 rfl rfl (by decide) (fun _ _ h => h)) <|
  fa1 (ks_put (pc := 294) (ty := tyX12 56) (ci := 12) (f := 56) (idx := 117) (C := RX12) (T := TX12) (NF := 83) (by decide +kernel) rfl (by decide) inG_X12 (by decide) w_1294 tyX12 tyX12_ok nmX12 rfl (tyX12_ok 56 (by decide)) fR_arr) <|
  fa1 (ks_aload_n (pc := 297) (kf := 0) (j := 0) (by decide +kernel) rfl) <|
  fa1 (ks_sipush (pc := 298) (n := 250) (v := 250) (by decide +kernel) (by decide +kernel) (p32 rfl)) <|
  fa1 (ks_newa (pc := 301) (atype := .int) (t := 20) (by decide +kernel) (by decide) w_153 rfl rfl (by decide) (fun _ _ h => h)) <|
  fa1 (ks_put (pc := 303) (ty := tyX12 57) (ci := 12) (f := 57) (idx := 120) (C := RX12) (T := TX12) (NF := 83) (by decide +kernel) rfl (by decide) inG_X12 (by decide) w_1295 tyX12 tyX12_ok nmX12 rfl (tyX12_ok 57 (by decide)) fR_arr) <|
  fa1 (ks_aload_n (pc := 306) (kf := 0) (j := 0) (by decide +kernel) rfl) <|
  fa1 (ks_sipush (pc := 307) (n := 250) (v := 250) (by decide +kernel) (by decide +kernel) (p32 rfl)) <|
  fa1 (ks_newa (pc := 310) (atype := .int) (t := 20) (by decide +kernel) (by decide) w_153 rfl rfl (by decide) (fun _ _ h => h)) <|
  fa1 (ks_put (pc := 312) (ty := tyX12 58) (ci := 12) (f := 58) (idx := 123) (C := RX12) (T := TX12) (NF := 83) (by decide +kernel) rfl (by decide) inG_X12 (by decide) w_1296 tyX12 tyX12_ok nmX12 rfl (tyX12_ok 58 (by decide)) fR_arr) <|
  fa1 (ks_aload_n (pc := 315) (kf := 0) (j := 0) (by decide +kernel) rfl) <|
  fa1 (ks_sipush (pc := 316) (n := 4096) (v := 4096) (by decide +kernel) (by decide +kernel) (p32 rfl)) <|
  fa1 (ks_newa (pc := 319) (atype := .int) (t := 20) (by decide +kernel) (by decide) w_153 rfl rfl (by decide) (fun _ _ h => h)) <|
  fa1 (ks_put (pc := 321) (ty := tyX12 59) (ci := 12) (f := 59) (idx := 126) (C := RX12) (T := TX12) (NF := 83) (by decide +kernel) rfl (by decide) inG_X12 (by decide) w_1297 tyX12 tyX12_ok nmX12 rfl (tyX12_ok 59 (by decide)) fR_arr) <|
  fa1 (ks_aload_n (pc := 324) (kf := 0) (j := 0) (by decide +kernel) rfl) <|
  fa1 (ks_bipush (pc := 325) (n := 9) (v := 9) (by decide +kernel) (by decide +kernel) (p32 rfl)) <|
  fa1 (ks_newa (pc := 327) (atype := .int) (t := 20) (by decide +kernel) (by decide) w_153 rfl rfl (by decide) (fun _ _ h => h)) <|
  fa1 (ks_put (pc := 329) (ty := tyX12 65) (ci := 12) (f := 65) (idx := 129) (C := RX12) (T := TX12) (NF := 83) (by decide +kernel) rfl (by decide) inG_X12 (by decide) w_1303 tyX12 tyX12_ok nmX12 rfl (tyX12_ok 65 (by decide)) fR_arr) <|
  fa1 (ks_aload_n (pc := 332) (kf := 0) (j := 0) (by decide +kernel) rfl) <|
  fa1 (ks_bipush (pc := 333) (n := 36) (v := 36) (by decide +kernel) (by decide +kernel) (p32 rfl)) <|
  fa1 (ks_newa (pc := 335) (atype := .int) (t := 20) (by decide +kernel) (by decide) w_153 rfl rfl (by decide) (fun _ _ h => h)) <|
  fa1 (ks_put (pc := 337) (ty := tyX12 66) (ci := 12) (f := 66) (idx := 132) (C := RX12) (T := TX12) (NF := 83) (by decide +kernel) rfl (by decide) inG_X12 (by decide) w_1304 tyX12 tyX12_ok nmX12 rfl (tyX12_ok 66 (by decide)) fR_arr) <|
  fa1 (ks_aload_n (pc := 340) (kf := 0) (j := 0) (by decide +kernel) rfl) <|
  fa1 (ks_bipush (pc := 341) (n := 20) (v := 20) (by decide +kernel) (by decide +kernel) (p32 rfl)) <|
  fa1 (ks_newa (pc := 343) (atype := .int) (t := 20) (by decide +kernel) (by decide) w_153 rfl rfl (by decide) (fun _ _ h => h)) <|
  fa1 (ks_put (pc := 345) (ty := tyX12 67) (ci := 12) (f := 67) (idx := 135) (C := RX12) (T := TX12) (NF := 83) (by decide +kernel) rfl (by decide) inG_X12 (by decide) w_1305 tyX12 tyX12_ok nmX12 rfl (tyX12_ok 67 (by decide)) fR_arr) <|
  fa1 (ks_aload_n (pc := 348) (kf := 0) (j := 0) (by decide +kernel) rfl) <|
  fa1 (ks_iconst (pc := 349) (n := 1) (v := 1) (by decide +kernel) (by decide +kernel) (p32 rfl)) <|
  fa1 (ks_newa (pc := 350) (atype := .boolean) (t := 23) (by decide +kernel) (by decide) w_1488 rfl rfl (by decide) (fun _ _ h => h)) <|
  fa1 (ks_put (pc := 352) (ty := tyX12 69) (ci := 12) (f := 69) (idx := 138) (C := RX12) (T := TX12) (NF := 83) (by decide +kernel) rfl (by decide) inG_X12 (by decide) w_1307 tyX12 tyX12_ok nmX12 rfl (tyX12_ok 69 (by decide)) fR_arr) <|
  fa1 (ks_aload_n (pc := 355) (kf := 0) (j := 0) (by decide +kernel) rfl) <|
  fa1 (ks_bipush (pc := 356) (n := 32) (v := 32) (by decide +kernel) (by decide +kernel) (p32 rfl)) <|
  fa1 (ks_newa (pc := 358) (atype := .boolean) (t := 23) (by decide +kernel) (by decide) w_1488 rfl rfl (by decide) (fun _ _ h => h)) <|
  fa1 (ks_put (pc := 360) (ty := tyX12 70) (ci := 12) (f := 70) (idx := 141) (C := RX12) (T := TX12) (NF := 83) (by decide +kernel) rfl (by decide) inG_X12 (by decide) w_1308 tyX12 tyX12_ok nmX12 rfl (tyX12_ok 70 (by decide)) fR_arr) <|
  fa1 (ks_aload_n (pc := 363) (kf := 0) (j := 0) (by decide +kernel) rfl) <|
  fa1 (ks_sipush (pc := 364) (n := 800) (v := 800) (by decide +kernel) (by decide +kernel) (p32 rfl)) <|
  fa1 (ks_newa (pc := 367) (atype := .int) (t := 20) (by decide +kernel) (by decide) w_153 rfl rfl (by decide) (fun _ _ h => h)) <|
  fa1 (ks_put (pc := 369) (ty := tyX12 71) (ci := 12) (f := 71) (idx := 144) (C := RX12) (T := TX12) (NF := 83) (by decide +kernel) rfl (by decide) inG_X12 (by decide) w_1309 tyX12 tyX12_ok nmX12 rfl (tyX12_ok 71 (by decide)) fR_arr) <|
  fa1 (ks_aload_n (pc := 372) (kf := 0) (j := 0) (by decide +kernel) rfl) <|
  fa1 (ks_iconst (pc := 373) (n := 4) (v := 4) (by decide +kernel) (by decide +kernel) (p32 rfl)) <|
  fa1 (ks_newa (pc := 374) (atype := .int) (t := 20) (by decide +kernel) (by decide) w_153 rfl rfl (by decide) (fun _ _ h => h)) <|
  fa1 (ks_put (pc := 376) (ty := tyX12 72) (ci := 12) (f := 72) (idx := 147) (C := RX12) (T := TX12) (NF := 83) (by decide +kernel) rfl (by decide) inG_X12 (by decide) w_1310 tyX12 tyX12_ok nmX12 rfl (tyX12_ok 72 (by decide)) fR_arr) <|
  fa1 (ks_aload_n (pc := 379) (kf := 0) (j := 0) (by decide +kernel) rfl) <|
  fa1 (ks_sipush (pc := 380) (n := 200) (v := 200) (by decide +kernel) (by decide +kernel) (p32 rfl)) <|
  fa1 (ks_newa (pc := 383) (atype := .int) (t := 20) (by decide +kernel) (by decide) w_153 rfl rfl (by decide) (fun _ _ h => h)) <|
  fa1 (ks_put (pc := 385) (ty := tyX12 73) (ci := 12) (f := 73) (idx := 150) (C := RX12) (T := TX12) (NF := 83) (by decide +kernel) rfl (by decide) inG_X12 (by decide) w_1311 tyX12 tyX12_ok nmX12 rfl (tyX12_ok 73 (by decide)) fR_arr) <|
  fa1 (ks_aload_n (pc := 388) (kf := 0) (j := 0) (by decide +kernel) rfl) <|
  fa1 (ks_sipush (pc := 389) (n := 200) (v := 200) (by decide +kernel) (by decide +kernel) (p32 rfl)) <|
  fa1 (ks_newa (pc := 392) (atype := .int) (t := 20) (by decide +kernel) (by decide) w_153 rfl rfl (by decide) (fun _ _ h => h)) <|
  fa1 (ks_put (pc := 394) (ty := tyX12 75) (ci := 12) (f := 75) (idx := 153) (C := RX12) (T := TX12) (NF := 83) (by decide +kernel) rfl (by decide) inG_X12 (by decide) w_1313 tyX12 tyX12_ok nmX12 rfl (tyX12_ok 75 (by decide)) fR_arr) <|
  fa1 (ks_aload_n (pc := 397) (kf := 0) (j := 0) (by decide +kernel) rfl) <|
  fa1 (ks_sipush (pc := 398) (n := 200) (v := 200) (by decide +kernel) (by decide +kernel) (p32 rfl)) <|
  fa1 (ks_newa (pc := 401) (atype := .int) (t := 20) (by decide +kernel) (by decide) w_153 rfl rfl (by decide) (fun _ _ h => h)) <|
  fa1 (ks_put (pc := 403) (ty := tyX12 77) (ci := 12) (f := 77) (idx := 156) (C := RX12) (T := TX12) (NF := 83) (by decide +kernel) rfl (by decide) inG_X12 (by decide) w_1315 tyX12 tyX12_ok nmX12 rfl (tyX12_ok 77 (by decide)) fR_arr) <|
  fa1 (ks_aload_n (pc := 406) (kf := 0) (j := 0) (by decide +kernel) rfl) <|
  fa1 (ks_sipush (pc := 407) (n := 200) (v := 200) (by decide +kernel) (by decide +kernel) (p32 rfl)) <|
  fa1 (ks_newa (pc := 410) (atype := .int) (t := 20) (by decide +kernel) (by decide) w_153 rfl rfl (by decide) (fun _ _ h => h)) <|
  fa1 (ks_put (pc := 412) (ty := tyX12 78) (ci := 12) (f := 78) (idx := 159) (C := RX12) (T := TX12) (NF := 83) (by decide +kernel) rfl (by decide) inG_X12 (by decide) w_1316 tyX12 tyX12_ok nmX12 rfl (tyX12_ok 78 (by decide)) fR_arr) <|
  fa1 (ks_aload_n (pc := 415) (kf := 0) (j := 0) (by decide +kernel) rfl) <|
  fa1 (ks_sipush (pc := 416) (n := 400) (v := 400) (by decide +kernel) (by decide +kernel) (p32 rfl)) <|
  fa1 (ks_newa (pc := 419) (atype := .int) (t := 20) (by decide +kernel) (by decide) w_153 rfl rfl (by decide) (fun _ _ h => h)) <|
  fa1 (ks_put (pc := 421) (ty := tyX12 79) (ci := 12) (f := 79) (idx := 162) (C := RX12) (T := TX12) (NF := 83) (by decide +kernel) rfl (by decide) inG_X12 (by decide) w_1317 tyX12 tyX12_ok nmX12 rfl (tyX12_ok 79 (by decide)) fR_arr) <|
  fa1 (ks_aload_n (pc := 424) (kf := 0) (j := 0) (by decide +kernel) rfl) <|
  fa1 (ks_iconst (pc := 425) (n := 4) (v := 4) (by decide +kernel) (by decide +kernel) (p32 rfl)) <|
  fa1 (ks_newa (pc := 426) (atype := .int) (t := 20) (by decide +kernel) (by decide) w_153 rfl rfl (by decide) (fun _ _ h => h)) <|
  fa1 (ks_put (pc := 428) (ty := tyX12 80) (ci := 12) (f := 80) (idx := 165) (C := RX12) (T := TX12) (NF := 83) (by decide +kernel) rfl (by decide) inG_X12 (by decide) w_1318 tyX12 tyX12_ok nmX12 rfl (tyX12_ok 80 (by decide)) fR_arr) <|
  fa1 (ks_aload_n (pc := 431) (kf := 0) (j := 0) (by decide +kernel) rfl) <|
  fa1 (ks_iconst (pc := 432) (n := 4) (v := 4) (by decide +kernel) (by decide +kernel) (p32 rfl)) <|
  fa1 (ks_newa (pc := 433) (atype := .int) (t := 20) (by decide +kernel) (by decide) w_153 rfl rfl (by decide) (fun _ _ h => h)) <|
  fa1 (ks_put (pc := 435) (ty := tyX12 81) (ci := 12) (f := 81) (idx := 168) (C := RX12) (T := TX12) (NF := 83) (by decide +kernel) rfl (by decide) inG_X12 (by decide) w_1319 tyX12 tyX12_ok nmX12 rfl (tyX12_ok 81 (by decide)) fR_arr) <|
  fa1 (ks_aload_n (pc := 438) (kf := 0) (j := 0) (by decide +kernel) rfl) <|
  fa1 (ks_sipush (pc := 439) (n := 360) (v := 360) (by decide +kernel) (by decide +kernel) (p32 rfl)) <|
  fa1 (ks_newa (pc := 442) (atype := .int) (t := 20) (by decide +kernel) (by decide) w_153 rfl rfl (by decide) (fun _ _ h => h)) <|
  fa1 (ks_put (pc := 444) (ty := tyX12 82) (ci := 12) (f := 82) (idx := 171) (C := RX12) (T := TX12) (NF := 83) (by decide +kernel) rfl (by decide) inG_X12 (by decide) w_1320 tyX12 tyX12_ok nmX12 rfl (tyX12_ok 82 (by decide)) fR_arr) <|
  fa1 (ks_iconst (pc := 447) (n := 0) (v := 0) (by decide +kernel) (by decide +kernel) (p32 rfl)) <|
  fa1 (ks_istore_n (pc := 448) (kf := 1) (j := 1) (by decide +kernel) rfl (by decide)) <|
  fa1 (ks_iload_n (pc := 449) (kf := 1) (j := 1) (by decide +kernel) rfl) <|
  fa1 (ks_iconst (pc := 450) (n := 4) (v := 4) (by decide +kernel) (by decide +kernel) (p32 rfl)) <|
  fa1 (ks_cmpge (pc := 451) (off := 17) (by decide +kernel) (by decide)) <|
  fa1 (ks_aload_n (pc := 454) (kf := 0) (j := 0) (by decide +kernel) rfl) <|
  fa1 (ks_get (pc := 455) (ci := 12) (f := 80) (idx := 165) (C := RX12) (T := TX12) (NF := 83) (by decide +kernel) rfl (by decide) inG_X12 (by decide) w_1318) <|
  fa1 (ks_iload_n (pc := 458) (kf := 1) (j := 1) (by decide +kernel) rfl) <|
  fa1 (ks_bipush (pc := 459) (n := -4) (v := -4) (by decide +kernel) (by decide +kernel) (p32 rfl)) <|
  fa1 (ks_iast (pc := 461) (by decide +kernel)) <|
  fa1 (ks_iinc (pc := 462) (j := 1) (d := 1) (by decide +kernel) (by decide)) <|
  fa1 (ks_goto (pc := 465) (off := -16) (by decide +kernel) (by decide)) <|
  fa1 (ks_ret (pc := 468) (by decide +kernel)) <| fa0
theorem gg_X12_init {G : Wp} {l : Launch} : KGood G l yX12_init cX12_init 2 1 20 f_X12_init := metK_of (fun n0 z0 N Z _ _ h => ks_X12_init G l n0 z0 N Z _ (lkpK_mem h)) (by decide +kernel) rfl rfl
