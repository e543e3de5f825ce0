noncomputable def k_X8_at : List (Nat × Ins) := [
  (0, i_iload 1 1),
  (1, i_iflt 4 21),
  (4, i_iload 5 1),
  (5, i_aload 6 0),
  (6, i_getI 9 8 1),
  (9, i_cmpge 12 21),
  (12, i_aload 13 0),
  (13, i_getR 16 8 21 (fun c => c + 1)),
  (16, i_iload 17 1),
  (17, i_ald 18 21 lnC),
  (18, i_goto 23),
  (21, i_push 23 (.inl (-4))),
  (23, i_iret)]
noncomputable def kc_X8_at : Nat → Option Ins := lkp k_X8_at
noncomputable def f_X8_at : List AV → Mem → Option Rs := den 2 kc_X8_at
abbrev rm_X8_at : Room := { frames := 0, cells := 0, slots := 0, locals := 0 }
set_option maxRecDepth 100000 in
theorem kt_X8_at : TriC kc_X8_at := lkp_tri (fa1 (tri_iload 1 1) (fa1 (tri_iflt 4 21) (fa1 (tri_iload 5 1) (fa1 (tri_aload 6 0) (fa1 (tri_getI 9 8 1) (fa1 (tri_cmpge 12 21) (fa1 (tri_aload 13 0) (fa1 (tri_getR 16 8 21 (fun c => c + 1)) (fa1 (tri_iload 17 1) (fa1 (tri_ald 18 21 lnC) (fa1 (tri_goto 23) (fa1 (tri_push 23 (.inl (-4))) (fa1 (tri_iret) (fa0))))))))))))))
set_option maxRecDepth 100000 in
set_option maxHeartbeats 4000000 in
theorem ks_X8_at (G : Wp) (l : Launch) : ∀ e ∈ k_X8_at, Snd loC G l RX8 cX8_at 2 (some .int) rm_X8_at e.1 e.2 :=
  fa1 (s_iload_n (kf := 1) (j := 1) (by decide +kernel) rfl) <|
  fa1 (s_iflt (off := 20) (by decide +kernel) (by decide)) <|
  fa1 (s_iload_n (kf := 1) (j := 1) (by decide +kernel) rfl) <|
  fa1 (s_aload_n (kf := 0) (j := 0) (by decide +kernel) rfl) <|
  fa1 (s_getI (ci := 8) (f := 1) (idx := 21) (C := RX8) (T := TX8) (NF := 2) (by decide +kernel) rfl (by decide) inG_X8 (by decide) w_140 li_X8_1) <|
  fa1 (s_cmpge (off := 12) (by decide +kernel) (by decide)) <|
  fa1 (s_aload_n (kf := 0) (j := 0) (by decide +kernel) rfl) <|
  fa1 (s_getR (t2 := 21) (g := (fun c => c + 1)) (ci := 8) (f := 0) (idx := 15) (C := RX8) (T := TX8) (NF := 2) (by decide +kernel) rfl (by decide) inG_X8 (by decide) w_139 lr_X8_0 (by decide)) <|
  fa1 (s_iload_n (kf := 1) (j := 1) (by decide +kernel) rfl) <|
  fa1 (s_bald (by decide +kernel)) <|
  fa1 (s_goto (off := 5) (by decide +kernel) (by decide)) <|
  fa1 (s_bipush (n := -4) (v := -4) (by decide +kernel) (by decide +kernel) (p32 rfl)) <|
  fa1 (s_iret (by decide +kernel) rfl) <| fa0
theorem gg_X8_at {G : Wp} {l : Launch} : GoodM loC G l yX8_at cX8_at 2 (some .int) rm_X8_at f_X8_at := met_of kt_X8_at (lkp_snd (ks_X8_at G l)) (by decide +kernel) rfl (by decide)
noncomputable def k_X9_numberOf : List (Nat × Ins) := [
  (0, i_iload 1 1),
  (1, i_iflt 4 18),
  (4, i_iload 5 1),
  (5, i_push 6 (.inl 4)),
  (6, i_cmpge 9 18),
  (9, i_aload 10 0),
  (10, i_getR 13 9 20 (fun _ => 4)),
  (13, i_iload 14 1),
  (14, i_ald 15 20 lnC),
  (15, i_goto 20),
  (18, i_push 20 (.inl (-4))),
  (20, i_iret)]
noncomputable def kc_X9_numberOf : Nat → Option Ins := lkp k_X9_numberOf
noncomputable def f_X9_numberOf : List AV → Mem → Option Rs := den 2 kc_X9_numberOf
abbrev rm_X9_numberOf : Room := { frames := 0, cells := 0, slots := 0, locals := 0 }
set_option maxRecDepth 100000 in
theorem kt_X9_numberOf : TriC kc_X9_numberOf := lkp_tri (fa1 (tri_iload 1 1) (fa1 (tri_iflt 4 18) (fa1 (tri_iload 5 1) (fa1 (tri_push 6 (.inl 4)) (fa1 (tri_cmpge 9 18) (fa1 (tri_aload 10 0) (fa1 (tri_getR 13 9 20 (fun _ => 4)) (fa1 (tri_iload 14 1) (fa1 (tri_ald 15 20 lnC) (fa1 (tri_goto 20) (fa1 (tri_push 20 (.inl (-4))) (fa1 (tri_iret) (fa0)))))))))))))
set_option maxRecDepth 100000 in
set_option maxHeartbeats 4000000 in
theorem ks_X9_numberOf (G : Wp) (l : Launch) : ∀ e ∈ k_X9_numberOf, Snd loC G l RX9 cX9_numberOf 2 (some .int) rm_X9_numberOf e.1 e.2 :=
  fa1 (s_iload_n (kf := 1) (j := 1) (by decide +kernel) rfl) <|
  fa1 (s_iflt (off := 17) (by decide +kernel) (by decide)) <|
  fa1 (s_iload_n (kf := 1) (j := 1) (by decide +kernel) rfl) <|
  fa1 (s_iconst (n := 4) (v := 4) (by decide +kernel) (by decide +kernel) (p32 rfl)) <|
  fa1 (s_cmpge (off := 12) (by decide +kernel) (by decide)) <|
  fa1 (s_aload_n (kf := 0) (j := 0) (by decide +kernel) rfl) <|
  fa1 (s_getR (t2 := 20) (g := (fun _ => 4)) (ci := 9) (f := 2) (idx := 18) (C := RX9) (T := TX9) (NF := 6) (by decide +kernel) rfl (by decide) inG_X9 (by decide) w_157 lr_X9_2 (by decide)) <|
  fa1 (s_iload_n (kf := 1) (j := 1) (by decide +kernel) rfl) <|
  fa1 (s_iald (by decide +kernel)) <|
  fa1 (s_goto (off := 5) (by decide +kernel) (by decide)) <|
  fa1 (s_bipush (n := -4) (v := -4) (by decide +kernel) (by decide +kernel) (p32 rfl)) <|
  fa1 (s_iret (by decide +kernel) rfl) <| fa0
theorem gg_X9_numberOf {G : Wp} {l : Launch} : GoodM loC G l yX9_numberOf cX9_numberOf 2 (some .int) rm_X9_numberOf f_X9_numberOf := met_of kt_X9_numberOf (lkp_snd (ks_X9_numberOf G l)) (by decide +kernel) rfl (by decide)
noncomputable def k_X0_firstWord : List (Nat × Ins) := [
  (0, i_iload 1 2),
  (1, i_istore 2 3),
  (2, i_iload 3 3),
  (3, i_aload 4 1),
  (4, i_getI 7 8 1),
  (7, i_cmpge 10 33),
  (10, i_aload 11 0),
  (11, i_getR 14 0 9 (fun _ => 1)),
  (14, i_aload 15 1),
  (15, i_iload 16 3),
  (16, i_callI 19 2 (rcv 8) f_X8_at),
  (19, i_callI 22 2 (rcv 9) f_X9_numberOf),
  (22, i_iflt 25 27),
  (25, i_iload 26 3),
  (26, i_iret),
  (27, i_iinc 30 3 (1)),
  (30, i_goto 2),
  (33, i_push 35 (.inl (-4))),
  (35, i_iret)]
noncomputable def kc_X0_firstWord : Nat → Option Ins := lkp k_X0_firstWord
noncomputable def f_X0_firstWord : List AV → Mem → Option Rs := den 4 kc_X0_firstWord
abbrev rm_X0_firstWord : Room := { frames := 1, cells := 0, slots := 0, locals := 21 }
set_option maxRecDepth 100000 in
theorem kt_X0_firstWord : TriC kc_X0_firstWord := lkp_tri (fa1 (tri_iload 1 2) (fa1 (tri_istore 2 3) (fa1 (tri_iload 3 3) (fa1 (tri_aload 4 1) (fa1 (tri_getI 7 8 1) (fa1 (tri_cmpge 10 33) (fa1 (tri_aload 11 0) (fa1 (tri_getR 14 0 9 (fun _ => 1)) (fa1 (tri_aload 15 1) (fa1 (tri_iload 16 3) (fa1 (tri_callI 19 2 (rcv 8) f_X8_at) (fa1 (tri_callI 22 2 (rcv 9) f_X9_numberOf) (fa1 (tri_iflt 25 27) (fa1 (tri_iload 26 3) (fa1 (tri_iret) (fa1 (tri_iinc 30 3 (1)) (fa1 (tri_goto 2) (fa1 (tri_push 35 (.inl (-4))) (fa1 (tri_iret) (fa0))))))))))))))))))))
set_option maxRecDepth 100000 in
set_option maxHeartbeats 4000000 in
theorem ks_X0_firstWord (G : Wp) (l : Launch) : ∀ e ∈ k_X0_firstWord, Snd loC G l RX0 cX0_firstWord 4 (some .int) rm_X0_firstWord e.1 e.2 :=
  fa1 (s_iload_n (kf := 2) (j := 2) (by decide +kernel) rfl) <|
  fa1 (s_istore_n (kf := 3) (j := 3) (by decide +kernel) rfl (by decide)) <|
  fa1 (s_iload_n (kf := 3) (j := 3) (by decide +kernel) rfl) <|
  fa1 (s_aload_n (kf := 1) (j := 1) (by decide +kernel) rfl) <|
  fa1 (s_getI (ci := 8) (f := 1) (idx := 71) (C := RX8) (T := TX8) (NF := 2) (by decide +kernel) rfl (by decide) inG_X8 (by decide) w_143 li_X8_1) <|
  fa1 (s_cmpge (off := 26) (by decide +kernel) (by decide)) <|
  fa1 (s_aload_n (kf := 0) (j := 0) (by decide +kernel) rfl) <|
  fa1 (s_getR (t2 := 9) (g := (fun _ => 1)) (ci := 0) (f := 0) (idx := 42) (C := RX0) (T := TX0) (NF := 11) (by decide +kernel) rfl (by decide) inG_X0 (by decide) w_507 lr_X0_0 (by decide)) <|
  fa1 (s_aload_n (kf := 1) (j := 1) (by decide +kernel) rfl) <|
  fa1 (s_iload_n (kf := 3) (j := 3) (by decide +kernel) rfl) <|
  fa1 (s_vcallI (n := 1) (ci := 8) (C := RX8) (T := TX8) (NF := 2) (idx := 109) (y := yX8_at) (by decide +kernel) (gg_X8_at) rfl (by decide) yv_X8_at (all5 w_1105 w_667 w_668 w_102 w_669) rfl rfl ⟨by decide, by decide⟩) <|
  fa1 (s_vcallI (n := 1) (ci := 9) (C := RX9) (T := TX9) (NF := 6) (idx := 113) (y := yX9_numberOf) (by decide +kernel) (gg_X9_numberOf) rfl (by decide) yv_X9_numberOf (all5 w_1106 w_651 w_652 w_101 w_653) rfl rfl ⟨by decide, by decide⟩) <|
  fa1 (s_iflt (off := 5) (by decide +kernel) (by decide)) <|
  fa1 (s_iload_n (kf := 3) (j := 3) (by decide +kernel) rfl) <|
  fa1 (s_iret (by decide +kernel) rfl) <|
  fa1 (s_iinc (j := 3) (d := 1) (by decide +kernel) (by decide)) <|
  fa1 (s_goto (off := -28) (by decide +kernel) (by decide)) <|
  fa1 (s_bipush (n := -4) (v := -4) (by decide +kernel) (by decide +kernel) (p32 rfl)) <|
  fa1 (s_iret (by decide +kernel) rfl) <| fa0
theorem gg_X0_firstWord {G : Wp} {l : Launch} : GoodM loC G l yX0_firstWord cX0_firstWord 4 (some .int) rm_X0_firstWord f_X0_firstWord := met_of kt_X0_firstWord (lkp_snd (ks_X0_firstWord G l)) (by decide +kernel) rfl (by decide)
noncomputable def k_X8_add : List (Nat × Ins) := [
  (0, i_aload 1 0),
  (1, i_getI 4 8 1),
  (4, i_aload 5 0),
  (5, i_getR 8 8 21 (fun c => c + 1)),
  (8, i_alen 9 21 lnC),
  (9, i_cmplt 12 14),
  (12, i_push 13 (.inl 0)),
  (13, i_zret),
  (14, i_aload 15 0),
  (15, i_getR 18 8 21 (fun c => c + 1)),
  (18, i_aload 19 0),
  (19, i_getI 22 8 1),
  (22, i_iload 23 1),
  (23, i_un 24 wrB),
  (24, i_ast 25 21 lnC wrB),
  (25, i_aload 26 0),
  (26, i_dup 27),
  (27, i_getI 30 8 1),
  (30, i_push 31 (.inl 1)),
  (31, i_bin 32 (fun x y => wr (x + y))),
  (32, i_putI 35 8 1),
  (35, i_push 36 (.inl 1)),
  (36, i_zret)]
noncomputable def kc_X8_add : Nat → Option Ins := lkp k_X8_add
noncomputable def f_X8_add : List AV → Mem → Option Rs := den 2 kc_X8_add
abbrev rm_X8_add : Room := { frames := 0, cells := 0, slots := 0, locals := 0 }
set_option maxRecDepth 100000 in
theorem kt_X8_add : TriC kc_X8_add := lkp_tri (fa1 (tri_aload 1 0) (fa1 (tri_getI 4 8 1) (fa1 (tri_aload 5 0) (fa1 (tri_getR 8 8 21 (fun c => c + 1)) (fa1 (tri_alen 9 21 lnC) (fa1 (tri_cmplt 12 14) (fa1 (tri_push 13 (.inl 0)) (fa1 (tri_zret) (fa1 (tri_aload 15 0) (fa1 (tri_getR 18 8 21 (fun c => c + 1)) (fa1 (tri_aload 19 0) (fa1 (tri_getI 22 8 1) (fa1 (tri_iload 23 1) (fa1 (tri_un 24 wrB) (fa1 (tri_ast 25 21 lnC wrB) (fa1 (tri_aload 26 0) (fa1 (tri_dup 27) (fa1 (tri_getI 30 8 1) (fa1 (tri_push 31 (.inl 1)) (fa1 (tri_bin 32 (fun x y => wr (x + y))) (fa1 (tri_putI 35 8 1) (fa1 (tri_push 36 (.inl 1)) (fa1 (tri_zret) (fa0))))))))))))))))))))))))
set_option maxRecDepth 100000 in
set_option maxHeartbeats 4000000 in
theorem ks_X8_add (G : Wp) (l : Launch) : ∀ e ∈ k_X8_add, Snd loC G l RX8 cX8_add 2 (some .boolean) rm_X8_add e.1 e.2 :=
  fa1 (s_aload_n (kf := 0) (j := 0) (by decide +kernel) rfl) <|
  fa1 (s_getI (ci := 8) (f := 1) (idx := 21) (C := RX8) (T := TX8) (NF := 2) (by decide +kernel) rfl (by decide) inG_X8 (by decide) w_140 li_X8_1) <|
  fa1 (s_aload_n (kf := 0) (j := 0) (by decide +kernel) rfl) <|
  fa1 (s_getR (t2 := 21) (g := (fun c => c + 1)) (ci := 8) (f := 0) (idx := 15) (C := RX8) (T := TX8) (NF := 2) (by decide +kernel) rfl (by decide) inG_X8 (by decide) w_139 lr_X8_0 (by decide)) <|
  fa1 (s_alen (t := 21) (by decide +kernel) (by decide) (by decide) ll_loC_21) <|
  fa1 (s_cmplt (off := 5) (by decide +kernel) (by decide)) <|
  fa1 (s_iconst (n := 0) (v := 0) (by decide +kernel) (by decide +kernel) (p32 rfl)) <|
  fa1 (s_zret (by decide +kernel) rfl) <|
  fa1 (s_aload_n (kf := 0) (j := 0) (by decide +kernel) rfl) <|
  fa1 (s_getR (t2 := 21) (g := (fun c => c + 1)) (ci := 8) (f := 0) (idx := 15) (C := RX8) (T := TX8) (NF := 2) (by decide +kernel) rfl (by decide) inG_X8 (by decide) w_139 lr_X8_0 (by decide)) <|
  fa1 (s_aload_n (kf := 0) (j := 0) (by decide +kernel) rfl) <|
  fa1 (s_getI (ci := 8) (f := 1) (idx := 21) (C := RX8) (T := TX8) (NF := 2) (by decide +kernel) rfl (by decide) inG_X8 (by decide) w_140 li_X8_1) <|
  fa1 (s_iload_n (kf := 1) (j := 1) (by decide +kernel) rfl) <|
  fa1 (s_i2b (by decide +kernel)) <|
  fa1 (s_bast (by decide +kernel) lt_loC_21) <|
  fa1 (s_aload_n (kf := 0) (j := 0) (by decide +kernel) rfl) <|
  fa1 (s_dup (by decide +kernel)) <|
  fa1 (s_getI (ci := 8) (f := 1) (idx := 21) (C := RX8) (T := TX8) (NF := 2) (by decide +kernel) rfl (by decide) inG_X8 (by decide) w_140 li_X8_1) <|
  fa1 (s_iconst (n := 1) (v := 1) (by decide +kernel) (by decide +kernel) (p32 rfl)) <|
  fa1 (s_iadd (by decide +kernel)) <|
  fa1 (s_putI (ci := 8) (f := 1) (idx := 21) (C := RX8) (T := TX8) (NF := 2) (by decide +kernel) rfl (by decide) inG_X8 (by decide) w_140 tyX8 tyX8_ok nmX8 rfl (by decide +kernel) li_X8_1) <|
  fa1 (s_iconst (n := 1) (v := 1) (by decide +kernel) (by decide +kernel) (p32 rfl)) <|
  fa1 (s_zret (by decide +kernel) rfl) <| fa0
theorem gg_X8_add {G : Wp} {l : Launch} : GoodM loC G l yX8_add cX8_add 2 (some .boolean) rm_X8_add f_X8_add := met_of kt_X8_add (lkp_snd (ks_X8_add G l)) (by decide +kernel) rfl (by decide)
noncomputable def k_X8_addPart : List (Nat × Ins) := [
  (0, i_iload 1 2),
  (1, i_iflt 4 33),
  (4, i_iload 5 2),
  (5, i_iload 6 3),
  (6, i_cmpgt 9 33),
  (9, i_iload 10 3),
  (10, i_aload 11 1),
  (11, i_getI 14 8 1),
  (14, i_cmpgt 17 33),
  (17, i_iload 18 3),
  (18, i_iload 19 2),
  (19, i_bin 20 (fun x y => wr (x - y))),
  (20, i_aload 21 0),
  (21, i_getR 24 8 21 (fun c => c + 1)),
  (24, i_alen 25 21 lnC),
  (25, i_aload 26 0),
  (26, i_getI 29 8 1),
  (29, i_bin 30 (fun x y => wr (x - y))),
  (30, i_cmple 33 35),
  (33, i_push 34 (.inl 0)),
  (34, i_zret),
  (35, i_iload 36 2),
  (36, i_istore 38 4),
  (38, i_iload 40 4),
  (40, i_iload 41 3),
  (41, i_cmpge 44 76),
  (44, i_aload 45 0),
  (45, i_getR 48 8 21 (fun c => c + 1)),
  (48, i_aload 49 0),
  (49, i_getI 52 8 1),
  (52, i_aload 53 1),
  (53, i_getR 56 8 21 (fun c => c + 1)),
  (56, i_iload 58 4),
  (58, i_ald 59 21 lnC),
  (59, i_ast 60 21 lnC wrB),
  (60, i_aload 61 0),
  (61, i_dup 62),
  (62, i_getI 65 8 1),
  (65, i_push 66 (.inl 1)),
  (66, i_bin 67 (fun x y => wr (x + y))),
  (67, i_putI 70 8 1),
  (70, i_iinc 73 4 (1)),
  (73, i_goto 38),
  (76, i_push 77 (.inl 1)),
  (77, i_zret)]
noncomputable def kc_X8_addPart : Nat → Option Ins := lkp k_X8_addPart
noncomputable def f_X8_addPart : List AV → Mem → Option Rs := den 5 kc_X8_addPart
abbrev rm_X8_addPart : Room := { frames := 0, cells := 0, slots := 0, locals := 0 }
set_option maxRecDepth 100000 in
theorem kt_X8_addPart : TriC kc_X8_addPart := lkp_tri (fa1 (tri_iload 1 2) (fa1 (tri_iflt 4 33) (fa1 (tri_iload 5 2) (fa1 (tri_iload 6 3) (fa1 (tri_cmpgt 9 33) (fa1 (tri_iload 10 3) (fa1 (tri_aload 11 1) (fa1 (tri_getI 14 8 1) (fa1 (tri_cmpgt 17 33) (fa1 (tri_iload 18 3) (fa1 (tri_iload 19 2) (fa1 (tri_bin 20 (fun x y => wr (x - y))) (fa1 (tri_aload 21 0) (fa1 (tri_getR 24 8 21 (fun c => c + 1)) (fa1 (tri_alen 25 21 lnC) (fa1 (tri_aload 26 0) (fa1 (tri_getI 29 8 1) (fa1 (tri_bin 30 (fun x y => wr (x - y))) (fa1 (tri_cmple 33 35) (fa1 (tri_push 34 (.inl 0)) (fa1 (tri_zret) (fa1 (tri_iload 36 2) (fa1 (tri_istore 38 4) (fa1 (tri_iload 40 4) (fa1 (tri_iload 41 3) (fa1 (tri_cmpge 44 76) (fa1 (tri_aload 45 0) (fa1 (tri_getR 48 8 21 (fun c => c + 1)) (fa1 (tri_aload 49 0) (fa1 (tri_getI 52 8 1) (fa1 (tri_aload 53 1) (fa1 (tri_getR 56 8 21 (fun c => c + 1)) (fa1 (tri_iload 58 4) (fa1 (tri_ald 59 21 lnC) (fa1 (tri_ast 60 21 lnC wrB) (fa1 (tri_aload 61 0) (fa1 (tri_dup 62) (fa1 (tri_getI 65 8 1) (fa1 (tri_push 66 (.inl 1)) (fa1 (tri_bin 67 (fun x y => wr (x + y))) (fa1 (tri_putI 70 8 1) (fa1 (tri_iinc 73 4 (1)) (fa1 (tri_goto 38) (fa1 (tri_push 77 (.inl 1)) (fa1 (tri_zret) (fa0))))))))))))))))))))))))))))))))))))))))))))))
set_option maxRecDepth 100000 in
set_option maxHeartbeats 4000000 in
theorem ks_X8_addPart (G : Wp) (l : Launch) : ∀ e ∈ k_X8_addPart, Snd loC G l RX8 cX8_addPart 5 (some .boolean) rm_X8_addPart e.1 e.2 :=
  fa1 (s_iload_n (kf := 2) (j := 2) (by decide +kernel) rfl) <|
  fa1 (s_iflt (off := 32) (by decide +kernel) (by decide)) <|
  fa1 (s_iload_n (kf := 2) (j := 2) (by decide +kernel) rfl) <|
  fa1 (s_iload_n (kf := 3) (j := 3) (by decide +kernel) rfl) <|
  fa1 (s_cmpgt (off := 27) (by decide +kernel) (by decide)) <|
  fa1 (s_iload_n (kf := 3) (j := 3) (by decide +kernel) rfl) <|
  fa1 (s_aload_n (kf := 1) (j := 1) (by decide +kernel) rfl) <|
  fa1 (s_getI (ci := 8) (f := 1) (idx := 21) (C := RX8) (T := TX8) (NF := 2) (by decide +kernel) rfl (by decide) inG_X8 (by decide) w_140 li_X8_1) <|
  fa1 (s_cmpgt (off := 19) (by decide +kernel) (by decide)) <|
  fa1 (s_iload_n (kf := 3) (j := 3) (by decide +kernel) rfl) <|
  fa1 (s_iload_n (kf := 2) (j := 2) (by decide +kernel) rfl) <|
  fa1 (s_isub (by decide +kernel)) <|
  fa1 (s_aload_n (kf := 0) (j := 0) (by decide +kernel) rfl) <|
  fa1 (s_getR (t2 := 21) (g := (fun c => c + 1)) (ci := 8) (f := 0) (idx := 15) (C := RX8) (T := TX8) (NF := 2) (by decide +kernel) rfl (by decide) inG_X8 (by decide) w_139 lr_X8_0 (by decide)) <|
  fa1 (s_alen (t := 21) (by decide +kernel) (by decide) (by decide) ll_loC_21) <|
  fa1 (s_aload_n (kf := 0) (j := 0) (by decide +kernel) rfl) <|
  fa1 (s_getI (ci := 8) (f := 1) (idx := 21) (C := RX8) (T := TX8) (NF := 2) (by decide +kernel) rfl (by decide) inG_X8 (by decide) w_140 li_X8_1) <|
  fa1 (s_isub (by decide +kernel)) <|
  fa1 (s_cmple (off := 5) (by decide +kernel) (by decide)) <|
  fa1 (s_iconst (n := 0) (v := 0) (by decide +kernel) (by decide +kernel) (p32 rfl)) <|
  fa1 (s_zret (by decide +kernel) rfl) <|
  fa1 (s_iload_n (kf := 2) (j := 2) (by decide +kernel) rfl) <|
  fa1 (s_istore (j := 4) (by decide +kernel) (by decide)) <|
  fa1 (s_iload (j := 4) (by decide +kernel)) <|
  fa1 (s_iload_n (kf := 3) (j := 3) (by decide +kernel) rfl) <|
  fa1 (s_cmpge (off := 35) (by decide +kernel) (by decide)) <|
  fa1 (s_aload_n (kf := 0) (j := 0) (by decide +kernel) rfl) <|
  fa1 (s_getR (t2 := 21) (g := (fun c => c + 1)) (ci := 8) (f := 0) (idx := 15) (C := RX8) (T := TX8) (NF := 2) (by decide +kernel) rfl (by decide) inG_X8 (by decide) w_139 lr_X8_0 (by decide)) <|
  fa1 (s_aload_n (kf := 0) (j := 0) (by decide +kernel) rfl) <|
  fa1 (s_getI (ci := 8) (f := 1) (idx := 21) (C := RX8) (T := TX8) (NF := 2) (by decide +kernel) rfl (by decide) inG_X8 (by decide) w_140 li_X8_1) <|
  fa1 (s_aload_n (kf := 1) (j := 1) (by decide +kernel) rfl) <|
  fa1 (s_getR (t2 := 21) (g := (fun c => c + 1)) (ci := 8) (f := 0) (idx := 15) (C := RX8) (T := TX8) (NF := 2) (by decide +kernel) rfl (by decide) inG_X8 (by decide) w_139 lr_X8_0 (by decide)) <|
  fa1 (s_iload (j := 4) (by decide +kernel)) <|
  fa1 (s_bald (by decide +kernel)) <|
  fa1 (s_bast (by decide +kernel) lt_loC_21) <|
  fa1 (s_aload_n (kf := 0) (j := 0) (by decide +kernel) rfl) <|
  fa1 (s_dup (by decide +kernel)) <|
  fa1 (s_getI (ci := 8) (f := 1) (idx := 21) (C := RX8) (T := TX8) (NF := 2) (by decide +kernel) rfl (by decide) inG_X8 (by decide) w_140 li_X8_1) <|
  fa1 (s_iconst (n := 1) (v := 1) (by decide +kernel) (by decide +kernel) (p32 rfl)) <|
  fa1 (s_iadd (by decide +kernel)) <|
  fa1 (s_putI (ci := 8) (f := 1) (idx := 21) (C := RX8) (T := TX8) (NF := 2) (by decide +kernel) rfl (by decide) inG_X8 (by decide) w_140 tyX8 tyX8_ok nmX8 rfl (by decide +kernel) li_X8_1) <|
  fa1 (s_iinc (j := 4) (d := 1) (by decide +kernel) (by decide)) <|
  fa1 (s_goto (off := -35) (by decide +kernel) (by decide)) <|
  fa1 (s_iconst (n := 1) (v := 1) (by decide +kernel) (by decide +kernel) (p32 rfl)) <|
  fa1 (s_zret (by decide +kernel) rfl) <| fa0
theorem gg_X8_addPart {G : Wp} {l : Launch} : GoodM loC G l yX8_addPart cX8_addPart 5 (some .boolean) rm_X8_addPart f_X8_addPart := met_of kt_X8_addPart (lkp_snd (ks_X8_addPart G l)) (by decide +kernel) rfl (by decide)
noncomputable def k_X8_copy : List (Nat × Ins) := [
  (0, i_aload 1 0),
  (1, i_push 2 (.inl 0)),
  (2, i_putI 5 8 1),
  (5, i_aload 6 0),
  (6, i_aload 7 1),
  (7, i_push 8 (.inl 0)),
  (8, i_aload 9 1),
  (9, i_getI 12 8 1),
  (12, i_callI 15 4 (rcv 8) f_X8_addPart),
  (15, i_pop 16),
  (16, i_vret)]
noncomputable def kc_X8_copy : Nat → Option Ins := lkp k_X8_copy
noncomputable def f_X8_copy : List AV → Mem → Option Rs := den 2 kc_X8_copy
abbrev rm_X8_copy : Room := { frames := 1, cells := 0, slots := 0, locals := 24 }
set_option maxRecDepth 100000 in
theorem kt_X8_copy : TriC kc_X8_copy := lkp_tri (fa1 (tri_aload 1 0) (fa1 (tri_push 2 (.inl 0)) (fa1 (tri_putI 5 8 1) (fa1 (tri_aload 6 0) (fa1 (tri_aload 7 1) (fa1 (tri_push 8 (.inl 0)) (fa1 (tri_aload 9 1) (fa1 (tri_getI 12 8 1) (fa1 (tri_callI 15 4 (rcv 8) f_X8_addPart) (fa1 (tri_pop 16) (fa1 (tri_vret) (fa0))))))))))))
set_option maxRecDepth 100000 in
set_option maxHeartbeats 4000000 in
theorem ks_X8_copy (G : Wp) (l : Launch) : ∀ e ∈ k_X8_copy, Snd loC G l RX8 cX8_copy 2 none rm_X8_copy e.1 e.2 :=
  fa1 (s_aload_n (kf := 0) (j := 0) (by decide +kernel) rfl) <|
  fa1 (s_iconst (n := 0) (v := 0) (by decide +kernel) (by decide +kernel) (p32 rfl)) <|
  fa1 (s_putI (ci := 8) (f := 1) (idx := 21) (C := RX8) (T := TX8) (NF := 2) (by decide +kernel) rfl (by decide) inG_X8 (by decide) w_140 tyX8 tyX8_ok nmX8 rfl (by decide +kernel) li_X8_1) <|
  fa1 (s_aload_n (kf := 0) (j := 0) (by decide +kernel) rfl) <|
  fa1 (s_aload_n (kf := 1) (j := 1) (by decide +kernel) rfl) <|
  fa1 (s_iconst (n := 0) (v := 0) (by decide +kernel) (by decide +kernel) (p32 rfl)) <|
  fa1 (s_aload_n (kf := 1) (j := 1) (by decide +kernel) rfl) <|
  fa1 (s_getI (ci := 8) (f := 1) (idx := 21) (C := RX8) (T := TX8) (NF := 2) (by decide +kernel) rfl (by decide) inG_X8 (by decide) w_140 li_X8_1) <|
  fa1 (s_vcallI (n := 3) (ci := 8) (C := RX8) (T := TX8) (NF := 2) (idx := 25) (y := yX8_addPart) (by decide +kernel) (gg_X8_addPart) rfl (by decide) yv_X8_addPart (all5 w_687 w_688 w_689 w_102 w_690) rfl rfl ⟨by decide, by decide⟩) <|
  fa1 (s_pop (by decide +kernel)) <|
  fa1 (s_vret (by decide +kernel) rfl) <| fa0
theorem gg_X8_copy {G : Wp} {l : Launch} : GoodM loC G l yX8_copy cX8_copy 2 none rm_X8_copy f_X8_copy := met_of kt_X8_copy (lkp_snd (ks_X8_copy G l)) (by decide +kernel) rfl (by decide)
noncomputable def k_X9_behind : List (Nat × Ins) := [
  (0, i_iload 1 1),
  (1, i_push 3 (.inl 12)),
  (3, i_cmpne 6 8),
  (6, i_push 7 (.inl 2)),
  (7, i_iret),
  (8, i_iload 9 1),
  (9, i_iflt 12 26),
  (12, i_iload 13 1),
  (13, i_push 14 (.inl 4)),
  (14, i_cmpge 17 26),
  (17, i_aload 18 0),
  (18, i_getR 21 9 20 (fun _ => 4)),
  (21, i_iload 22 1),
  (22, i_ald 23 20 lnC),
  (23, i_goto 28),
  (26, i_push 28 (.inl (-4))),
  (28, i_istore 29 2),
  (29, i_iload 30 2),
  (30, i_iflt 33 50),
  (33, i_iload 34 2),
  (34, i_aload 35 0),
  (35, i_getI 38 9 5),
  (38, i_cmpge 41 50),
  (41, i_aload 42 0),
  (42, i_getR 45 9 20 (fun _ => 3)),
  (45, i_iload 46 2),
  (46, i_ald 47 20 lnC),
  (47, i_goto 51),
  (50, i_push 51 (.inl 0)),
  (51, i_iret)]
noncomputable def kc_X9_behind : Nat → Option Ins := lkp k_X9_behind
noncomputable def f_X9_behind : List AV → Mem → Option Rs := den 3 kc_X9_behind
abbrev rm_X9_behind : Room := { frames := 0, cells := 0, slots := 0, locals := 0 }
set_option maxRecDepth 100000 in
theorem kt_X9_behind : TriC kc_X9_behind := lkp_tri (fa1 (tri_iload 1 1) (fa1 (tri_push 3 (.inl 12)) (fa1 (tri_cmpne 6 8) (fa1 (tri_push 7 (.inl 2)) (fa1 (tri_iret) (fa1 (tri_iload 9 1) (fa1 (tri_iflt 12 26) (fa1 (tri_iload 13 1) (fa1 (tri_push 14 (.inl 4)) (fa1 (tri_cmpge 17 26) (fa1 (tri_aload 18 0) (fa1 (tri_getR 21 9 20 (fun _ => 4)) (fa1 (tri_iload 22 1) (fa1 (tri_ald 23 20 lnC) (fa1 (tri_goto 28) (fa1 (tri_push 28 (.inl (-4))) (fa1 (tri_istore 29 2) (fa1 (tri_iload 30 2) (fa1 (tri_iflt 33 50) (fa1 (tri_iload 34 2) (fa1 (tri_aload 35 0) (fa1 (tri_getI 38 9 5) (fa1 (tri_cmpge 41 50) (fa1 (tri_aload 42 0) (fa1 (tri_getR 45 9 20 (fun _ => 3)) (fa1 (tri_iload 46 2) (fa1 (tri_ald 47 20 lnC) (fa1 (tri_goto 51) (fa1 (tri_push 51 (.inl 0)) (fa1 (tri_iret) (fa0)))))))))))))))))))))))))))))))
set_option maxRecDepth 100000 in
set_option maxHeartbeats 4000000 in
theorem ks_X9_behind (G : Wp) (l : Launch) : ∀ e ∈ k_X9_behind, Snd loC G l RX9 cX9_behind 3 (some .int) rm_X9_behind e.1 e.2 :=
  fa1 (s_iload_n (kf := 1) (j := 1) (by decide +kernel) rfl) <|
  fa1 (s_bipush (n := 12) (v := 12) (by decide +kernel) (by decide +kernel) (p32 rfl)) <|
  fa1 (s_cmpne (off := 5) (by decide +kernel) (by decide)) <|
  fa1 (s_iconst (n := 2) (v := 2) (by decide +kernel) (by decide +kernel) (p32 rfl)) <|
  fa1 (s_iret (by decide +kernel) rfl) <|
  fa1 (s_iload_n (kf := 1) (j := 1) (by decide +kernel) rfl) <|
  fa1 (s_iflt (off := 17) (by decide +kernel) (by decide)) <|
  fa1 (s_iload_n (kf := 1) (j := 1) (by decide +kernel) rfl) <|
  fa1 (s_iconst (n := 4) (v := 4) (by decide +kernel) (by decide +kernel) (p32 rfl)) <|
  fa1 (s_cmpge (off := 12) (by decide +kernel) (by decide)) <|
  fa1 (s_aload_n (kf := 0) (j := 0) (by decide +kernel) rfl) <|
  fa1 (s_getR (t2 := 20) (g := (fun _ => 4)) (ci := 9) (f := 2) (idx := 18) (C := RX9) (T := TX9) (NF := 6) (by decide +kernel) rfl (by decide) inG_X9 (by decide) w_157 lr_X9_2 (by decide)) <|
  fa1 (s_iload_n (kf := 1) (j := 1) (by decide +kernel) rfl) <|
  fa1 (s_iald (by decide +kernel)) <|
  fa1 (s_goto (off := 5) (by decide +kernel) (by decide)) <|
  fa1 (s_bipush (n := -4) (v := -4) (by decide +kernel) (by decide +kernel) (p32 rfl)) <|
  fa1 (s_istore_n (kf := 2) (j := 2) (by decide +kernel) rfl (by decide)) <|
  fa1 (s_iload_n (kf := 2) (j := 2) (by decide +kernel) rfl) <|
  fa1 (s_iflt (off := 20) (by decide +kernel) (by decide)) <|
  fa1 (s_iload_n (kf := 2) (j := 2) (by decide +kernel) rfl) <|
  fa1 (s_aload_n (kf := 0) (j := 0) (by decide +kernel) rfl) <|
  fa1 (s_getI (ci := 9) (f := 5) (idx := 33) (C := RX9) (T := TX9) (NF := 6) (by decide +kernel) rfl (by decide) inG_X9 (by decide) w_160 li_X9_5) <|
  fa1 (s_cmpge (off := 12) (by decide +kernel) (by decide)) <|
  fa1 (s_aload_n (kf := 0) (j := 0) (by decide +kernel) rfl) <|
  fa1 (s_getR (t2 := 20) (g := (fun _ => 3)) (ci := 9) (f := 1) (idx := 15) (C := RX9) (T := TX9) (NF := 6) (by decide +kernel) rfl (by decide) inG_X9 (by decide) w_156 lr_X9_1 (by decide)) <|
  fa1 (s_iload_n (kf := 2) (j := 2) (by decide +kernel) rfl) <|
  fa1 (s_iald (by decide +kernel)) <|
  fa1 (s_goto (off := 4) (by decide +kernel) (by decide)) <|
  fa1 (s_iconst (n := 0) (v := 0) (by decide +kernel) (by decide +kernel) (p32 rfl)) <|
  fa1 (s_iret (by decide +kernel) rfl) <| fa0
theorem gg_X9_behind {G : Wp} {l : Launch} : GoodM loC G l yX9_behind cX9_behind 3 (some .int) rm_X9_behind f_X9_behind := met_of kt_X9_behind (lkp_snd (ks_X9_behind G l)) (by decide +kernel) rfl (by decide)
noncomputable def k_X9_endOf : List (Nat × Ins) := [
  (0, i_push 1 (.inl 1)),
  (1, i_istore 2 3),
  (2, i_iload 3 2),
  (3, i_istore 5 4),
  (5, i_iload 7 4),
  (7, i_aload 8 1),
  (8, i_getI 11 8 1),
  (11, i_cmpge 14 39),
  (14, i_iload 15 3),
  (15, i_ifle 18 39),
  (18, i_iload 19 3),
  (19, i_aload 20 0),
  (20, i_aload 21 1),
  (21, i_iload 23 4),
  (23, i_callI 26 2 (rcv 8) f_X8_at),
  (26, i_callI 29 2 (rcv 9) f_X9_behind),
  (29, i_push 30 (.inl 1)),
  (30, i_bin 31 (fun x y => wr (x - y))),
  (31, i_bin 32 (fun x y => wr (x + y))),
  (32, i_istore 33 3),
  (33, i_iinc 36 4 (1)),
  (36, i_goto 5),
  (39, i_iload 41 4),
  (41, i_iret)]
noncomputable def kc_X9_endOf : Nat → Option Ins := lkp k_X9_endOf
noncomputable def f_X9_endOf : List AV → Mem → Option Rs := den 5 kc_X9_endOf
abbrev rm_X9_endOf : Room := { frames := 1, cells := 0, slots := 0, locals := 22 }
set_option maxRecDepth 100000 in
theorem kt_X9_endOf : TriC kc_X9_endOf := lkp_tri (fa1 (tri_push 1 (.inl 1)) (fa1 (tri_istore 2 3) (fa1 (tri_iload 3 2) (fa1 (tri_istore 5 4) (fa1 (tri_iload 7 4) (fa1 (tri_aload 8 1) (fa1 (tri_getI 11 8 1) (fa1 (tri_cmpge 14 39) (fa1 (tri_iload 15 3) (fa1 (tri_ifle 18 39) (fa1 (tri_iload 19 3) (fa1 (tri_aload 20 0) (fa1 (tri_aload 21 1) (fa1 (tri_iload 23 4) (fa1 (tri_callI 26 2 (rcv 8) f_X8_at) (fa1 (tri_callI 29 2 (rcv 9) f_X9_behind) (fa1 (tri_push 30 (.inl 1)) (fa1 (tri_bin 31 (fun x y => wr (x - y))) (fa1 (tri_bin 32 (fun x y => wr (x + y))) (fa1 (tri_istore 33 3) (fa1 (tri_iinc 36 4 (1)) (fa1 (tri_goto 5) (fa1 (tri_iload 41 4) (fa1 (tri_iret) (fa0)))))))))))))))))))))))))
set_option maxRecDepth 100000 in
set_option maxHeartbeats 4000000 in
theorem ks_X9_endOf (G : Wp) (l : Launch) : ∀ e ∈ k_X9_endOf, Snd loC G l RX9 cX9_endOf 5 (some .int) rm_X9_endOf e.1 e.2 :=
  fa1 (s_iconst (n := 1) (v := 1) (by decide +kernel) (by decide +kernel) (p32 rfl)) <|
  fa1 (s_istore_n (kf := 3) (j := 3) (by decide +kernel) rfl (by decide)) <|
  fa1 (s_iload_n (kf := 2) (j := 2) (by decide +kernel) rfl) <|
  fa1 (s_istore (j := 4) (by decide +kernel) (by decide)) <|
  fa1 (s_iload (j := 4) (by decide +kernel)) <|
  fa1 (s_aload_n (kf := 1) (j := 1) (by decide +kernel) rfl) <|
  fa1 (s_getI (ci := 8) (f := 1) (idx := 41) (C := RX8) (T := TX8) (NF := 2) (by decide +kernel) rfl (by decide) inG_X8 (by decide) w_142 li_X8_1) <|
  fa1 (s_cmpge (off := 28) (by decide +kernel) (by decide)) <|
  fa1 (s_iload_n (kf := 3) (j := 3) (by decide +kernel) rfl) <|
  fa1 (s_ifle (off := 24) (by decide +kernel) (by decide)) <|
  fa1 (s_iload_n (kf := 3) (j := 3) (by decide +kernel) rfl) <|
  fa1 (s_aload_n (kf := 0) (j := 0) (by decide +kernel) rfl) <|
  fa1 (s_aload_n (kf := 1) (j := 1) (by decide +kernel) rfl) <|
  fa1 (s_iload (j := 4) (by decide +kernel)) <|
  fa1 (s_vcallI (n := 1) (ci := 8) (C := RX8) (T := TX8) (NF := 2) (idx := 55) (y := yX8_at) (by decide +kernel) (gg_X8_at) rfl (by decide) yv_X8_at (all5 w_666 w_667 w_668 w_102 w_669) rfl rfl ⟨by decide, by decide⟩) <|
  fa1 (s_vcallI (n := 1) (ci := 9) (C := RX9) (T := TX9) (NF := 6) (idx := 63) (y := yX9_behind) (by decide +kernel) (gg_X9_behind) rfl (by decide) yv_X9_behind (all5 w_675 w_676 w_677 w_101 w_678) rfl rfl ⟨by decide, by decide⟩) <|
  fa1 (s_iconst (n := 1) (v := 1) (by decide +kernel) (by decide +kernel) (p32 rfl)) <|
  fa1 (s_isub (by decide +kernel)) <|
  fa1 (s_iadd (by decide +kernel)) <|
  fa1 (s_istore_n (kf := 3) (j := 3) (by decide +kernel) rfl (by decide)) <|
  fa1 (s_iinc (j := 4) (d := 1) (by decide +kernel) (by decide)) <|
  fa1 (s_goto (off := -31) (by decide +kernel) (by decide)) <|
  fa1 (s_iload (j := 4) (by decide +kernel)) <|
  fa1 (s_iret (by decide +kernel) rfl) <| fa0
theorem gg_X9_endOf {G : Wp} {l : Launch} : GoodM loC G l yX9_endOf cX9_endOf 5 (some .int) rm_X9_endOf f_X9_endOf := met_of kt_X9_endOf (lkp_snd (ks_X9_endOf G l)) (by decide +kernel) rfl (by decide)
noncomputable def k_X9_meaningOf : List (Nat × Ins) := [
  (0, i_iload 1 1),
  (1, i_iflt 4 21),
  (4, i_iload 5 1),
  (5, i_aload 6 0),
  (6, i_getI 9 9 5),
  (9, i_cmpge 12 21),
  (12, i_aload 13 0),
  (13, i_getR 16 9 28 (fun _ => 6)),
  (16, i_iload 17 1),
  (17, i_aldR 18 28 8 lnC (fun _ i => 9 + 4 * i)),
  (18, i_goto 22),
  (21, i_push 22 (.inr (.inr none))),
  (22, i_aret)]
noncomputable def kc_X9_meaningOf : Nat → Option Ins := lkp k_X9_meaningOf
noncomputable def f_X9_meaningOf : List AV → Mem → Option Rs := den 2 kc_X9_meaningOf
abbrev rm_X9_meaningOf : Room := { frames := 0, cells := 0, slots := 0, locals := 0 }
set_option maxRecDepth 100000 in
theorem kt_X9_meaningOf : TriC kc_X9_meaningOf := lkp_tri (fa1 (tri_iload 1 1) (fa1 (tri_iflt 4 21) (fa1 (tri_iload 5 1) (fa1 (tri_aload 6 0) (fa1 (tri_getI 9 9 5) (fa1 (tri_cmpge 12 21) (fa1 (tri_aload 13 0) (fa1 (tri_getR 16 9 28 (fun _ => 6)) (fa1 (tri_iload 17 1) (fa1 (tri_aldR 18 28 8 lnC (fun _ i => 9 + 4 * i)) (fa1 (tri_goto 22) (fa1 (tri_push 22 (.inr (.inr none))) (fa1 (tri_aret) (fa0))))))))))))))
set_option maxRecDepth 100000 in
set_option maxHeartbeats 4000000 in
theorem ks_X9_meaningOf (G : Wp) (l : Launch) : ∀ e ∈ k_X9_meaningOf, Snd loC G l RX9 cX9_meaningOf 2 (some (.object "ShownLibrary$Term")) rm_X9_meaningOf e.1 e.2 :=
  fa1 (s_iload_n (kf := 1) (j := 1) (by decide +kernel) rfl) <|
  fa1 (s_iflt (off := 20) (by decide +kernel) (by decide)) <|
  fa1 (s_iload_n (kf := 1) (j := 1) (by decide +kernel) rfl) <|
  fa1 (s_aload_n (kf := 0) (j := 0) (by decide +kernel) rfl) <|
  fa1 (s_getI (ci := 9) (f := 5) (idx := 33) (C := RX9) (T := TX9) (NF := 6) (by decide +kernel) rfl (by decide) inG_X9 (by decide) w_160 li_X9_5) <|
  fa1 (s_cmpge (off := 12) (by decide +kernel) (by decide)) <|
  fa1 (s_aload_n (kf := 0) (j := 0) (by decide +kernel) rfl) <|
  fa1 (s_getR (t2 := 28) (g := (fun _ => 6)) (ci := 9) (f := 4) (idx := 27) (C := RX9) (T := TX9) (NF := 6) (by decide +kernel) rfl (by decide) inG_X9 (by decide) w_159 lr_X9_4 (by decide)) <|
  fa1 (s_iload_n (kf := 1) (j := 1) (by decide +kernel) rfl) <|
  fa1 (s_aldR (t := 28) (t2 := 8) (g := (fun _ i => 9 + 4 * i)) (by decide +kernel) (by decide) (by decide) rfl (by decide) le_28) <|
  fa1 (s_goto (off := 4) (by decide +kernel) (by decide)) <|
  fa1 (s_null (by decide +kernel)) <|
  fa1 (s_aret (by decide +kernel) rfl (Or.inl ⟨_, rfl⟩)) <| fa0
theorem gg_X9_meaningOf {G : Wp} {l : Launch} : GoodM loC G l yX9_meaningOf cX9_meaningOf 2 (some (.object "ShownLibrary$Term")) rm_X9_meaningOf f_X9_meaningOf := met_of kt_X9_meaningOf (lkp_snd (ks_X9_meaningOf G l)) (by decide +kernel) rfl (by decide)
noncomputable def k_X9_needOf : List (Nat × Ins) := [
  (0, i_iload 1 1),
  (1, i_iflt 4 21),
  (4, i_iload 5 1),
  (5, i_aload 6 0),
  (6, i_getI 9 9 5),
  (9, i_cmpge 12 21),
  (12, i_aload 13 0),
  (13, i_getR 16 9 20 (fun _ => 3)),
  (16, i_iload 17 1),
  (17, i_ald 18 20 lnC),
  (18, i_goto 22),
  (21, i_push 22 (.inl (-1))),
  (22, i_iret)]
noncomputable def kc_X9_needOf : Nat → Option Ins := lkp k_X9_needOf
noncomputable def f_X9_needOf : List AV → Mem → Option Rs := den 2 kc_X9_needOf
abbrev rm_X9_needOf : Room := { frames := 0, cells := 0, slots := 0, locals := 0 }
set_option maxRecDepth 100000 in
theorem kt_X9_needOf : TriC kc_X9_needOf := lkp_tri (fa1 (tri_iload 1 1) (fa1 (tri_iflt 4 21) (fa1 (tri_iload 5 1) (fa1 (tri_aload 6 0) (fa1 (tri_getI 9 9 5) (fa1 (tri_cmpge 12 21) (fa1 (tri_aload 13 0) (fa1 (tri_getR 16 9 20 (fun _ => 3)) (fa1 (tri_iload 17 1) (fa1 (tri_ald 18 20 lnC) (fa1 (tri_goto 22) (fa1 (tri_push 22 (.inl (-1))) (fa1 (tri_iret) (fa0))))))))))))))
set_option maxRecDepth 100000 in
set_option maxHeartbeats 4000000 in
theorem ks_X9_needOf (G : Wp) (l : Launch) : ∀ e ∈ k_X9_needOf, Snd loC G l RX9 cX9_needOf 2 (some .int) rm_X9_needOf e.1 e.2 :=
  fa1 (s_iload_n (kf := 1) (j := 1) (by decide +kernel) rfl) <|
  fa1 (s_iflt (off := 20) (by decide +kernel) (by decide)) <|
  fa1 (s_iload_n (kf := 1) (j := 1) (by decide +kernel) rfl) <|
  fa1 (s_aload_n (kf := 0) (j := 0) (by decide +kernel) rfl) <|
  fa1 (s_getI (ci := 9) (f := 5) (idx := 33) (C := RX9) (T := TX9) (NF := 6) (by decide +kernel) rfl (by decide) inG_X9 (by decide) w_160 li_X9_5) <|
  fa1 (s_cmpge (off := 12) (by decide +kernel) (by decide)) <|
  fa1 (s_aload_n (kf := 0) (j := 0) (by decide +kernel) rfl) <|
  fa1 (s_getR (t2 := 20) (g := (fun _ => 3)) (ci := 9) (f := 1) (idx := 15) (C := RX9) (T := TX9) (NF := 6) (by decide +kernel) rfl (by decide) inG_X9 (by decide) w_156 lr_X9_1 (by decide)) <|
  fa1 (s_iload_n (kf := 1) (j := 1) (by decide +kernel) rfl) <|
  fa1 (s_iald (by decide +kernel)) <|
  fa1 (s_goto (off := 4) (by decide +kernel) (by decide)) <|
  fa1 (s_iconst (n := -1) (v := -1) (by decide +kernel) (by decide +kernel) (p32 rfl)) <|
  fa1 (s_iret (by decide +kernel) rfl) <| fa0
theorem gg_X9_needOf {G : Wp} {l : Launch} : GoodM loC G l yX9_needOf cX9_needOf 2 (some .int) rm_X9_needOf f_X9_needOf := met_of kt_X9_needOf (lkp_snd (ks_X9_needOf G l)) (by decide +kernel) rfl (by decide)
noncomputable def k_X0_putIn : List (Nat × Ins) := [
  (0, i_aload 1 0),
  (1, i_getR 4 0 9 (fun _ => 1)),
  (4, i_aload 5 1),
  (5, i_iload 6 2),
  (6, i_callI 9 2 (rcv 8) f_X8_at),
  (9, i_callI 12 2 (rcv 9) f_X9_numberOf),
  (12, i_istore 13 3),
  (13, i_aload 14 0),
  (14, i_getR 17 0 9 (fun _ => 1)),
  (17, i_iload 18 3),
  (18, i_callR 21 2 8 (rcv 9) f_X9_meaningOf),
  (21, i_astore 23 4),
  (23, i_aload 25 4),
  (25, i_ifnonnull 28 30),
  (28, i_push 29 (.inl 0)),
  (29, i_zret),
  (30, i_aload 31 0),
  (31, i_getR 34 0 9 (fun _ => 1)),
  (34, i_aload 35 1),
  (35, i_iload 36 2),
  (36, i_push 37 (.inl 1)),
  (37, i_bin 38 (fun x y => wr (x + y))),
  (38, i_callI 41 3 (rcv 9) f_X9_endOf),
  (41, i_istore 43 5),
  (43, i_aload 44 0),
  (44, i_getR 47 0 9 (fun _ => 1)),
  (47, i_iload 48 3),
  (48, i_callI 51 2 (rcv 9) f_X9_needOf),
  (51, i_push 52 (.inl 2)),
  (52, i_cmpne 55 68),
  (55, i_aload 56 0),
  (56, i_getR 59 0 9 (fun _ => 1)),
  (59, i_aload 60 1),
  (60, i_iload 62 5),
  (62, i_callI 65 3 (rcv 9) f_X9_endOf),
  (65, i_goto 70),
  (68, i_iload 70 5),
  (70, i_istore 72 6),
  (72, i_aload 73 0),
  (73, i_getR 76 0 8 (fun _ => 793)),
  (76, i_push 77 (.inl 0)),
  (77, i_putI 80 8 1),
  (80, i_aload 81 0),
  (81, i_getR 84 0 8 (fun _ => 793)),
  (84, i_aload 85 1),
  (85, i_push 86 (.inl 0)),
  (86, i_iload 87 2),
  (87, i_callI 90 4 (rcv 8) f_X8_addPart),
  (90, i_istore 92 7),
  (92, i_push 93 (.inl 0)),
  (93, i_istore 95 8),
  (95, i_iload 97 8),
  (97, i_aload 99 4),
  (99, i_getI 102 8 1),
  (102, i_cmpge 105 185),
  (105, i_iload 107 7),
  (107, i_ifeq 110 185),
  (110, i_aload 112 4),
  (112, i_iload 114 8),
  (114, i_callI 117 2 (rcv 8) f_X8_at),
  (117, i_istore 119 9),
  (119, i_iload 121 9),
  (121, i_push 123 (.inl 23)),
  (123, i_cmpne 126 144),
  (126, i_aload 127 0),
  (127, i_getR 130 0 8 (fun _ => 793)),
  (130, i_aload 131 1),
  (131, i_iload 132 2),
  (132, i_push 133 (.inl 1)),
  (133, i_bin 134 (fun x y => wr (x + y))),
  (134, i_iload 136 5),
  (136, i_callI 139 4 (rcv 8) f_X8_addPart),
  (139, i_istore 141 7),
  (141, i_goto 179),
  (144, i_iload 146 9),
  (146, i_push 148 (.inl 24)),
  (148, i_cmpne 151 168),
  (151, i_aload 152 0),
  (152, i_getR 155 0 8 (fun _ => 793)),
  (155, i_aload 156 1),
  (156, i_iload 158 5),
  (158, i_iload 160 6),
  (160, i_callI 163 4 (rcv 8) f_X8_addPart),
  (163, i_istore 165 7),
  (165, i_goto 179),
  (168, i_aload 169 0),
  (169, i_getR 172 0 8 (fun _ => 793)),
  (172, i_iload 174 9),
  (174, i_callI 177 2 (rcv 8) f_X8_add),
  (177, i_istore 179 7),
  (179, i_iinc 182 8 (1)),
  (182, i_goto 95),
  (185, i_iload 187 7),
  (187, i_ifeq 190 211),
  (190, i_aload 191 0),
  (191, i_getR 194 0 8 (fun _ => 793)),
  (194, i_aload 195 1),
  (195, i_iload 197 6),
  (197, i_aload 198 1),
  (198, i_getI 201 8 1),
  (201, i_callI 204 4 (rcv 8) f_X8_addPart),
  (204, i_ifeq 207 211),
  (207, i_push 208 (.inl 1)),
  (208, i_goto 212),
  (211, i_push 212 (.inl 0)),
  (212, i_istore 214 7),
  (214, i_iload 216 7),
  (216, i_ifeq 219 227),
  (219, i_aload 220 1),
  (220, i_aload 221 0),
  (221, i_getR 224 0 8 (fun _ => 793)),
  (224, i_callV 227 2 (rcv 8) f_X8_copy),
  (227, i_iload 229 7),
  (229, i_zret)]
noncomputable def kc_X0_putIn : Nat → Option Ins := lkp k_X0_putIn
noncomputable def f_X0_putIn : List AV → Mem → Option Rs := den 10 kc_X0_putIn
abbrev rm_X0_putIn : Room := { frames := 2, cells := 0, slots := 0, locals := 46 }
set_option maxRecDepth 100000 in
theorem kt_X0_putIn : TriC kc_X0_putIn := lkp_tri (fa1 (tri_aload 1 0) (fa1 (tri_getR 4 0 9 (fun _ => 1)) (fa1 (tri_aload 5 1) (fa1 (tri_iload 6 2) (fa1 (tri_callI 9 2 (rcv 8) f_X8_at) (fa1 (tri_callI 12 2 (rcv 9) f_X9_numberOf) (fa1 (tri_istore 13 3) (fa1 (tri_aload 14 0) (fa1 (tri_getR 17 0 9 (fun _ => 1)) (fa1 (tri_iload 18 3) (fa1 (tri_callR 21 2 8 (rcv 9) f_X9_meaningOf) (fa1 (tri_astore 23 4) (fa1 (tri_aload 25 4) (fa1 (tri_ifnonnull 28 30) (fa1 (tri_push 29 (.inl 0)) (fa1 (tri_zret) (fa1 (tri_aload 31 0) (fa1 (tri_getR 34 0 9 (fun _ => 1)) (fa1 (tri_aload 35 1) (fa1 (tri_iload 36 2) (fa1 (tri_push 37 (.inl 1)) (fa1 (tri_bin 38 (fun x y => wr (x + y))) (fa1 (tri_callI 41 3 (rcv 9) f_X9_endOf) (fa1 (tri_istore 43 5) (fa1 (tri_aload 44 0) (fa1 (tri_getR 47 0 9 (fun _ => 1)) (fa1 (tri_iload 48 3) (fa1 (tri_callI 51 2 (rcv 9) f_X9_needOf) (fa1 (tri_push 52 (.inl 2)) (fa1 (tri_cmpne 55 68) (fa1 (tri_aload 56 0) (fa1 (tri_getR 59 0 9 (fun _ => 1)) (fa1 (tri_aload 60 1) (fa1 (tri_iload 62 5) (fa1 (tri_callI 65 3 (rcv 9) f_X9_endOf) (fa1 (tri_goto 70) (fa1 (tri_iload 70 5) (fa1 (tri_istore 72 6) (fa1 (tri_aload 73 0) (fa1 (tri_getR 76 0 8 (fun _ => 793)) (fa1 (tri_push 77 (.inl 0)) (fa1 (tri_putI 80 8 1) (fa1 (tri_aload 81 0) (fa1 (tri_getR 84 0 8 (fun _ => 793)) (fa1 (tri_aload 85 1) (fa1 (tri_push 86 (.inl 0)) (fa1 (tri_iload 87 2) (fa1 (tri_callI 90 4 (rcv 8) f_X8_addPart) (fa1 (tri_istore 92 7) (fa1 (tri_push 93 (.inl 0)) (fa1 (tri_istore 95 8) (fa1 (tri_iload 97 8) (fa1 (tri_aload 99 4) (fa1 (tri_getI 102 8 1) (fa1 (tri_cmpge 105 185) (fa1 (tri_iload 107 7) (fa1 (tri_ifeq 110 185) (fa1 (tri_aload 112 4) (fa1 (tri_iload 114 8) (fa1 (tri_callI 117 2 (rcv 8) f_X8_at) (fa1 (tri_istore 119 9) (fa1 (tri_iload 121 9) (fa1 (tri_push 123 (.inl 23)) (fa1 (tri_cmpne 126 144) (fa1 (tri_aload 127 0) (fa1 (tri_getR 130 0 8 (fun _ => 793)) (fa1 (tri_aload 131 1) (fa1 (tri_iload 132 2) (fa1 (tri_push 133 (.inl 1)) (fa1 (tri_bin 134 (fun x y => wr (x + y))) (fa1 (tri_iload 136 5) (fa1 (tri_callI 139 4 (rcv 8) f_X8_addPart) (fa1 (tri_istore 141 7) (fa1 (tri_goto 179) (fa1 (tri_iload 146 9) (fa1 (tri_push 148 (.inl 24)) (fa1 (tri_cmpne 151 168) (fa1 (tri_aload 152 0) (fa1 (tri_getR 155 0 8 (fun _ => 793)) (fa1 (tri_aload 156 1) (fa1 (tri_iload 158 5) (fa1 (tri_iload 160 6) (fa1 (tri_callI 163 4 (rcv 8) f_X8_addPart) (fa1 (tri_istore 165 7) (fa1 (tri_goto 179) (fa1 (tri_aload 169 0) (fa1 (tri_getR 172 0 8 (fun _ => 793)) (fa1 (tri_iload 174 9) (fa1 (tri_callI 177 2 (rcv 8) f_X8_add) (fa1 (tri_istore 179 7) (fa1 (tri_iinc 182 8 (1)) (fa1 (tri_goto 95) (fa1 (tri_iload 187 7) (fa1 (tri_ifeq 190 211) (fa1 (tri_aload 191 0) (fa1 (tri_getR 194 0 8 (fun _ => 793)) (fa1 (tri_aload 195 1) (fa1 (tri_iload 197 6) (fa1 (tri_aload 198 1) (fa1 (tri_getI 201 8 1) (fa1 (tri_callI 204 4 (rcv 8) f_X8_addPart) (fa1 (tri_ifeq 207 211) (fa1 (tri_push 208 (.inl 1)) (fa1 (tri_goto 212) (fa1 (tri_push 212 (.inl 0)) (fa1 (tri_istore 214 7) (fa1 (tri_iload 216 7) (fa1 (tri_ifeq 219 227) (fa1 (tri_aload 220 1) (fa1 (tri_aload 221 0) (fa1 (tri_getR 224 0 8 (fun _ => 793)) (fa1 (tri_callV 227 2 (rcv 8) f_X8_copy) (fa1 (tri_iload 229 7) (fa1 (tri_zret) (fa0)))))))))))))))))))))))))))))))))))))))))))))))))))))))))))))))))))))))))))))))))))))))))))))))))))))))))))))))))))
set_option maxRecDepth 100000 in
set_option maxHeartbeats 4000000 in
theorem ks_X0_putIn (G : Wp) (l : Launch) : ∀ e ∈ k_X0_putIn, Snd loC G l RX0 cX0_putIn 10 (some .boolean) rm_X0_putIn e.1 e.2 :=
  fa1 (s_aload_n (kf := 0) (j := 0) (by decide +kernel) rfl) <|
  fa1 (s_getR (t2 := 9) (g := (fun _ => 1)) (ci := 0) (f := 0) (idx := 42) (C := RX0) (T := TX0) (NF := 11) (by decide +kernel) rfl (by decide) inG_X0 (by decide) w_507 lr_X0_0 (by decide)) <|
  fa1 (s_aload_n (kf := 1) (j := 1) (by decide +kernel) rfl) <|
  fa1 (s_iload_n (kf := 2) (j := 2) (by decide +kernel) rfl) <|
  fa1 (s_vcallI (n := 1) (ci := 8) (C := RX8) (T := TX8) (NF := 2) (idx := 109) (y := yX8_at) (by decide +kernel) (gg_X8_at) rfl (by decide) yv_X8_at (all5 w_1105 w_667 w_668 w_102 w_669) rfl rfl ⟨by decide, by decide⟩) <|
  fa1 (s_vcallI (n := 1) (ci := 9) (C := RX9) (T := TX9) (NF := 6) (idx := 113) (y := yX9_numberOf) (by decide +kernel) (gg_X9_numberOf) rfl (by decide) yv_X9_numberOf (all5 w_1106 w_651 w_652 w_101 w_653) rfl rfl ⟨by decide, by decide⟩) <|
  fa1 (s_istore_n (kf := 3) (j := 3) (by decide +kernel) rfl (by decide)) <|
  fa1 (s_aload_n (kf := 0) (j := 0) (by decide +kernel) rfl) <|
  fa1 (s_getR (t2 := 9) (g := (fun _ => 1)) (ci := 0) (f := 0) (idx := 42) (C := RX0) (T := TX0) (NF := 11) (by decide +kernel) rfl (by decide) inG_X0 (by decide) w_507 lr_X0_0 (by decide)) <|
  fa1 (s_iload_n (kf := 3) (j := 3) (by decide +kernel) rfl) <|
  fa1 (s_vcallR (t := 8) (n := 1) (ci := 9) (C := RX9) (T := TX9) (NF := 6) (idx := 118) (y := yX9_meaningOf) (by decide +kernel) (gg_X9_meaningOf) rfl (by decide) yv_X9_meaningOf (all5 w_1111 w_765 w_766 w_101 w_767) rfl rfl ⟨by decide, by decide⟩) <|
  fa1 (s_astore (j := 4) (by decide +kernel) (by decide)) <|
  fa1 (s_aload (j := 4) (by decide +kernel)) <|
  fa1 (s_ifnonnull (off := 5) (by decide +kernel) (by decide)) <|
  fa1 (s_iconst (n := 0) (v := 0) (by decide +kernel) (by decide +kernel) (p32 rfl)) <|
  fa1 (s_zret (by decide +kernel) rfl) <|
  fa1 (s_aload_n (kf := 0) (j := 0) (by decide +kernel) rfl) <|
  fa1 (s_getR (t2 := 9) (g := (fun _ => 1)) (ci := 0) (f := 0) (idx := 42) (C := RX0) (T := TX0) (NF := 11) (by decide +kernel) rfl (by decide) inG_X0 (by decide) w_507 lr_X0_0 (by decide)) <|
  fa1 (s_aload_n (kf := 1) (j := 1) (by decide +kernel) rfl) <|
  fa1 (s_iload_n (kf := 2) (j := 2) (by decide +kernel) rfl) <|
  fa1 (s_iconst (n := 1) (v := 1) (by decide +kernel) (by decide +kernel) (p32 rfl)) <|
  fa1 (s_iadd (by decide +kernel)) <|
  fa1 (s_vcallI (n := 2) (ci := 9) (C := RX9) (T := TX9) (NF := 6) (idx := 122) (y := yX9_endOf) (by decide +kernel) (gg_X9_endOf) rfl (by decide) yv_X9_endOf (all5 w_1112 w_1113 w_1114 w_101 w_1115) rfl rfl ⟨by decide, by decide⟩) <|
  fa1 (s_istore (j := 5) (by decide +kernel) (by decide)) <|
  fa1 (s_aload_n (kf := 0) (j := 0) (by decide +kernel) rfl) <|
  fa1 (s_getR (t2 := 9) (g := (fun _ => 1)) (ci := 0) (f := 0) (idx := 42) (C := RX0) (T := TX0) (NF := 11) (by decide +kernel) rfl (by decide) inG_X0 (by decide) w_507 lr_X0_0 (by decide)) <|
  fa1 (s_iload_n (kf := 3) (j := 3) (by decide +kernel) rfl) <|
  fa1 (s_vcallI (n := 1) (ci := 9) (C := RX9) (T := TX9) (NF := 6) (idx := 125) (y := yX9_needOf) (by decide +kernel) (gg_X9_needOf) rfl (by decide) yv_X9_needOf (all5 w_1116 w_773 w_774 w_101 w_775) rfl rfl ⟨by decide, by decide⟩) <|
  fa1 (s_iconst (n := 2) (v := 2) (by decide +kernel) (by decide +kernel) (p32 rfl)) <|
  fa1 (s_cmpne (off := 16) (by decide +kernel) (by decide)) <|
  fa1 (s_aload_n (kf := 0) (j := 0) (by decide +kernel) rfl) <|
  fa1 (s_getR (t2 := 9) (g := (fun _ => 1)) (ci := 0) (f := 0) (idx := 42) (C := RX0) (T := TX0) (NF := 11) (by decide +kernel) rfl (by decide) inG_X0 (by decide) w_507 lr_X0_0 (by decide)) <|
  fa1 (s_aload_n (kf := 1) (j := 1) (by decide +kernel) rfl) <|
  fa1 (s_iload (j := 5) (by decide +kernel)) <|
  fa1 (s_vcallI (n := 2) (ci := 9) (C := RX9) (T := TX9) (NF := 6) (idx := 122) (y := yX9_endOf) (by decide +kernel) (gg_X9_endOf) rfl (by decide) yv_X9_endOf (all5 w_1112 w_1113 w_1114 w_101 w_1115) rfl rfl ⟨by decide, by decide⟩) <|
  fa1 (s_goto (off := 5) (by decide +kernel) (by decide)) <|
  fa1 (s_iload (j := 5) (by decide +kernel)) <|
  fa1 (s_istore (j := 6) (by decide +kernel) (by decide)) <|
  fa1 (s_aload_n (kf := 0) (j := 0) (by decide +kernel) rfl) <|
  fa1 (s_getR (t2 := 8) (g := (fun _ => 793)) (ci := 0) (f := 8) (idx := 35) (C := RX0) (T := TX0) (NF := 11) (by decide +kernel) rfl (by decide) inG_X0 (by decide) w_515 lr_X0_8 (by decide)) <|
  fa1 (s_iconst (n := 0) (v := 0) (by decide +kernel) (by decide +kernel) (p32 rfl)) <|
  fa1 (s_putI (ci := 8) (f := 1) (idx := 71) (C := RX8) (T := TX8) (NF := 2) (by decide +kernel) rfl (by decide) inG_X8 (by decide) w_143 tyX8 tyX8_ok nmX8 rfl (by decide +kernel) li_X8_1) <|
  fa1 (s_aload_n (kf := 0) (j := 0) (by decide +kernel) rfl) <|
  fa1 (s_getR (t2 := 8) (g := (fun _ => 793)) (ci := 0) (f := 8) (idx := 35) (C := RX0) (T := TX0) (NF := 11) (by decide +kernel) rfl (by decide) inG_X0 (by decide) w_515 lr_X0_8 (by decide)) <|
  fa1 (s_aload_n (kf := 1) (j := 1) (by decide +kernel) rfl) <|
  fa1 (s_iconst (n := 0) (v := 0) (by decide +kernel) (by decide +kernel) (p32 rfl)) <|
  fa1 (s_iload_n (kf := 2) (j := 2) (by decide +kernel) rfl) <|
  fa1 (s_vcallI (n := 3) (ci := 8) (C := RX8) (T := TX8) (NF := 2) (idx := 128) (y := yX8_addPart) (by decide +kernel) (gg_X8_addPart) rfl (by decide) yv_X8_addPart (all5 w_1117 w_688 w_689 w_102 w_690) rfl rfl ⟨by decide, by decide⟩) <|
  fa1 (s_istore (j := 7) (by decide +kernel) (by decide)) <|
  fa1 (s_iconst (n := 0) (v := 0) (by decide +kernel) (by decide +kernel) (p32 rfl)) <|
  fa1 (s_istore (j := 8) (by decide +kernel) (by decide)) <|
  fa1 (s_iload (j := 8) (by decide +kernel)) <|
  fa1 (s_aload (j := 4) (by decide +kernel)) <|
  fa1 (s_getI (ci := 8) (f := 1) (idx := 71) (C := RX8) (T := TX8) (NF := 2) (by decide +kernel) rfl (by decide) inG_X8 (by decide) w_143 li_X8_1) <|
  fa1 (s_cmpge (off := 83) (by decide +kernel) (by decide)) <|
  fa1 (s_iload (j := 7) (by decide +kernel)) <|
  fa1 (s_ifeq (off := 78) (by decide +kernel) (by decide)) <|
  fa1 (s_aload (j := 4) (by decide +kernel)) <|
  fa1 (s_iload (j := 8) (by decide +kernel)) <|
  fa1 (s_vcallI (n := 1) (ci := 8) (C := RX8) (T := TX8) (NF := 2) (idx := 109) (y := yX8_at) (by decide +kernel) (gg_X8_at) rfl (by decide) yv_X8_at (all5 w_1105 w_667 w_668 w_102 w_669) rfl rfl ⟨by decide, by decide⟩) <|
  fa1 (s_istore (j := 9) (by decide +kernel) (by decide)) <|
  fa1 (s_iload (j := 9) (by decide +kernel)) <|
  fa1 (s_bipush (n := 23) (v := 23) (by decide +kernel) (by decide +kernel) (p32 rfl)) <|
  fa1 (s_cmpne (off := 21) (by decide +kernel) (by decide)) <|
  fa1 (s_aload_n (kf := 0) (j := 0) (by decide +kernel) rfl) <|
  fa1 (s_getR (t2 := 8) (g := (fun _ => 793)) (ci := 0) (f := 8) (idx := 35) (C := RX0) (T := TX0) (NF := 11) (by decide +kernel) rfl (by decide) inG_X0 (by decide) w_515 lr_X0_8 (by decide)) <|
  fa1 (s_aload_n (kf := 1) (j := 1) (by decide +kernel) rfl) <|
  fa1 (s_iload_n (kf := 2) (j := 2) (by decide +kernel) rfl) <|
  fa1 (s_iconst (n := 1) (v := 1) (by decide +kernel) (by decide +kernel) (p32 rfl)) <|
  fa1 (s_iadd (by decide +kernel)) <|
  fa1 (s_iload (j := 5) (by decide +kernel)) <|
  fa1 (s_vcallI (n := 3) (ci := 8) (C := RX8) (T := TX8) (NF := 2) (idx := 128) (y := yX8_addPart) (by decide +kernel) (gg_X8_addPart) rfl (by decide) yv_X8_addPart (all5 w_1117 w_688 w_689 w_102 w_690) rfl rfl ⟨by decide, by decide⟩) <|
  fa1 (s_istore (j := 7) (by decide +kernel) (by decide)) <|
  fa1 (s_goto (off := 38) (by decide +kernel) (by decide)) <|
  fa1 (s_iload (j := 9) (by decide +kernel)) <|
  fa1 (s_bipush (n := 24) (v := 24) (by decide +kernel) (by decide +kernel) (p32 rfl)) <|
  fa1 (s_cmpne (off := 20) (by decide +kernel) (by decide)) <|
  fa1 (s_aload_n (kf := 0) (j := 0) (by decide +kernel) rfl) <|
  fa1 (s_getR (t2 := 8) (g := (fun _ => 793)) (ci := 0) (f := 8) (idx := 35) (C := RX0) (T := TX0) (NF := 11) (by decide +kernel) rfl (by decide) inG_X0 (by decide) w_515 lr_X0_8 (by decide)) <|
  fa1 (s_aload_n (kf := 1) (j := 1) (by decide +kernel) rfl) <|
  fa1 (s_iload (j := 5) (by decide +kernel)) <|
  fa1 (s_iload (j := 6) (by decide +kernel)) <|
  fa1 (s_vcallI (n := 3) (ci := 8) (C := RX8) (T := TX8) (NF := 2) (idx := 128) (y := yX8_addPart) (by decide +kernel) (gg_X8_addPart) rfl (by decide) yv_X8_addPart (all5 w_1117 w_688 w_689 w_102 w_690) rfl rfl ⟨by decide, by decide⟩) <|
  fa1 (s_istore (j := 7) (by decide +kernel) (by decide)) <|
  fa1 (s_goto (off := 14) (by decide +kernel) (by decide)) <|
  fa1 (s_aload_n (kf := 0) (j := 0) (by decide +kernel) rfl) <|
  fa1 (s_getR (t2 := 8) (g := (fun _ => 793)) (ci := 0) (f := 8) (idx := 35) (C := RX0) (T := TX0) (NF := 11) (by decide +kernel) rfl (by decide) inG_X0 (by decide) w_515 lr_X0_8 (by decide)) <|
  fa1 (s_iload (j := 9) (by decide +kernel)) <|
  fa1 (s_vcallI (n := 1) (ci := 8) (C := RX8) (T := TX8) (NF := 2) (idx := 132) (y := yX8_add) (by decide +kernel) (gg_X8_add) rfl (by decide) yv_X8_add (all5 w_1118 w_659 w_660 w_102 w_661) rfl rfl ⟨by decide, by decide⟩) <|
  fa1 (s_istore (j := 7) (by decide +kernel) (by decide)) <|
  fa1 (s_iinc (j := 8) (d := 1) (by decide +kernel) (by decide)) <|
  fa1 (s_goto (off := -87) (by decide +kernel) (by decide)) <|
  fa1 (s_iload (j := 7) (by decide +kernel)) <|
  fa1 (s_ifeq (off := 24) (by decide +kernel) (by decide)) <|
  fa1 (s_aload_n (kf := 0) (j := 0) (by decide +kernel) rfl) <|
  fa1 (s_getR (t2 := 8) (g := (fun _ => 793)) (ci := 0) (f := 8) (idx := 35) (C := RX0) (T := TX0) (NF := 11) (by decide +kernel) rfl (by decide) inG_X0 (by decide) w_515 lr_X0_8 (by decide)) <|
  fa1 (s_aload_n (kf := 1) (j := 1) (by decide +kernel) rfl) <|
  fa1 (s_iload (j := 6) (by decide +kernel)) <|
  fa1 (s_aload_n (kf := 1) (j := 1) (by decide +kernel) rfl) <|
  fa1 (s_getI (ci := 8) (f := 1) (idx := 71) (C := RX8) (T := TX8) (NF := 2) (by decide +kernel) rfl (by decide) inG_X8 (by decide) w_143 li_X8_1) <|
  fa1 (s_vcallI (n := 3) (ci := 8) (C := RX8) (T := TX8) (NF := 2) (idx := 128) (y := yX8_addPart) (by decide +kernel) (gg_X8_addPart) rfl (by decide) yv_X8_addPart (all5 w_1117 w_688 w_689 w_102 w_690) rfl rfl ⟨by decide, by decide⟩) <|
  fa1 (s_ifeq (off := 7) (by decide +kernel) (by decide)) <|
  fa1 (s_iconst (n := 1) (v := 1) (by decide +kernel) (by decide +kernel) (p32 rfl)) <|
  fa1 (s_goto (off := 4) (by decide +kernel) (by decide)) <|
  fa1 (s_iconst (n := 0) (v := 0) (by decide +kernel) (by decide +kernel) (p32 rfl)) <|
  fa1 (s_istore (j := 7) (by decide +kernel) (by decide)) <|
  fa1 (s_iload (j := 7) (by decide +kernel)) <|
  fa1 (s_ifeq (off := 11) (by decide +kernel) (by decide)) <|
  fa1 (s_aload_n (kf := 1) (j := 1) (by decide +kernel) rfl) <|
  fa1 (s_aload_n (kf := 0) (j := 0) (by decide +kernel) rfl) <|
  fa1 (s_getR (t2 := 8) (g := (fun _ => 793)) (ci := 0) (f := 8) (idx := 35) (C := RX0) (T := TX0) (NF := 11) (by decide +kernel) rfl (by decide) inG_X0 (by decide) w_515 lr_X0_8 (by decide)) <|
  fa1 (s_vcallV (n := 1) (ci := 8) (C := RX8) (T := TX8) (NF := 2) (idx := 94) (y := yX8_copy) (by decide +kernel) (gg_X8_copy) rfl (by decide) yv_X8_copy (all5 w_1096 w_684 w_685 w_102 w_686) rfl rfl ⟨by decide, by decide⟩) <|
  fa1 (s_iload (j := 7) (by decide +kernel)) <|
  fa1 (s_zret (by decide +kernel) rfl) <| fa0
theorem gg_X0_putIn {G : Wp} {l : Launch} : GoodM loC G l yX0_putIn cX0_putIn 10 (some .boolean) rm_X0_putIn f_X0_putIn := met_of kt_X0_putIn (lkp_snd (ks_X0_putIn G l)) (by decide +kernel) rfl (by decide)
noncomputable def k_X0_putAllIn : List (Nat × Ins) := [
  (0, i_aload 1 0),
  (1, i_aload 2 1),
  (2, i_push 3 (.inl 0)),
  (3, i_callI 6 3 (rcv 0) f_X0_firstWord),
  (6, i_istore 7 2),
  (7, i_push 8 (.inl 0)),
  (8, i_istore 9 3),
  (9, i_iload 10 3),
  (10, i_push 13 (.inl 400)),
  (13, i_cmpge 16 44),
  (16, i_iload 17 2),
  (17, i_iflt 20 44),
  (20, i_aload 21 0),
  (21, i_aload 22 1),
  (22, i_iload 23 2),
  (23, i_callI 26 3 (rcv 0) f_X0_putIn),
  (26, i_ifne 29 31),
  (29, i_push 30 (.inl 0)),
  (30, i_zret),
  (31, i_aload 32 0),
  (32, i_aload 33 1),
  (33, i_iload 34 2),
  (34, i_callI 37 3 (rcv 0) f_X0_firstWord),
  (37, i_istore 38 2),
  (38, i_iinc 41 3 (1)),
  (41, i_goto 9),
  (44, i_iload 45 2),
  (45, i_ifge 48 52),
  (48, i_push 49 (.inl 1)),
  (49, i_goto 53),
  (52, i_push 53 (.inl 0)),
  (53, i_zret)]
noncomputable def kc_X0_putAllIn : Nat → Option Ins := lkp k_X0_putAllIn
noncomputable def f_X0_putAllIn : List AV → Mem → Option Rs := den 4 kc_X0_putAllIn
abbrev rm_X0_putAllIn : Room := { frames := 3, cells := 0, slots := 0, locals := 75 }
set_option maxRecDepth 100000 in
theorem kt_X0_putAllIn : TriC kc_X0_putAllIn := lkp_tri (fa1 (tri_aload 1 0) (fa1 (tri_aload 2 1) (fa1 (tri_push 3 (.inl 0)) (fa1 (tri_callI 6 3 (rcv 0) f_X0_firstWord) (fa1 (tri_istore 7 2) (fa1 (tri_push 8 (.inl 0)) (fa1 (tri_istore 9 3) (fa1 (tri_iload 10 3) (fa1 (tri_push 13 (.inl 400)) (fa1 (tri_cmpge 16 44) (fa1 (tri_iload 17 2) (fa1 (tri_iflt 20 44) (fa1 (tri_aload 21 0) (fa1 (tri_aload 22 1) (fa1 (tri_iload 23 2) (fa1 (tri_callI 26 3 (rcv 0) f_X0_putIn) (fa1 (tri_ifne 29 31) (fa1 (tri_push 30 (.inl 0)) (fa1 (tri_zret) (fa1 (tri_aload 32 0) (fa1 (tri_aload 33 1) (fa1 (tri_iload 34 2) (fa1 (tri_callI 37 3 (rcv 0) f_X0_firstWord) (fa1 (tri_istore 38 2) (fa1 (tri_iinc 41 3 (1)) (fa1 (tri_goto 9) (fa1 (tri_iload 45 2) (fa1 (tri_ifge 48 52) (fa1 (tri_push 49 (.inl 1)) (fa1 (tri_goto 53) (fa1 (tri_push 53 (.inl 0)) (fa1 (tri_zret) (fa0)))))))))))))))))))))))))))))))))
set_option maxRecDepth 100000 in
set_option maxHeartbeats 4000000 in
theorem ks_X0_putAllIn (G : Wp) (l : Launch) : ∀ e ∈ k_X0_putAllIn, Snd loC G l RX0 cX0_putAllIn 4 (some .boolean) rm_X0_putAllIn e.1 e.2 :=
  fa1 (s_aload_n (kf := 0) (j := 0) (by decide +kernel) rfl) <|
  fa1 (s_aload_n (kf := 1) (j := 1) (by decide +kernel) rfl) <|
  fa1 (s_iconst (n := 0) (v := 0) (by decide +kernel) (by decide +kernel) (p32 rfl)) <|
  fa1 (s_vcallI (n := 2) (ci := 0) (C := RX0) (T := TX0) (NF := 11) (idx := 101) (y := yX0_firstWord) (by decide +kernel) (gg_X0_firstWord) rfl (by decide) yv_X0_firstWord (all5 w_1101 w_1103 w_33 w_111 w_1104) rfl rfl ⟨by decide, by decide⟩) <|
  fa1 (s_istore_n (kf := 2) (j := 2) (by decide +kernel) rfl (by decide)) <|
  fa1 (s_iconst (n := 0) (v := 0) (by decide +kernel) (by decide +kernel) (p32 rfl)) <|
  fa1 (s_istore_n (kf := 3) (j := 3) (by decide +kernel) rfl (by decide)) <|
  fa1 (s_iload_n (kf := 3) (j := 3) (by decide +kernel) rfl) <|
  fa1 (s_sipush (n := 400) (v := 400) (by decide +kernel) (by decide +kernel) (p32 rfl)) <|
  fa1 (s_cmpge (off := 31) (by decide +kernel) (by decide)) <|
  fa1 (s_iload_n (kf := 2) (j := 2) (by decide +kernel) rfl) <|
  fa1 (s_iflt (off := 27) (by decide +kernel) (by decide)) <|
  fa1 (s_aload_n (kf := 0) (j := 0) (by decide +kernel) rfl) <|
  fa1 (s_aload_n (kf := 1) (j := 1) (by decide +kernel) rfl) <|
  fa1 (s_iload_n (kf := 2) (j := 2) (by decide +kernel) rfl) <|
  fa1 (s_vcallI (n := 2) (ci := 0) (C := RX0) (T := TX0) (NF := 11) (idx := 105) (y := yX0_putIn) (by decide +kernel) (gg_X0_putIn) rfl (by decide) yv_X0_putIn (all5 w_1107 w_1109 w_34 w_111 w_1110) rfl rfl ⟨by decide, by decide⟩) <|
  fa1 (s_ifne (off := 5) (by decide +kernel) (by decide)) <|
  fa1 (s_iconst (n := 0) (v := 0) (by decide +kernel) (by decide +kernel) (p32 rfl)) <|
  fa1 (s_zret (by decide +kernel) rfl) <|
  fa1 (s_aload_n (kf := 0) (j := 0) (by decide +kernel) rfl) <|
  fa1 (s_aload_n (kf := 1) (j := 1) (by decide +kernel) rfl) <|
  fa1 (s_iload_n (kf := 2) (j := 2) (by decide +kernel) rfl) <|
  fa1 (s_vcallI (n := 2) (ci := 0) (C := RX0) (T := TX0) (NF := 11) (idx := 101) (y := yX0_firstWord) (by decide +kernel) (gg_X0_firstWord) rfl (by decide) yv_X0_firstWord (all5 w_1101 w_1103 w_33 w_111 w_1104) rfl rfl ⟨by decide, by decide⟩) <|
  fa1 (s_istore_n (kf := 2) (j := 2) (by decide +kernel) rfl (by decide)) <|
  fa1 (s_iinc (j := 3) (d := 1) (by decide +kernel) (by decide)) <|
  fa1 (s_goto (off := -32) (by decide +kernel) (by decide)) <|
  fa1 (s_iload_n (kf := 2) (j := 2) (by decide +kernel) rfl) <|
  fa1 (s_ifge (off := 7) (by decide +kernel) (by decide)) <|
  fa1 (s_iconst (n := 1) (v := 1) (by decide +kernel) (by decide +kernel) (p32 rfl)) <|
  fa1 (s_goto (off := 4) (by decide +kernel) (by decide)) <|
  fa1 (s_iconst (n := 0) (v := 0) (by decide +kernel) (by decide +kernel) (p32 rfl)) <|
  fa1 (s_zret (by decide +kernel) rfl) <| fa0
theorem gg_X0_putAllIn {G : Wp} {l : Launch} : GoodM loC G l yX0_putAllIn cX0_putAllIn 4 (some .boolean) rm_X0_putAllIn f_X0_putAllIn := met_of kt_X0_putAllIn (lkp_snd (ks_X0_putAllIn G l)) (by decide +kernel) rfl (by decide)
noncomputable def k_X3_get : List (Nat × Ins) := [
  (0, i_iload 1 1),
  (1, i_iflt 4 21),
  (4, i_iload 5 1),
  (5, i_aload 6 0),
  (6, i_getI 9 3 9),
  (9, i_cmpge 12 21),
  (12, i_aload 13 0),
  (13, i_getR 16 3 25 (fun _ => 24)),
  (16, i_iload 17 1),
  (17, i_aldR 18 25 2 lnC (fun _ i => 31 + 5 * i)),
  (18, i_goto 22),
  (21, i_push 22 (.inr (.inr none))),
  (22, i_aret)]
noncomputable def kc_X3_get : Nat → Option Ins := lkp k_X3_get
noncomputable def f_X3_get : List AV → Mem → Option Rs := den 2 kc_X3_get
abbrev rm_X3_get : Room := { frames := 0, cells := 0, slots := 0, locals := 0 }
set_option maxRecDepth 100000 in
theorem kt_X3_get : TriC kc_X3_get := lkp_tri (fa1 (tri_iload 1 1) (fa1 (tri_iflt 4 21) (fa1 (tri_iload 5 1) (fa1 (tri_aload 6 0) (fa1 (tri_getI 9 3 9) (fa1 (tri_cmpge 12 21) (fa1 (tri_aload 13 0) (fa1 (tri_getR 16 3 25 (fun _ => 24)) (fa1 (tri_iload 17 1) (fa1 (tri_aldR 18 25 2 lnC (fun _ i => 31 + 5 * i)) (fa1 (tri_goto 22) (fa1 (tri_push 22 (.inr (.inr none))) (fa1 (tri_aret) (fa0))))))))))))))
set_option maxRecDepth 100000 in
set_option maxHeartbeats 4000000 in
theorem ks_X3_get (G : Wp) (l : Launch) : ∀ e ∈ k_X3_get, Snd loC G l RX3 cX3_get 2 (some (.object "ShownLibrary$Saying")) rm_X3_get e.1 e.2 :=
  fa1 (s_iload_n (kf := 1) (j := 1) (by decide +kernel) rfl) <|
  fa1 (s_iflt (off := 20) (by decide +kernel) (by decide)) <|
  fa1 (s_iload_n (kf := 1) (j := 1) (by decide +kernel) rfl) <|
  fa1 (s_aload_n (kf := 0) (j := 0) (by decide +kernel) rfl) <|
  fa1 (s_getI (ci := 3) (f := 9) (idx := 39) (C := RX3) (T := TX3) (NF := 11) (by decide +kernel) rfl (by decide) inG_X3 (by decide) w_259 li_X3_9) <|
  fa1 (s_cmpge (off := 12) (by decide +kernel) (by decide)) <|
  fa1 (s_aload_n (kf := 0) (j := 0) (by decide +kernel) rfl) <|
  fa1 (s_getR (t2 := 25) (g := (fun _ => 24)) (ci := 3) (f := 0) (idx := 11) (C := RX3) (T := TX3) (NF := 11) (by decide +kernel) rfl (by decide) inG_X3 (by decide) w_250 lr_X3_0 (by decide)) <|
  fa1 (s_iload_n (kf := 1) (j := 1) (by decide +kernel) rfl) <|
  fa1 (s_aldR (t := 25) (t2 := 2) (g := (fun _ i => 31 + 5 * i)) (by decide +kernel) (by decide) (by decide) rfl (by decide) le_25) <|
  fa1 (s_goto (off := 4) (by decide +kernel) (by decide)) <|
  fa1 (s_null (by decide +kernel)) <|
  fa1 (s_aret (by decide +kernel) rfl (Or.inl ⟨_, rfl⟩)) <| fa0
theorem gg_X3_get {G : Wp} {l : Launch} : GoodM loC G l yX3_get cX3_get 2 (some (.object "ShownLibrary$Saying")) rm_X3_get f_X3_get := met_of kt_X3_get (lkp_snd (ks_X3_get G l)) (by decide +kernel) rfl (by decide)
noncomputable def k_X0_makeReady : List (Nat × Ins) := [
  (0, i_aload 1 0),
  (1, i_getR 4 0 3 (fun _ => 23)),
  (4, i_iload 5 1),
  (5, i_callR 8 2 2 (rcv 3) f_X3_get),
  (8, i_astore 10 4),
  (10, i_aload 12 4),
  (12, i_ifnonnull 15 17),
  (15, i_push 16 (.inl 0)),
  (16, i_zret),
  (17, i_aload 18 2),
  (18, i_aload 20 4),
  (20, i_getR 23 2 8 (fun c => c + 1)),
  (23, i_callV 26 2 (rcv 8) f_X8_copy),
  (26, i_aload 27 3),
  (27, i_aload 29 4),
  (29, i_getR 32 2 8 (fun c => c + 3)),
  (32, i_callV 35 2 (rcv 8) f_X8_copy),
  (35, i_aload 36 0),
  (36, i_getI 39 0 10),
  (39, i_push 40 (.inl 4)),
  (40, i_bin 41 bAnd),
  (41, i_ifeq 44 60),
  (44, i_aload 45 0),
  (45, i_aload 46 2),
  (46, i_callI 49 2 (rcv 0) f_X0_putAllIn),
  (49, i_ifeq 52 64),
  (52, i_aload 53 0),
  (53, i_aload 54 3),
  (54, i_callI 57 2 (rcv 0) f_X0_putAllIn),
  (57, i_ifeq 60 64),
  (60, i_push 61 (.inl 1)),
  (61, i_goto 65),
  (64, i_push 65 (.inl 0)),
  (65, i_zret)]
noncomputable def kc_X0_makeReady : Nat → Option Ins := lkp k_X0_makeReady
noncomputable def f_X0_makeReady : List AV → Mem → Option Rs := den 5 kc_X0_makeReady
abbrev rm_X0_makeReady : Room := { frames := 4, cells := 0, slots := 0, locals := 98 }
set_option maxRecDepth 100000 in
theorem kt_X0_makeReady : TriC kc_X0_makeReady := lkp_tri (fa1 (tri_aload 1 0) (fa1 (tri_getR 4 0 3 (fun _ => 23)) (fa1 (tri_iload 5 1) (fa1 (tri_callR 8 2 2 (rcv 3) f_X3_get) (fa1 (tri_astore 10 4) (fa1 (tri_aload 12 4) (fa1 (tri_ifnonnull 15 17) (fa1 (tri_push 16 (.inl 0)) (fa1 (tri_zret) (fa1 (tri_aload 18 2) (fa1 (tri_aload 20 4) (fa1 (tri_getR 23 2 8 (fun c => c + 1)) (fa1 (tri_callV 26 2 (rcv 8) f_X8_copy) (fa1 (tri_aload 27 3) (fa1 (tri_aload 29 4) (fa1 (tri_getR 32 2 8 (fun c => c + 3)) (fa1 (tri_callV 35 2 (rcv 8) f_X8_copy) (fa1 (tri_aload 36 0) (fa1 (tri_getI 39 0 10) (fa1 (tri_push 40 (.inl 4)) (fa1 (tri_bin 41 bAnd) (fa1 (tri_ifeq 44 60) (fa1 (tri_aload 45 0) (fa1 (tri_aload 46 2) (fa1 (tri_callI 49 2 (rcv 0) f_X0_putAllIn) (fa1 (tri_ifeq 52 64) (fa1 (tri_aload 53 0) (fa1 (tri_aload 54 3) (fa1 (tri_callI 57 2 (rcv 0) f_X0_putAllIn) (fa1 (tri_ifeq 60 64) (fa1 (tri_push 61 (.inl 1)) (fa1 (tri_goto 65) (fa1 (tri_push 65 (.inl 0)) (fa1 (tri_zret) (fa0)))))))))))))))))))))))))))))))))))
set_option maxRecDepth 100000 in
set_option maxHeartbeats 4000000 in
theorem ks_X0_makeReady (G : Wp) (l : Launch) : ∀ e ∈ k_X0_makeReady, Snd loC G l RX0 cX0_makeReady 5 (some .boolean) rm_X0_makeReady e.1 e.2 :=
  fa1 (s_aload_n (kf := 0) (j := 0) (by decide +kernel) rfl) <|
  fa1 (s_getR (t2 := 3) (g := (fun _ => 23)) (ci := 0) (f := 1) (idx := 46) (C := RX0) (T := TX0) (NF := 11) (by decide +kernel) rfl (by decide) inG_X0 (by decide) w_508 lr_X0_1 (by decide)) <|
  fa1 (s_iload_n (kf := 1) (j := 1) (by decide +kernel) rfl) <|
  fa1 (s_vcallR (t := 2) (n := 1) (ci := 3) (C := RX3) (T := TX3) (NF := 11) (idx := 87) (y := yX3_get) (by decide +kernel) (gg_X3_get) rfl (by decide) yv_X3_get (all5 w_1095 w_736 w_737 w_104 w_738) rfl rfl ⟨by decide, by decide⟩) <|
  fa1 (s_astore (j := 4) (by decide +kernel) (by decide)) <|
  fa1 (s_aload (j := 4) (by decide +kernel)) <|
  fa1 (s_ifnonnull (off := 5) (by decide +kernel) (by decide)) <|
  fa1 (s_iconst (n := 0) (v := 0) (by decide +kernel) (by decide +kernel) (p32 rfl)) <|
  fa1 (s_zret (by decide +kernel) rfl) <|
  fa1 (s_aload_n (kf := 2) (j := 2) (by decide +kernel) rfl) <|
  fa1 (s_aload (j := 4) (by decide +kernel)) <|
  fa1 (s_getR (t2 := 8) (g := (fun c => c + 1)) (ci := 2) (f := 0) (idx := 91) (C := RX2) (T := TX2) (NF := 11) (by decide +kernel) rfl (by decide) inG_X2 (by decide) w_198 lr_X2_0 (by decide)) <|
  fa1 (s_vcallV (n := 1) (ci := 8) (C := RX8) (T := TX8) (NF := 2) (idx := 94) (y := yX8_copy) (by decide +kernel) (gg_X8_copy) rfl (by decide) yv_X8_copy (all5 w_1096 w_684 w_685 w_102 w_686) rfl rfl ⟨by decide, by decide⟩) <|
  fa1 (s_aload_n (kf := 3) (j := 3) (by decide +kernel) rfl) <|
  fa1 (s_aload (j := 4) (by decide +kernel)) <|
  fa1 (s_getR (t2 := 8) (g := (fun c => c + 3)) (ci := 2) (f := 1) (idx := 97) (C := RX2) (T := TX2) (NF := 11) (by decide +kernel) rfl (by decide) inG_X2 (by decide) w_205 lr_X2_1 (by decide)) <|
  fa1 (s_vcallV (n := 1) (ci := 8) (C := RX8) (T := TX8) (NF := 2) (idx := 94) (y := yX8_copy) (by decide +kernel) (gg_X8_copy) rfl (by decide) yv_X8_copy (all5 w_1096 w_684 w_685 w_102 w_686) rfl rfl ⟨by decide, by decide⟩) <|
  fa1 (s_aload_n (kf := 0) (j := 0) (by decide +kernel) rfl) <|
  fa1 (s_getI (ci := 0) (f := 10) (idx := 50) (C := RX0) (T := TX0) (NF := 11) (by decide +kernel) rfl (by decide) inG_X0 (by decide) w_517 li_X0_10) <|
  fa1 (s_iconst (n := 4) (v := 4) (by decide +kernel) (by decide +kernel) (p32 rfl)) <|
  fa1 (s_iand (by decide +kernel)) <|
  fa1 (s_ifeq (off := 19) (by decide +kernel) (by decide)) <|
  fa1 (s_aload_n (kf := 0) (j := 0) (by decide +kernel) rfl) <|
  fa1 (s_aload_n (kf := 2) (j := 2) (by decide +kernel) rfl) <|
  fa1 (s_vcallI (n := 1) (ci := 0) (C := RX0) (T := TX0) (NF := 11) (idx := 98) (y := yX0_putAllIn) (by decide +kernel) (gg_X0_putAllIn) rfl (by decide) yv_X0_putAllIn (all5 w_1097 w_1099 w_32 w_111 w_1100) rfl rfl ⟨by decide, by decide⟩) <|
  fa1 (s_ifeq (off := 15) (by decide +kernel) (by decide)) <|
  fa1 (s_aload_n (kf := 0) (j := 0) (by decide +kernel) rfl) <|
  fa1 (s_aload_n (kf := 3) (j := 3) (by decide +kernel) rfl) <|
  fa1 (s_vcallI (n := 1) (ci := 0) (C := RX0) (T := TX0) (NF := 11) (idx := 98) (y := yX0_putAllIn) (by decide +kernel) (gg_X0_putAllIn) rfl (by decide) yv_X0_putAllIn (all5 w_1097 w_1099 w_32 w_111 w_1100) rfl rfl ⟨by decide, by decide⟩) <|
  fa1 (s_ifeq (off := 7) (by decide +kernel) (by decide)) <|
  fa1 (s_iconst (n := 1) (v := 1) (by decide +kernel) (by decide +kernel) (p32 rfl)) <|
  fa1 (s_goto (off := 4) (by decide +kernel) (by decide)) <|
  fa1 (s_iconst (n := 0) (v := 0) (by decide +kernel) (by decide +kernel) (p32 rfl)) <|
  fa1 (s_zret (by decide +kernel) rfl) <| fa0
theorem gg_X0_makeReady {G : Wp} {l : Launch} : GoodM loC G l yX0_makeReady cX0_makeReady 5 (some .boolean) rm_X0_makeReady f_X0_makeReady := met_of kt_X0_makeReady (lkp_snd (ks_X0_makeReady G l)) (by decide +kernel) rfl (by decide)
noncomputable def k_X0_begin : List (Nat × Ins) := [
  (0, i_aload 1 0),
  (1, i_iload 2 2),
  (2, i_putI 5 0 10),
  (5, i_aload 6 0),
  (6, i_iload 7 1),
  (7, i_aload 8 0),
  (8, i_getR 11 0 8 (fun _ => 781)),
  (11, i_aload 12 0),
  (12, i_getR 15 0 8 (fun _ => 783)),
  (15, i_callI 18 4 (rcv 0) f_X0_makeReady),
  (18, i_zret)]
noncomputable def kc_X0_begin : Nat → Option Ins := lkp k_X0_begin
noncomputable def f_X0_begin : List AV → Mem → Option Rs := den 3 kc_X0_begin
abbrev rm_X0_begin : Room := { frames := 5, cells := 0, slots := 0, locals := 122 }
set_option maxRecDepth 100000 in
theorem kt_X0_begin : TriC kc_X0_begin := lkp_tri (fa1 (tri_aload 1 0) (fa1 (tri_iload 2 2) (fa1 (tri_putI 5 0 10) (fa1 (tri_aload 6 0) (fa1 (tri_iload 7 1) (fa1 (tri_aload 8 0) (fa1 (tri_getR 11 0 8 (fun _ => 781)) (fa1 (tri_aload 12 0) (fa1 (tri_getR 15 0 8 (fun _ => 783)) (fa1 (tri_callI 18 4 (rcv 0) f_X0_makeReady) (fa1 (tri_zret) (fa0))))))))))))
set_option maxRecDepth 100000 in
set_option maxHeartbeats 4000000 in
theorem ks_X0_begin (G : Wp) (l : Launch) : ∀ e ∈ k_X0_begin, Snd loC G l RX0 cX0_begin 3 (some .boolean) rm_X0_begin e.1 e.2 :=
  fa1 (s_aload_n (kf := 0) (j := 0) (by decide +kernel) rfl) <|
  fa1 (s_iload_n (kf := 2) (j := 2) (by decide +kernel) rfl) <|
  fa1 (s_putI (ci := 0) (f := 10) (idx := 50) (C := RX0) (T := TX0) (NF := 11) (by decide +kernel) rfl (by decide) inG_X0 (by decide) w_517 tyX0 tyX0_ok nmX0 rfl (by decide +kernel) li_X0_10) <|
  fa1 (s_aload_n (kf := 0) (j := 0) (by decide +kernel) rfl) <|
  fa1 (s_iload_n (kf := 1) (j := 1) (by decide +kernel) rfl) <|
  fa1 (s_aload_n (kf := 0) (j := 0) (by decide +kernel) rfl) <|
  fa1 (s_getR (t2 := 8) (g := (fun _ => 781)) (ci := 0) (f := 2) (idx := 16) (C := RX0) (T := TX0) (NF := 11) (by decide +kernel) rfl (by decide) inG_X0 (by decide) w_509 lr_X0_2 (by decide)) <|
  fa1 (s_aload_n (kf := 0) (j := 0) (by decide +kernel) rfl) <|
  fa1 (s_getR (t2 := 8) (g := (fun _ => 783)) (ci := 0) (f := 3) (idx := 20) (C := RX0) (T := TX0) (NF := 11) (by decide +kernel) rfl (by decide) inG_X0 (by decide) w_510 lr_X0_3 (by decide)) <|
  fa1 (s_vcallI (n := 3) (ci := 0) (C := RX0) (T := TX0) (NF := 11) (idx := 54) (y := yX0_makeReady) (by decide +kernel) (gg_X0_makeReady) rfl (by decide) yv_X0_makeReady (all5 w_1091 w_1093 w_31 w_111 w_1094) rfl rfl ⟨by decide, by decide⟩) <|
  fa1 (s_zret (by decide +kernel) rfl) <| fa0
theorem gg_X0_begin {G : Wp} {l : Launch} : GoodM loC G l yX0_begin cX0_begin 3 (some .boolean) rm_X0_begin f_X0_begin := met_of kt_X0_begin (lkp_snd (ks_X0_begin G l)) (by decide +kernel) rfl (by decide)
noncomputable def k_X0_rename : List (Nat × Ins) := [
  (0, i_aload 1 3),
  (1, i_push 2 (.inl 0)),
  (2, i_putI 5 8 1),
  (5, i_push 6 (.inl 0)),
  (6, i_istore 8 4),
  (8, i_iload 10 4),
  (10, i_aload 11 1),
  (11, i_getI 14 8 1),
  (14, i_cmpge 17 92),
  (17, i_aload 18 1),
  (18, i_iload 20 4),
  (20, i_callI 23 2 (rcv 8) f_X8_at),
  (23, i_istore 25 5),
  (25, i_iload 26 2),
  (26, i_iload 28 5),
  (28, i_bin 29 (fun x y => wr (x + y))),
  (29, i_push 31 (.inl 23)),
  (31, i_bin 32 (fun x y => wr (x - y))),
  (32, i_istore 34 6),
  (34, i_iload 36 5),
  (36, i_push 38 (.inl 23)),
  (38, i_cmplt 41 59),
  (41, i_iload 43 6),
  (43, i_iflt 46 59),
  (46, i_iload 48 6),
  (48, i_push 51 (.inr (.inr (some (32, 4))))),
  (51, i_alen 52 32 sLn),
  (52, i_cmpge 55 59),
  (55, i_push 56 (.inl 1)),
  (56, i_goto 60),
  (59, i_push 60 (.inl 0)),
  (60, i_istore 62 7),
  (62, i_aload 63 3),
  (63, i_iload 65 7),
  (65, i_ifeq 68 80),
  (68, i_push 70 (.inl 23)),
  (70, i_push 73 (.inr (.inr (some (32, 4))))),
  (73, i_iload 75 6),
  (75, i_alds 76 32 sLn sCt),
  (76, i_bin 77 (fun x y => wr (x + y))),
  (77, i_goto 82),
  (80, i_iload 82 5),
  (82, i_callI 85 2 (rcv 8) f_X8_add),
  (85, i_pop 86),
  (86, i_iinc 89 4 (1)),
  (89, i_goto 8),
  (92, i_vret)]
noncomputable def kc_X0_rename : Nat → Option Ins := lkp k_X0_rename
noncomputable def f_X0_rename : List AV → Mem → Option Rs := den 8 kc_X0_rename
abbrev rm_X0_rename : Room := { frames := 1, cells := 0, slots := 0, locals := 21 }
set_option maxRecDepth 100000 in
theorem kt_X0_rename : TriC kc_X0_rename := lkp_tri (fa1 (tri_aload 1 3) (fa1 (tri_push 2 (.inl 0)) (fa1 (tri_putI 5 8 1) (fa1 (tri_push 6 (.inl 0)) (fa1 (tri_istore 8 4) (fa1 (tri_iload 10 4) (fa1 (tri_aload 11 1) (fa1 (tri_getI 14 8 1) (fa1 (tri_cmpge 17 92) (fa1 (tri_aload 18 1) (fa1 (tri_iload 20 4) (fa1 (tri_callI 23 2 (rcv 8) f_X8_at) (fa1 (tri_istore 25 5) (fa1 (tri_iload 26 2) (fa1 (tri_iload 28 5) (fa1 (tri_bin 29 (fun x y => wr (x + y))) (fa1 (tri_push 31 (.inl 23)) (fa1 (tri_bin 32 (fun x y => wr (x - y))) (fa1 (tri_istore 34 6) (fa1 (tri_iload 36 5) (fa1 (tri_push 38 (.inl 23)) (fa1 (tri_cmplt 41 59) (fa1 (tri_iload 43 6) (fa1 (tri_iflt 46 59) (fa1 (tri_iload 48 6) (fa1 (tri_push 51 (.inr (.inr (some (32, 4))))) (fa1 (tri_alen 52 32 sLn) (fa1 (tri_cmpge 55 59) (fa1 (tri_push 56 (.inl 1)) (fa1 (tri_goto 60) (fa1 (tri_push 60 (.inl 0)) (fa1 (tri_istore 62 7) (fa1 (tri_aload 63 3) (fa1 (tri_iload 65 7) (fa1 (tri_ifeq 68 80) (fa1 (tri_push 70 (.inl 23)) (fa1 (tri_push 73 (.inr (.inr (some (32, 4))))) (fa1 (tri_iload 75 6) (fa1 (tri_alds 76 32 sLn sCt) (fa1 (tri_bin 77 (fun x y => wr (x + y))) (fa1 (tri_goto 82) (fa1 (tri_iload 82 5) (fa1 (tri_callI 85 2 (rcv 8) f_X8_add) (fa1 (tri_pop 86) (fa1 (tri_iinc 89 4 (1)) (fa1 (tri_goto 8) (fa1 (tri_vret) (fa0))))))))))))))))))))))))))))))))))))))))))))))))
set_option maxRecDepth 100000 in
set_option maxHeartbeats 4000000 in
theorem ks_X0_rename (G : Wp) (l : Launch) : ∀ e ∈ k_X0_rename, Snd loC G l RX0 cX0_rename 8 none rm_X0_rename e.1 e.2 :=
  fa1 (s_aload_n (kf := 3) (j := 3) (by decide +kernel) rfl) <|
  fa1 (s_iconst (n := 0) (v := 0) (by decide +kernel) (by decide +kernel) (p32 rfl)) <|
  fa1 (s_putI (ci := 8) (f := 1) (idx := 71) (C := RX8) (T := TX8) (NF := 2) (by decide +kernel) rfl (by decide) inG_X8 (by decide) w_143 tyX8 tyX8_ok nmX8 rfl (by decide +kernel) li_X8_1) <|
  fa1 (s_iconst (n := 0) (v := 0) (by decide +kernel) (by decide +kernel) (p32 rfl)) <|
  fa1 (s_istore (j := 4) (by decide +kernel) (by decide)) <|
  fa1 (s_iload (j := 4) (by decide +kernel)) <|
  fa1 (s_aload_n (kf := 1) (j := 1) (by decide +kernel) rfl) <|
  fa1 (s_getI (ci := 8) (f := 1) (idx := 71) (C := RX8) (T := TX8) (NF := 2) (by decide +kernel) rfl (by decide) inG_X8 (by decide) w_143 li_X8_1) <|
  fa1 (s_cmpge (off := 78) (by decide +kernel) (by decide)) <|
  fa1 (s_aload_n (kf := 1) (j := 1) (by decide +kernel) rfl) <|
  fa1 (s_iload (j := 4) (by decide +kernel)) <|
  fa1 (s_vcallI (n := 1) (ci := 8) (C := RX8) (T := TX8) (NF := 2) (idx := 109) (y := yX8_at) (by decide +kernel) (gg_X8_at) rfl (by decide) yv_X8_at (all5 w_1105 w_667 w_668 w_102 w_669) rfl rfl ⟨by decide, by decide⟩) <|
  fa1 (s_istore (j := 5) (by decide +kernel) (by decide)) <|
  fa1 (s_iload_n (kf := 2) (j := 2) (by decide +kernel) rfl) <|
  fa1 (s_iload (j := 5) (by decide +kernel)) <|
  fa1 (s_iadd (by decide +kernel)) <|
  fa1 (s_bipush (n := 23) (v := 23) (by decide +kernel) (by decide +kernel) (p32 rfl)) <|
  fa1 (s_isub (by decide +kernel)) <|
  fa1 (s_istore (j := 6) (by decide +kernel) (by decide)) <|
  fa1 (s_iload (j := 5) (by decide +kernel)) <|
  fa1 (s_bipush (n := 23) (v := 23) (by decide +kernel) (by decide +kernel) (p32 rfl)) <|
  fa1 (s_cmplt (off := 21) (by decide +kernel) (by decide)) <|
  fa1 (s_iload (j := 6) (by decide +kernel)) <|
  fa1 (s_iflt (off := 16) (by decide +kernel) (by decide)) <|
  fa1 (s_iload (j := 6) (by decide +kernel)) <|
  fa1 (s_gets (j := 4) (idx := 76) (by decide +kernel) rfl w_1145) <|
  fa1 (s_alens (t := 32) (by decide +kernel) (by decide)) <|
  fa1 (s_cmpge (off := 7) (by decide +kernel) (by decide)) <|
  fa1 (s_iconst (n := 1) (v := 1) (by decide +kernel) (by decide +kernel) (p32 rfl)) <|
  fa1 (s_goto (off := 4) (by decide +kernel) (by decide)) <|
  fa1 (s_iconst (n := 0) (v := 0) (by decide +kernel) (by decide +kernel) (p32 rfl)) <|
  fa1 (s_istore (j := 7) (by decide +kernel) (by decide)) <|
  fa1 (s_aload_n (kf := 3) (j := 3) (by decide +kernel) rfl) <|
  fa1 (s_iload (j := 7) (by decide +kernel)) <|
  fa1 (s_ifeq (off := 15) (by decide +kernel) (by decide)) <|
  fa1 (s_bipush (n := 23) (v := 23) (by decide +kernel) (by decide +kernel) (p32 rfl)) <|
  fa1 (s_gets (j := 4) (idx := 76) (by decide +kernel) rfl w_1145) <|
  fa1 (s_iload (j := 6) (by decide +kernel)) <|
  fa1 (s_ialds (by decide +kernel)) <|
  fa1 (s_iadd (by decide +kernel)) <|
  fa1 (s_goto (off := 5) (by decide +kernel) (by decide)) <|
  fa1 (s_iload (j := 5) (by decide +kernel)) <|
  fa1 (s_vcallI (n := 1) (ci := 8) (C := RX8) (T := TX8) (NF := 2) (idx := 132) (y := yX8_add) (by decide +kernel) (gg_X8_add) rfl (by decide) yv_X8_add (all5 w_1118 w_659 w_660 w_102 w_661) rfl rfl ⟨by decide, by decide⟩) <|
  fa1 (s_pop (by decide +kernel)) <|
  fa1 (s_iinc (j := 4) (d := 1) (by decide +kernel) (by decide)) <|
  fa1 (s_goto (off := -81) (by decide +kernel) (by decide)) <|
  fa1 (s_vret (by decide +kernel) rfl) <| fa0
theorem gg_X0_rename {G : Wp} {l : Launch} : GoodM loC G l yX0_rename cX0_rename 8 none rm_X0_rename f_X0_rename := met_of kt_X0_rename (lkp_snd (ks_X0_rename G l)) (by decide +kernel) rfl (by decide)
noncomputable def k_X8_set : List (Nat × Ins) := [
  (0, i_iload 1 1),
  (1, i_iflt 4 20),
  (4, i_iload 5 1),
  (5, i_aload 6 0),
  (6, i_getI 9 8 1),
  (9, i_cmpge 12 20),
  (12, i_aload 13 0),
  (13, i_getR 16 8 21 (fun c => c + 1)),
  (16, i_iload 17 1),
  (17, i_iload 18 2),
  (18, i_un 19 wrB),
  (19, i_ast 20 21 lnC wrB),
  (20, i_vret)]
noncomputable def kc_X8_set : Nat → Option Ins := lkp k_X8_set
noncomputable def f_X8_set : List AV → Mem → Option Rs := den 3 kc_X8_set
abbrev rm_X8_set : Room := { frames := 0, cells := 0, slots := 0, locals := 0 }
set_option maxRecDepth 100000 in
theorem kt_X8_set : TriC kc_X8_set := lkp_tri (fa1 (tri_iload 1 1) (fa1 (tri_iflt 4 20) (fa1 (tri_iload 5 1) (fa1 (tri_aload 6 0) (fa1 (tri_getI 9 8 1) (fa1 (tri_cmpge 12 20) (fa1 (tri_aload 13 0) (fa1 (tri_getR 16 8 21 (fun c => c + 1)) (fa1 (tri_iload 17 1) (fa1 (tri_iload 18 2) (fa1 (tri_un 19 wrB) (fa1 (tri_ast 20 21 lnC wrB) (fa1 (tri_vret) (fa0))))))))))))))
set_option maxRecDepth 100000 in
set_option maxHeartbeats 4000000 in
theorem ks_X8_set (G : Wp) (l : Launch) : ∀ e ∈ k_X8_set, Snd loC G l RX8 cX8_set 3 none rm_X8_set e.1 e.2 :=
  fa1 (s_iload_n (kf := 1) (j := 1) (by decide +kernel) rfl) <|
  fa1 (s_iflt (off := 19) (by decide +kernel) (by decide)) <|
  fa1 (s_iload_n (kf := 1) (j := 1) (by decide +kernel) rfl) <|
  fa1 (s_aload_n (kf := 0) (j := 0) (by decide +kernel) rfl) <|
  fa1 (s_getI (ci := 8) (f := 1) (idx := 21) (C := RX8) (T := TX8) (NF := 2) (by decide +kernel) rfl (by decide) inG_X8 (by decide) w_140 li_X8_1) <|
  fa1 (s_cmpge (off := 11) (by decide +kernel) (by decide)) <|
  fa1 (s_aload_n (kf := 0) (j := 0) (by decide +kernel) rfl) <|
  fa1 (s_getR (t2 := 21) (g := (fun c => c + 1)) (ci := 8) (f := 0) (idx := 15) (C := RX8) (T := TX8) (NF := 2) (by decide +kernel) rfl (by decide) inG_X8 (by decide) w_139 lr_X8_0 (by decide)) <|
  fa1 (s_iload_n (kf := 1) (j := 1) (by decide +kernel) rfl) <|
  fa1 (s_iload_n (kf := 2) (j := 2) (by decide +kernel) rfl) <|
  fa1 (s_i2b (by decide +kernel)) <|
  fa1 (s_bast (by decide +kernel) lt_loC_21) <|
  fa1 (s_vret (by decide +kernel) rfl) <| fa0
theorem gg_X8_set {G : Wp} {l : Launch} : GoodM loC G l yX8_set cX8_set 3 none rm_X8_set f_X8_set := met_of kt_X8_set (lkp_snd (ks_X8_set G l)) (by decide +kernel) rfl (by decide)
noncomputable def k_X0_changeMates : List (Nat × Ins) := [
  (0, i_aload 1 0),
  (1, i_getR 4 0 8 (fun _ => 793)),
  (4, i_push 5 (.inl 0)),
  (5, i_putI 8 8 1),
  (8, i_aload 9 0),
  (9, i_getR 12 0 8 (fun _ => 793)),
  (12, i_aload 13 1),
  (13, i_iload 14 3),
  (14, i_iload 16 4),
  (16, i_callI 19 4 (rcv 8) f_X8_addPart),
  (19, i_pop 20),
  (20, i_aload 21 0),
  (21, i_getR 24 0 8 (fun _ => 793)),
  (24, i_aload 25 1),
  (25, i_iload 26 2),
  (26, i_iload 27 3),
  (27, i_callI 30 4 (rcv 8) f_X8_addPart),
  (30, i_pop 31),
  (31, i_push 32 (.inl 0)),
  (32, i_istore 34 5),
  (34, i_iload 36 5),
  (36, i_aload 37 0),
  (37, i_getR 40 0 8 (fun _ => 793)),
  (40, i_getI 43 8 1),
  (43, i_cmpge 46 69),
  (46, i_aload 47 1),
  (47, i_iload 48 2),
  (48, i_iload 50 5),
  (50, i_bin 51 (fun x y => wr (x + y))),
  (51, i_aload 52 0),
  (52, i_getR 55 0 8 (fun _ => 793)),
  (55, i_iload 57 5),
  (57, i_callI 60 2 (rcv 8) f_X8_at),
  (60, i_callV 63 3 (rcv 8) f_X8_set),
  (63, i_iinc 66 5 (1)),
  (66, i_goto 34),
  (69, i_vret)]
noncomputable def kc_X0_changeMates : Nat → Option Ins := lkp k_X0_changeMates
noncomputable def f_X0_changeMates : List AV → Mem → Option Rs := den 6 kc_X0_changeMates
abbrev rm_X0_changeMates : Room := { frames := 1, cells := 0, slots := 0, locals := 24 }
set_option maxRecDepth 100000 in
theorem kt_X0_changeMates : TriC kc_X0_changeMates := lkp_tri (fa1 (tri_aload 1 0) (fa1 (tri_getR 4 0 8 (fun _ => 793)) (fa1 (tri_push 5 (.inl 0)) (fa1 (tri_putI 8 8 1) (fa1 (tri_aload 9 0) (fa1 (tri_getR 12 0 8 (fun _ => 793)) (fa1 (tri_aload 13 1) (fa1 (tri_iload 14 3) (fa1 (tri_iload 16 4) (fa1 (tri_callI 19 4 (rcv 8) f_X8_addPart) (fa1 (tri_pop 20) (fa1 (tri_aload 21 0) (fa1 (tri_getR 24 0 8 (fun _ => 793)) (fa1 (tri_aload 25 1) (fa1 (tri_iload 26 2) (fa1 (tri_iload 27 3) (fa1 (tri_callI 30 4 (rcv 8) f_X8_addPart) (fa1 (tri_pop 31) (fa1 (tri_push 32 (.inl 0)) (fa1 (tri_istore 34 5) (fa1 (tri_iload 36 5) (fa1 (tri_aload 37 0) (fa1 (tri_getR 40 0 8 (fun _ => 793)) (fa1 (tri_getI 43 8 1) (fa1 (tri_cmpge 46 69) (fa1 (tri_aload 47 1) (fa1 (tri_iload 48 2) (fa1 (tri_iload 50 5) (fa1 (tri_bin 51 (fun x y => wr (x + y))) (fa1 (tri_aload 52 0) (fa1 (tri_getR 55 0 8 (fun _ => 793)) (fa1 (tri_iload 57 5) (fa1 (tri_callI 60 2 (rcv 8) f_X8_at) (fa1 (tri_callV 63 3 (rcv 8) f_X8_set) (fa1 (tri_iinc 66 5 (1)) (fa1 (tri_goto 34) (fa1 (tri_vret) (fa0))))))))))))))))))))))))))))))))))))))
set_option maxRecDepth 100000 in
set_option maxHeartbeats 4000000 in
theorem ks_X0_changeMates (G : Wp) (l : Launch) : ∀ e ∈ k_X0_changeMates, Snd loC G l RX0 cX0_changeMates 6 none rm_X0_changeMates e.1 e.2 :=
  fa1 (s_aload_n (kf := 0) (j := 0) (by decide +kernel) rfl) <|
  fa1 (s_getR (t2 := 8) (g := (fun _ => 793)) (ci := 0) (f := 8) (idx := 35) (C := RX0) (T := TX0) (NF := 11) (by decide +kernel) rfl (by decide) inG_X0 (by decide) w_515 lr_X0_8 (by decide)) <|
  fa1 (s_iconst (n := 0) (v := 0) (by decide +kernel) (by decide +kernel) (p32 rfl)) <|
  fa1 (s_putI (ci := 8) (f := 1) (idx := 71) (C := RX8) (T := TX8) (NF := 2) (by decide +kernel) rfl (by decide) inG_X8 (by decide) w_143 tyX8 tyX8_ok nmX8 rfl (by decide +kernel) li_X8_1) <|
  fa1 (s_aload_n (kf := 0) (j := 0) (by decide +kernel) rfl) <|
  fa1 (s_getR (t2 := 8) (g := (fun _ => 793)) (ci := 0) (f := 8) (idx := 35) (C := RX0) (T := TX0) (NF := 11) (by decide +kernel) rfl (by decide) inG_X0 (by decide) w_515 lr_X0_8 (by decide)) <|
  fa1 (s_aload_n (kf := 1) (j := 1) (by decide +kernel) rfl) <|
  fa1 (s_iload_n (kf := 3) (j := 3) (by decide +kernel) rfl) <|
  fa1 (s_iload (j := 4) (by decide +kernel)) <|
  fa1 (s_vcallI (n := 3) (ci := 8) (C := RX8) (T := TX8) (NF := 2) (idx := 128) (y := yX8_addPart) (by decide +kernel) (gg_X8_addPart) rfl (by decide) yv_X8_addPart (all5 w_1117 w_688 w_689 w_102 w_690) rfl rfl ⟨by decide, by decide⟩) <|
  fa1 (s_pop (by decide +kernel)) <|
  fa1 (s_aload_n (kf := 0) (j := 0) (by decide +kernel) rfl) <|
  fa1 (s_getR (t2 := 8) (g := (fun _ => 793)) (ci := 0) (f := 8) (idx := 35) (C := RX0) (T := TX0) (NF := 11) (by decide +kernel) rfl (by decide) inG_X0 (by decide) w_515 lr_X0_8 (by decide)) <|
  fa1 (s_aload_n (kf := 1) (j := 1) (by decide +kernel) rfl) <|
  fa1 (s_iload_n (kf := 2) (j := 2) (by decide +kernel) rfl) <|
  fa1 (s_iload_n (kf := 3) (j := 3) (by decide +kernel) rfl) <|
  fa1 (s_vcallI (n := 3) (ci := 8) (C := RX8) (T := TX8) (NF := 2) (idx := 128) (y := yX8_addPart) (by decide +kernel) (gg_X8_addPart) rfl (by decide) yv_X8_addPart (all5 w_1117 w_688 w_689 w_102 w_690) rfl rfl ⟨by decide, by decide⟩) <|
  fa1 (s_pop (by decide +kernel)) <|
  fa1 (s_iconst (n := 0) (v := 0) (by decide +kernel) (by decide +kernel) (p32 rfl)) <|
  fa1 (s_istore (j := 5) (by decide +kernel) (by decide)) <|
  fa1 (s_iload (j := 5) (by decide +kernel)) <|
  fa1 (s_aload_n (kf := 0) (j := 0) (by decide +kernel) rfl) <|
  fa1 (s_getR (t2 := 8) (g := (fun _ => 793)) (ci := 0) (f := 8) (idx := 35) (C := RX0) (T := TX0) (NF := 11) (by decide +kernel) rfl (by decide) inG_X0 (by decide) w_515 lr_X0_8 (by decide)) <|
  fa1 (s_getI (ci := 8) (f := 1) (idx := 71) (C := RX8) (T := TX8) (NF := 2) (by decide +kernel) rfl (by decide) inG_X8 (by decide) w_143 li_X8_1) <|
  fa1 (s_cmpge (off := 26) (by decide +kernel) (by decide)) <|
  fa1 (s_aload_n (kf := 1) (j := 1) (by decide +kernel) rfl) <|
  fa1 (s_iload_n (kf := 2) (j := 2) (by decide +kernel) rfl) <|
  fa1 (s_iload (j := 5) (by decide +kernel)) <|
  fa1 (s_iadd (by decide +kernel)) <|
  fa1 (s_aload_n (kf := 0) (j := 0) (by decide +kernel) rfl) <|
  fa1 (s_getR (t2 := 8) (g := (fun _ => 793)) (ci := 0) (f := 8) (idx := 35) (C := RX0) (T := TX0) (NF := 11) (by decide +kernel) rfl (by decide) inG_X0 (by decide) w_515 lr_X0_8 (by decide)) <|
  fa1 (s_iload (j := 5) (by decide +kernel)) <|
  fa1 (s_vcallI (n := 1) (ci := 8) (C := RX8) (T := TX8) (NF := 2) (idx := 109) (y := yX8_at) (by decide +kernel) (gg_X8_at) rfl (by decide) yv_X8_at (all5 w_1105 w_667 w_668 w_102 w_669) rfl rfl ⟨by decide, by decide⟩) <|
  fa1 (s_vcallV (n := 2) (ci := 8) (C := RX8) (T := TX8) (NF := 2) (idx := 155) (y := yX8_set) (by decide +kernel) (gg_X8_set) rfl (by decide) yv_X8_set (all5 w_1141 w_1142 w_1143 w_102 w_1144) rfl rfl ⟨by decide, by decide⟩) <|
  fa1 (s_iinc (j := 5) (d := 1) (by decide +kernel) (by decide)) <|
  fa1 (s_goto (off := -32) (by decide +kernel) (by decide)) <|
  fa1 (s_vret (by decide +kernel) rfl) <| fa0
theorem gg_X0_changeMates {G : Wp} {l : Launch} : GoodM loC G l yX0_changeMates cX0_changeMates 6 none rm_X0_changeMates f_X0_changeMates := met_of kt_X0_changeMates (lkp_snd (ks_X0_changeMates G l)) (by decide +kernel) rfl (by decide)
noncomputable def k_X0_comesLater : List (Nat × Ins) := [
  (0, i_push 1 (.inl 0)),
  (1, i_istore 3 5),
  (3, i_iload 4 2),
  (4, i_iload 6 5),
  (6, i_bin 7 (fun x y => wr (x + y))),
  (7, i_iload 8 3),
  (8, i_cmpge 11 66),
  (11, i_iload 12 3),
  (12, i_iload 14 5),
  (14, i_bin 15 (fun x y => wr (x + y))),
  (15, i_iload 17 4),
  (17, i_cmpge 20 66),
  (20, i_aload 21 1),
  (21, i_iload 22 2),
  (22, i_iload 24 5),
  (24, i_bin 25 (fun x y => wr (x + y))),
  (25, i_callI 28 2 (rcv 8) f_X8_at),
  (28, i_istore 30 6),
  (30, i_aload 31 1),
  (31, i_iload 32 3),
  (32, i_iload 34 5),
  (34, i_bin 35 (fun x y => wr (x + y))),
  (35, i_callI 38 2 (rcv 8) f_X8_at),
  (38, i_istore 40 7),
  (40, i_iload 42 6),
  (42, i_iload 44 7),
  (44, i_cmpeq 47 60),
  (47, i_iload 49 6),
  (49, i_iload 51 7),
  (51, i_cmple 54 58),
  (54, i_push 55 (.inl 1)),
  (55, i_goto 59),
  (58, i_push 59 (.inl 0)),
  (59, i_zret),
  (60, i_iinc 63 5 (1)),
  (63, i_goto 3),
  (66, i_push 67 (.inl 0)),
  (67, i_zret)]
noncomputable def kc_X0_comesLater : Nat → Option Ins := lkp k_X0_comesLater
noncomputable def f_X0_comesLater : List AV → Mem → Option Rs := den 8 kc_X0_comesLater
abbrev rm_X0_comesLater : Room := { frames := 1, cells := 0, slots := 0, locals := 21 }
set_option maxRecDepth 100000 in
theorem kt_X0_comesLater : TriC kc_X0_comesLater := lkp_tri (fa1 (tri_push 1 (.inl 0)) (fa1 (tri_istore 3 5) (fa1 (tri_iload 4 2) (fa1 (tri_iload 6 5) (fa1 (tri_bin 7 (fun x y => wr (x + y))) (fa1 (tri_iload 8 3) (fa1 (tri_cmpge 11 66) (fa1 (tri_iload 12 3) (fa1 (tri_iload 14 5) (fa1 (tri_bin 15 (fun x y => wr (x + y))) (fa1 (tri_iload 17 4) (fa1 (tri_cmpge 20 66) (fa1 (tri_aload 21 1) (fa1 (tri_iload 22 2) (fa1 (tri_iload 24 5) (fa1 (tri_bin 25 (fun x y => wr (x + y))) (fa1 (tri_callI 28 2 (rcv 8) f_X8_at) (fa1 (tri_istore 30 6) (fa1 (tri_aload 31 1) (fa1 (tri_iload 32 3) (fa1 (tri_iload 34 5) (fa1 (tri_bin 35 (fun x y => wr (x + y))) (fa1 (tri_callI 38 2 (rcv 8) f_X8_at) (fa1 (tri_istore 40 7) (fa1 (tri_iload 42 6) (fa1 (tri_iload 44 7) (fa1 (tri_cmpeq 47 60) (fa1 (tri_iload 49 6) (fa1 (tri_iload 51 7) (fa1 (tri_cmple 54 58) (fa1 (tri_push 55 (.inl 1)) (fa1 (tri_goto 59) (fa1 (tri_push 59 (.inl 0)) (fa1 (tri_zret) (fa1 (tri_iinc 63 5 (1)) (fa1 (tri_goto 3) (fa1 (tri_push 67 (.inl 0)) (fa1 (tri_zret) (fa0)))))))))))))))))))))))))))))))))))))))
set_option maxRecDepth 100000 in
set_option maxHeartbeats 4000000 in
theorem ks_X0_comesLater (G : Wp) (l : Launch) : ∀ e ∈ k_X0_comesLater, Snd loC G l RX0 cX0_comesLater 8 (some .boolean) rm_X0_comesLater e.1 e.2 :=
  fa1 (s_iconst (n := 0) (v := 0) (by decide +kernel) (by decide +kernel) (p32 rfl)) <|
  fa1 (s_istore (j := 5) (by decide +kernel) (by decide)) <|
  fa1 (s_iload_n (kf := 2) (j := 2) (by decide +kernel) rfl) <|
  fa1 (s_iload (j := 5) (by decide +kernel)) <|
  fa1 (s_iadd (by decide +kernel)) <|
  fa1 (s_iload_n (kf := 3) (j := 3) (by decide +kernel) rfl) <|
  fa1 (s_cmpge (off := 58) (by decide +kernel) (by decide)) <|
  fa1 (s_iload_n (kf := 3) (j := 3) (by decide +kernel) rfl) <|
  fa1 (s_iload (j := 5) (by decide +kernel)) <|
  fa1 (s_iadd (by decide +kernel)) <|
  fa1 (s_iload (j := 4) (by decide +kernel)) <|
  fa1 (s_cmpge (off := 49) (by decide +kernel) (by decide)) <|
  fa1 (s_aload_n (kf := 1) (j := 1) (by decide +kernel) rfl) <|
  fa1 (s_iload_n (kf := 2) (j := 2) (by decide +kernel) rfl) <|
  fa1 (s_iload (j := 5) (by decide +kernel)) <|
  fa1 (s_iadd (by decide +kernel)) <|
  fa1 (s_vcallI (n := 1) (ci := 8) (C := RX8) (T := TX8) (NF := 2) (idx := 109) (y := yX8_at) (by decide +kernel) (gg_X8_at) rfl (by decide) yv_X8_at (all5 w_1105 w_667 w_668 w_102 w_669) rfl rfl ⟨by decide, by decide⟩) <|
  fa1 (s_istore (j := 6) (by decide +kernel) (by decide)) <|
  fa1 (s_aload_n (kf := 1) (j := 1) (by decide +kernel) rfl) <|
  fa1 (s_iload_n (kf := 3) (j := 3) (by decide +kernel) rfl) <|
  fa1 (s_iload (j := 5) (by decide +kernel)) <|
  fa1 (s_iadd (by decide +kernel)) <|
  fa1 (s_vcallI (n := 1) (ci := 8) (C := RX8) (T := TX8) (NF := 2) (idx := 109) (y := yX8_at) (by decide +kernel) (gg_X8_at) rfl (by decide) yv_X8_at (all5 w_1105 w_667 w_668 w_102 w_669) rfl rfl ⟨by decide, by decide⟩) <|
  fa1 (s_istore (j := 7) (by decide +kernel) (by decide)) <|
  fa1 (s_iload (j := 6) (by decide +kernel)) <|
  fa1 (s_iload (j := 7) (by decide +kernel)) <|
  fa1 (s_cmpeq (off := 16) (by decide +kernel) (by decide)) <|
  fa1 (s_iload (j := 6) (by decide +kernel)) <|
  fa1 (s_iload (j := 7) (by decide +kernel)) <|
  fa1 (s_cmple (off := 7) (by decide +kernel) (by decide)) <|
  fa1 (s_iconst (n := 1) (v := 1) (by decide +kernel) (by decide +kernel) (p32 rfl)) <|
  fa1 (s_goto (off := 4) (by decide +kernel) (by decide)) <|
  fa1 (s_iconst (n := 0) (v := 0) (by decide +kernel) (by decide +kernel) (p32 rfl)) <|
  fa1 (s_zret (by decide +kernel) rfl) <|
  fa1 (s_iinc (j := 5) (d := 1) (by decide +kernel) (by decide)) <|
  fa1 (s_goto (off := -60) (by decide +kernel) (by decide)) <|
  fa1 (s_iconst (n := 0) (v := 0) (by decide +kernel) (by decide +kernel) (p32 rfl)) <|
  fa1 (s_zret (by decide +kernel) rfl) <| fa0
theorem gg_X0_comesLater {G : Wp} {l : Launch} : GoodM loC G l yX0_comesLater cX0_comesLater 8 (some .boolean) rm_X0_comesLater f_X0_comesLater := met_of kt_X0_comesLater (lkp_snd (ks_X0_comesLater G l)) (by decide +kernel) rfl (by decide)
noncomputable def k_X0_endAt : List (Nat × Ins) := [
  (0, i_iload 1 2),
  (1, i_iflt 4 28),
  (4, i_iload 5 2),
  (5, i_aload 6 1),
  (6, i_getI 9 8 1),
  (9, i_cmpge 12 28),
  (12, i_iload 13 2),
  (13, i_push 16 (.inl 200)),
  (16, i_cmpge 19 28),
  (19, i_aload 20 0),
  (20, i_getR 23 0 20 (fun _ => 795)),
  (23, i_iload 24 2),
  (24, i_ald 25 20 lnC),
  (25, i_goto 32),
  (28, i_aload 29 1),
  (29, i_getI 32 8 1),
  (32, i_iret)]
noncomputable def kc_X0_endAt : Nat → Option Ins := lkp k_X0_endAt
noncomputable def f_X0_endAt : List AV → Mem → Option Rs := den 3 kc_X0_endAt
abbrev rm_X0_endAt : Room := { frames := 0, cells := 0, slots := 0, locals := 0 }
set_option maxRecDepth 100000 in
theorem kt_X0_endAt : TriC kc_X0_endAt := lkp_tri (fa1 (tri_iload 1 2) (fa1 (tri_iflt 4 28) (fa1 (tri_iload 5 2) (fa1 (tri_aload 6 1) (fa1 (tri_getI 9 8 1) (fa1 (tri_cmpge 12 28) (fa1 (tri_iload 13 2) (fa1 (tri_push 16 (.inl 200)) (fa1 (tri_cmpge 19 28) (fa1 (tri_aload 20 0) (fa1 (tri_getR 23 0 20 (fun _ => 795)) (fa1 (tri_iload 24 2) (fa1 (tri_ald 25 20 lnC) (fa1 (tri_goto 32) (fa1 (tri_aload 29 1) (fa1 (tri_getI 32 8 1) (fa1 (tri_iret) (fa0))))))))))))))))))
set_option maxRecDepth 100000 in
set_option maxHeartbeats 4000000 in
theorem ks_X0_endAt (G : Wp) (l : Launch) : ∀ e ∈ k_X0_endAt, Snd loC G l RX0 cX0_endAt 3 (some .int) rm_X0_endAt e.1 e.2 :=
  fa1 (s_iload_n (kf := 2) (j := 2) (by decide +kernel) rfl) <|
  fa1 (s_iflt (off := 27) (by decide +kernel) (by decide)) <|
  fa1 (s_iload_n (kf := 2) (j := 2) (by decide +kernel) rfl) <|
  fa1 (s_aload_n (kf := 1) (j := 1) (by decide +kernel) rfl) <|
  fa1 (s_getI (ci := 8) (f := 1) (idx := 71) (C := RX8) (T := TX8) (NF := 2) (by decide +kernel) rfl (by decide) inG_X8 (by decide) w_143 li_X8_1) <|
  fa1 (s_cmpge (off := 19) (by decide +kernel) (by decide)) <|
  fa1 (s_iload_n (kf := 2) (j := 2) (by decide +kernel) rfl) <|
  fa1 (s_sipush (n := 200) (v := 200) (by decide +kernel) (by decide +kernel) (p32 rfl)) <|
  fa1 (s_cmpge (off := 12) (by decide +kernel) (by decide)) <|
  fa1 (s_aload_n (kf := 0) (j := 0) (by decide +kernel) rfl) <|
  fa1 (s_getR (t2 := 20) (g := (fun _ => 795)) (ci := 0) (f := 9) (idx := 38) (C := RX0) (T := TX0) (NF := 11) (by decide +kernel) rfl (by decide) inG_X0 (by decide) w_516 lr_X0_9 (by decide)) <|
  fa1 (s_iload_n (kf := 2) (j := 2) (by decide +kernel) rfl) <|
  fa1 (s_iald (by decide +kernel)) <|
  fa1 (s_goto (off := 7) (by decide +kernel) (by decide)) <|
  fa1 (s_aload_n (kf := 1) (j := 1) (by decide +kernel) rfl) <|
  fa1 (s_getI (ci := 8) (f := 1) (idx := 71) (C := RX8) (T := TX8) (NF := 2) (by decide +kernel) rfl (by decide) inG_X8 (by decide) w_143 li_X8_1) <|
  fa1 (s_iret (by decide +kernel) rfl) <| fa0
theorem gg_X0_endAt {G : Wp} {l : Launch} : GoodM loC G l yX0_endAt cX0_endAt 3 (some .int) rm_X0_endAt f_X0_endAt := met_of kt_X0_endAt (lkp_snd (ks_X0_endAt G l)) (by decide +kernel) rfl (by decide)
noncomputable def k_X0_sortMates : List (Nat × Ins) := [
  (0, i_aload 1 0),
  (1, i_getI 4 0 10),
  (4, i_push 5 (.inl 2)),
  (5, i_bin 6 bAnd),
  (6, i_ifne 9 10),
  (9, i_vret),
  (10, i_aload 11 1),
  (11, i_getI 14 8 1),
  (14, i_push 17 (.inl 200)),
  (17, i_mm 20 mMin),
  (20, i_push 21 (.inl 1)),
  (21, i_bin 22 (fun x y => wr (x - y))),
  (22, i_istore 23 2),
  (23, i_iload 24 2),
  (24, i_iflt 27 131),
  (27, i_aload 28 0),
  (28, i_getR 31 0 9 (fun _ => 1)),
  (31, i_aload 32 1),
  (32, i_iload 33 2),
  (33, i_callI 36 2 (rcv 8) f_X8_at),
  (36, i_callI 39 2 (rcv 9) f_X9_behind),
  (39, i_istore 40 3),
  (40, i_iload 41 3),
  (41, i_push 42 (.inl 1)),
  (42, i_cmplt 45 56),
  (45, i_aload 46 0),
  (46, i_aload 47 1),
  (47, i_iload 48 2),
  (48, i_push 49 (.inl 1)),
  (49, i_bin 50 (fun x y => wr (x + y))),
  (50, i_callI 53 3 (rcv 0) f_X0_endAt),
  (53, i_goto 59),
  (56, i_iload 57 2),
  (57, i_push 58 (.inl 1)),
  (58, i_bin 59 (fun x y => wr (x + y))),
  (59, i_istore 61 4),
  (61, i_iload 62 3),
  (62, i_push 63 (.inl 2)),
  (63, i_cmpne 66 76),
  (66, i_aload 67 0),
  (67, i_aload 68 1),
  (68, i_iload 70 4),
  (70, i_callI 73 3 (rcv 0) f_X0_endAt),
  (73, i_goto 78),
  (76, i_iload 78 4),
  (78, i_istore 80 5),
  (80, i_aload 81 0),
  (81, i_getR 84 0 20 (fun _ => 795)),
  (84, i_iload 85 2),
  (85, i_iload 87 5),
  (87, i_ast 88 20 lnC id),
  (88, i_aload 89 1),
  (89, i_iload 90 2),
  (90, i_callI 93 2 (rcv 8) f_X8_at),
  (93, i_push 95 (.inl 12)),
  (95, i_cmpne 98 125),
  (98, i_aload 99 0),
  (99, i_aload 100 1),
  (100, i_iload 101 2),
  (101, i_push 102 (.inl 1)),
  (102, i_bin 103 (fun x y => wr (x + y))),
  (103, i_iload 105 4),
  (105, i_iload 107 5),
  (107, i_callI 110 5 (rcv 0) f_X0_comesLater),
  (110, i_ifeq 113 125),
  (113, i_aload 114 0),
  (114, i_aload 115 1),
  (115, i_iload 116 2),
  (116, i_push 117 (.inl 1)),
  (117, i_bin 118 (fun x y => wr (x + y))),
  (118, i_iload 120 4),
  (120, i_iload 122 5),
  (122, i_callV 125 5 (rcv 0) f_X0_changeMates),
  (125, i_iinc 128 2 (-1)),
  (128, i_goto 23),
  (131, i_vret)]
noncomputable def kc_X0_sortMates : Nat → Option Ins := lkp k_X0_sortMates
noncomputable def f_X0_sortMates : List AV → Mem → Option Rs := den 6 kc_X0_sortMates
abbrev rm_X0_sortMates : Room := { frames := 2, cells := 0, slots := 0, locals := 49 }
set_option maxRecDepth 100000 in
theorem kt_X0_sortMates : TriC kc_X0_sortMates := lkp_tri (fa1 (tri_aload 1 0) (fa1 (tri_getI 4 0 10) (fa1 (tri_push 5 (.inl 2)) (fa1 (tri_bin 6 bAnd) (fa1 (tri_ifne 9 10) (fa1 (tri_vret) (fa1 (tri_aload 11 1) (fa1 (tri_getI 14 8 1) (fa1 (tri_push 17 (.inl 200)) (fa1 (tri_mm 20 mMin) (fa1 (tri_push 21 (.inl 1)) (fa1 (tri_bin 22 (fun x y => wr (x - y))) (fa1 (tri_istore 23 2) (fa1 (tri_iload 24 2) (fa1 (tri_iflt 27 131) (fa1 (tri_aload 28 0) (fa1 (tri_getR 31 0 9 (fun _ => 1)) (fa1 (tri_aload 32 1) (fa1 (tri_iload 33 2) (fa1 (tri_callI 36 2 (rcv 8) f_X8_at) (fa1 (tri_callI 39 2 (rcv 9) f_X9_behind) (fa1 (tri_istore 40 3) (fa1 (tri_iload 41 3) (fa1 (tri_push 42 (.inl 1)) (fa1 (tri_cmplt 45 56) (fa1 (tri_aload 46 0) (fa1 (tri_aload 47 1) (fa1 (tri_iload 48 2) (fa1 (tri_push 49 (.inl 1)) (fa1 (tri_bin 50 (fun x y => wr (x + y))) (fa1 (tri_callI 53 3 (rcv 0) f_X0_endAt) (fa1 (tri_goto 59) (fa1 (tri_iload 57 2) (fa1 (tri_push 58 (.inl 1)) (fa1 (tri_bin 59 (fun x y => wr (x + y))) (fa1 (tri_istore 61 4) (fa1 (tri_iload 62 3) (fa1 (tri_push 63 (.inl 2)) (fa1 (tri_cmpne 66 76) (fa1 (tri_aload 67 0) (fa1 (tri_aload 68 1) (fa1 (tri_iload 70 4) (fa1 (tri_callI 73 3 (rcv 0) f_X0_endAt) (fa1 (tri_goto 78) (fa1 (tri_iload 78 4) (fa1 (tri_istore 80 5) (fa1 (tri_aload 81 0) (fa1 (tri_getR 84 0 20 (fun _ => 795)) (fa1 (tri_iload 85 2) (fa1 (tri_iload 87 5) (fa1 (tri_ast 88 20 lnC id) (fa1 (tri_aload 89 1) (fa1 (tri_iload 90 2) (fa1 (tri_callI 93 2 (rcv 8) f_X8_at) (fa1 (tri_push 95 (.inl 12)) (fa1 (tri_cmpne 98 125) (fa1 (tri_aload 99 0) (fa1 (tri_aload 100 1) (fa1 (tri_iload 101 2) (fa1 (tri_push 102 (.inl 1)) (fa1 (tri_bin 103 (fun x y => wr (x + y))) (fa1 (tri_iload 105 4) (fa1 (tri_iload 107 5) (fa1 (tri_callI 110 5 (rcv 0) f_X0_comesLater) (fa1 (tri_ifeq 113 125) (fa1 (tri_aload 114 0) (fa1 (tri_aload 115 1) (fa1 (tri_iload 116 2) (fa1 (tri_push 117 (.inl 1)) (fa1 (tri_bin 118 (fun x y => wr (x + y))) (fa1 (tri_iload 120 4) (fa1 (tri_iload 122 5) (fa1 (tri_callV 125 5 (rcv 0) f_X0_changeMates) (fa1 (tri_iinc 128 2 (-1)) (fa1 (tri_goto 23) (fa1 (tri_vret) (fa0)))))))))))))))))))))))))))))))))))))))))))))))))))))))))))))))))))))))))))))
set_option maxRecDepth 100000 in
set_option maxHeartbeats 4000000 in
theorem ks_X0_sortMates (G : Wp) (l : Launch) : ∀ e ∈ k_X0_sortMates, Snd loC G l RX0 cX0_sortMates 6 none rm_X0_sortMates e.1 e.2 :=
  fa1 (s_aload_n (kf := 0) (j := 0) (by decide +kernel) rfl) <|
  fa1 (s_getI (ci := 0) (f := 10) (idx := 50) (C := RX0) (T := TX0) (NF := 11) (by decide +kernel) rfl (by decide) inG_X0 (by decide) w_517 li_X0_10) <|
  fa1 (s_iconst (n := 2) (v := 2) (by decide +kernel) (by decide +kernel) (p32 rfl)) <|
  fa1 (s_iand (by decide +kernel)) <|
  fa1 (s_ifne (off := 4) (by decide +kernel) (by decide)) <|
  fa1 (s_vret (by decide +kernel) rfl) <|
  fa1 (s_aload_n (kf := 1) (j := 1) (by decide +kernel) rfl) <|
  fa1 (s_getI (ci := 8) (f := 1) (idx := 71) (C := RX8) (T := TX8) (NF := 2) (by decide +kernel) rfl (by decide) inG_X8 (by decide) w_143 li_X8_1) <|
  fa1 (s_sipush (n := 200) (v := 200) (by decide +kernel) (by decide +kernel) (p32 rfl)) <|
  fa1 (s_mmin (idx := 135) (by decide +kernel) w_1127 w_711 w_103 w_712 (by decide) (by decide)) <|
  fa1 (s_iconst (n := 1) (v := 1) (by decide +kernel) (by decide +kernel) (p32 rfl)) <|
  fa1 (s_isub (by decide +kernel)) <|
  fa1 (s_istore_n (kf := 2) (j := 2) (by decide +kernel) rfl (by decide)) <|
  fa1 (s_iload_n (kf := 2) (j := 2) (by decide +kernel) rfl) <|
  fa1 (s_iflt (off := 107) (by decide +kernel) (by decide)) <|
  fa1 (s_aload_n (kf := 0) (j := 0) (by decide +kernel) rfl) <|
  fa1 (s_getR (t2 := 9) (g := (fun _ => 1)) (ci := 0) (f := 0) (idx := 42) (C := RX0) (T := TX0) (NF := 11) (by decide +kernel) rfl (by decide) inG_X0 (by decide) w_507 lr_X0_0 (by decide)) <|
  fa1 (s_aload_n (kf := 1) (j := 1) (by decide +kernel) rfl) <|
  fa1 (s_iload_n (kf := 2) (j := 2) (by decide +kernel) rfl) <|
  fa1 (s_vcallI (n := 1) (ci := 8) (C := RX8) (T := TX8) (NF := 2) (idx := 109) (y := yX8_at) (by decide +kernel) (gg_X8_at) rfl (by decide) yv_X8_at (all5 w_1105 w_667 w_668 w_102 w_669) rfl rfl ⟨by decide, by decide⟩) <|
  fa1 (s_vcallI (n := 1) (ci := 9) (C := RX9) (T := TX9) (NF := 6) (idx := 141) (y := yX9_behind) (by decide +kernel) (gg_X9_behind) rfl (by decide) yv_X9_behind (all5 w_1128 w_676 w_677 w_101 w_678) rfl rfl ⟨by decide, by decide⟩) <|
  fa1 (s_istore_n (kf := 3) (j := 3) (by decide +kernel) rfl (by decide)) <|
  fa1 (s_iload_n (kf := 3) (j := 3) (by decide +kernel) rfl) <|
  fa1 (s_iconst (n := 1) (v := 1) (by decide +kernel) (by decide +kernel) (p32 rfl)) <|
  fa1 (s_cmplt (off := 14) (by decide +kernel) (by decide)) <|
  fa1 (s_aload_n (kf := 0) (j := 0) (by decide +kernel) rfl) <|
  fa1 (s_aload_n (kf := 1) (j := 1) (by decide +kernel) rfl) <|
  fa1 (s_iload_n (kf := 2) (j := 2) (by decide +kernel) rfl) <|
  fa1 (s_iconst (n := 1) (v := 1) (by decide +kernel) (by decide +kernel) (p32 rfl)) <|
  fa1 (s_iadd (by decide +kernel)) <|
  fa1 (s_vcallI (n := 2) (ci := 0) (C := RX0) (T := TX0) (NF := 11) (idx := 144) (y := yX0_endAt) (by decide +kernel) (gg_X0_endAt) rfl (by decide) yv_X0_endAt (all5 w_1129 w_1131 w_36 w_111 w_1132) rfl rfl ⟨by decide, by decide⟩) <|
  fa1 (s_goto (off := 6) (by decide +kernel) (by decide)) <|
  fa1 (s_iload_n (kf := 2) (j := 2) (by decide +kernel) rfl) <|
  fa1 (s_iconst (n := 1) (v := 1) (by decide +kernel) (by decide +kernel) (p32 rfl)) <|
  fa1 (s_iadd (by decide +kernel)) <|
  fa1 (s_istore (j := 4) (by decide +kernel) (by decide)) <|
  fa1 (s_iload_n (kf := 3) (j := 3) (by decide +kernel) rfl) <|
  fa1 (s_iconst (n := 2) (v := 2) (by decide +kernel) (by decide +kernel) (p32 rfl)) <|
  fa1 (s_cmpne (off := 13) (by decide +kernel) (by decide)) <|
  fa1 (s_aload_n (kf := 0) (j := 0) (by decide +kernel) rfl) <|
  fa1 (s_aload_n (kf := 1) (j := 1) (by decide +kernel) rfl) <|
  fa1 (s_iload (j := 4) (by decide +kernel)) <|
  fa1 (s_vcallI (n := 2) (ci := 0) (C := RX0) (T := TX0) (NF := 11) (idx := 144) (y := yX0_endAt) (by decide +kernel) (gg_X0_endAt) rfl (by decide) yv_X0_endAt (all5 w_1129 w_1131 w_36 w_111 w_1132) rfl rfl ⟨by decide, by decide⟩) <|
  fa1 (s_goto (off := 5) (by decide +kernel) (by decide)) <|
  fa1 (s_iload (j := 4) (by decide +kernel)) <|
  fa1 (s_istore (j := 5) (by decide +kernel) (by decide)) <|
  fa1 (s_aload_n (kf := 0) (j := 0) (by decide +kernel) rfl) <|
  fa1 (s_getR (t2 := 20) (g := (fun _ => 795)) (ci := 0) (f := 9) (idx := 38) (C := RX0) (T := TX0) (NF := 11) (by decide +kernel) rfl (by decide) inG_X0 (by decide) w_516 lr_X0_9 (by decide)) <|
  fa1 (s_iload_n (kf := 2) (j := 2) (by decide +kernel) rfl) <|
  fa1 (s_iload (j := 5) (by decide +kernel)) <|
  fa1 (s_iast (by decide +kernel) lt_loC_20) <|
  fa1 (s_aload_n (kf := 1) (j := 1) (by decide +kernel) rfl) <|
  fa1 (s_iload_n (kf := 2) (j := 2) (by decide +kernel) rfl) <|
  fa1 (s_vcallI (n := 1) (ci := 8) (C := RX8) (T := TX8) (NF := 2) (idx := 109) (y := yX8_at) (by decide +kernel) (gg_X8_at) rfl (by decide) yv_X8_at (all5 w_1105 w_667 w_668 w_102 w_669) rfl rfl ⟨by decide, by decide⟩) <|
  fa1 (s_bipush (n := 12) (v := 12) (by decide +kernel) (by decide +kernel) (p32 rfl)) <|
  fa1 (s_cmpne (off := 30) (by decide +kernel) (by decide)) <|
  fa1 (s_aload_n (kf := 0) (j := 0) (by decide +kernel) rfl) <|
  fa1 (s_aload_n (kf := 1) (j := 1) (by decide +kernel) rfl) <|
  fa1 (s_iload_n (kf := 2) (j := 2) (by decide +kernel) rfl) <|
  fa1 (s_iconst (n := 1) (v := 1) (by decide +kernel) (by decide +kernel) (p32 rfl)) <|
  fa1 (s_iadd (by decide +kernel)) <|
  fa1 (s_iload (j := 4) (by decide +kernel)) <|
  fa1 (s_iload (j := 5) (by decide +kernel)) <|
  fa1 (s_vcallI (n := 4) (ci := 0) (C := RX0) (T := TX0) (NF := 11) (idx := 147) (y := yX0_comesLater) (by decide +kernel) (gg_X0_comesLater) rfl (by decide) yv_X0_comesLater (all5 w_1133 w_1135 w_37 w_111 w_1136) rfl rfl ⟨by decide, by decide⟩) <|
  fa1 (s_ifeq (off := 15) (by decide +kernel) (by decide)) <|
  fa1 (s_aload_n (kf := 0) (j := 0) (by decide +kernel) rfl) <|
  fa1 (s_aload_n (kf := 1) (j := 1) (by decide +kernel) rfl) <|
  fa1 (s_iload_n (kf := 2) (j := 2) (by decide +kernel) rfl) <|
  fa1 (s_iconst (n := 1) (v := 1) (by decide +kernel) (by decide +kernel) (p32 rfl)) <|
  fa1 (s_iadd (by decide +kernel)) <|
  fa1 (s_iload (j := 4) (by decide +kernel)) <|
  fa1 (s_iload (j := 5) (by decide +kernel)) <|
  fa1 (s_vcallV (n := 4) (ci := 0) (C := RX0) (T := TX0) (NF := 11) (idx := 151) (y := yX0_changeMates) (by decide +kernel) (gg_X0_changeMates) rfl (by decide) yv_X0_changeMates (all5 w_1137 w_1139 w_38 w_111 w_1140) rfl rfl ⟨by decide, by decide⟩) <|
  fa1 (s_iinc (j := 2) (d := -1) (by decide +kernel) (by decide)) <|
  fa1 (s_goto (off := -105) (by decide +kernel) (by decide)) <|
  fa1 (s_vret (by decide +kernel) rfl) <| fa0
theorem gg_X0_sortMates {G : Wp} {l : Launch} : GoodM loC G l yX0_sortMates cX0_sortMates 6 none rm_X0_sortMates f_X0_sortMates := met_of kt_X0_sortMates (lkp_snd (ks_X0_sortMates G l)) (by decide +kernel) rfl (by decide)
noncomputable def k_X8_samePart : List (Nat × Ins) := [
  (0, i_iload 1 1),
  (1, i_iflt 4 30),
  (4, i_iload 6 4),
  (6, i_iflt 9 30),
  (9, i_iload 10 2),
  (10, i_aload 11 0),
  (11, i_getI 14 8 1),
  (14, i_cmpgt 17 30),
  (17, i_iload 18 2),
  (18, i_iload 19 1),
  (19, i_bin 20 (fun x y => wr (x - y))),
  (20, i_aload 21 3),
  (21, i_getI 24 8 1),
  (24, i_iload 26 4),
  (26, i_bin 27 (fun x y => wr (x - y))),
  (27, i_cmple 30 32),
  (30, i_push 31 (.inl 0)),
  (31, i_zret),
  (32, i_iload 33 1),
  (33, i_istore 35 5),
  (35, i_iload 37 5),
  (37, i_iload 38 2),
  (38, i_cmpge 41 71),
  (41, i_aload 42 0),
  (42, i_getR 45 8 21 (fun c => c + 1)),
  (45, i_iload 47 5),
  (47, i_ald 48 21 lnC),
  (48, i_aload 49 3),
  (49, i_getR 52 8 21 (fun c => c + 1)),
  (52, i_iload 54 4),
  (54, i_iload 56 5),
  (56, i_bin 57 (fun x y => wr (x + y))),
  (57, i_iload 58 1),
  (58, i_bin 59 (fun x y => wr (x - y))),
  (59, i_ald 60 21 lnC),
  (60, i_cmpeq 63 65),
  (63, i_push 64 (.inl 0)),
  (64, i_zret),
  (65, i_iinc 68 5 (1)),
  (68, i_goto 35),
  (71, i_push 72 (.inl 1)),
  (72, i_zret)]
noncomputable def kc_X8_samePart : Nat → Option Ins := lkp k_X8_samePart
noncomputable def f_X8_samePart : List AV → Mem → Option Rs := den 6 kc_X8_samePart
abbrev rm_X8_samePart : Room := { frames := 0, cells := 0, slots := 0, locals := 0 }
set_option maxRecDepth 100000 in
theorem kt_X8_samePart : TriC kc_X8_samePart := lkp_tri (fa1 (tri_iload 1 1) (fa1 (tri_iflt 4 30) (fa1 (tri_iload 6 4) (fa1 (tri_iflt 9 30) (fa1 (tri_iload 10 2) (fa1 (tri_aload 11 0) (fa1 (tri_getI 14 8 1) (fa1 (tri_cmpgt 17 30) (fa1 (tri_iload 18 2) (fa1 (tri_iload 19 1) (fa1 (tri_bin 20 (fun x y => wr (x - y))) (fa1 (tri_aload 21 3) (fa1 (tri_getI 24 8 1) (fa1 (tri_iload 26 4) (fa1 (tri_bin 27 (fun x y => wr (x - y))) (fa1 (tri_cmple 30 32) (fa1 (tri_push 31 (.inl 0)) (fa1 (tri_zret) (fa1 (tri_iload 33 1) (fa1 (tri_istore 35 5) (fa1 (tri_iload 37 5) (fa1 (tri_iload 38 2) (fa1 (tri_cmpge 41 71) (fa1 (tri_aload 42 0) (fa1 (tri_getR 45 8 21 (fun c => c + 1)) (fa1 (tri_iload 47 5) (fa1 (tri_ald 48 21 lnC) (fa1 (tri_aload 49 3) (fa1 (tri_getR 52 8 21 (fun c => c + 1)) (fa1 (tri_iload 54 4) (fa1 (tri_iload 56 5) (fa1 (tri_bin 57 (fun x y => wr (x + y))) (fa1 (tri_iload 58 1) (fa1 (tri_bin 59 (fun x y => wr (x - y))) (fa1 (tri_ald 60 21 lnC) (fa1 (tri_cmpeq 63 65) (fa1 (tri_push 64 (.inl 0)) (fa1 (tri_zret) (fa1 (tri_iinc 68 5 (1)) (fa1 (tri_goto 35) (fa1 (tri_push 72 (.inl 1)) (fa1 (tri_zret) (fa0)))))))))))))))))))))))))))))))))))))))))))
set_option maxRecDepth 100000 in
set_option maxHeartbeats 4000000 in
theorem ks_X8_samePart (G : Wp) (l : Launch) : ∀ e ∈ k_X8_samePart, Snd loC G l RX8 cX8_samePart 6 (some .boolean) rm_X8_samePart e.1 e.2 :=
  fa1 (s_iload_n (kf := 1) (j := 1) (by decide +kernel) rfl) <|
  fa1 (s_iflt (off := 29) (by decide +kernel) (by decide)) <|
  fa1 (s_iload (j := 4) (by decide +kernel)) <|
  fa1 (s_iflt (off := 24) (by decide +kernel) (by decide)) <|
  fa1 (s_iload_n (kf := 2) (j := 2) (by decide +kernel) rfl) <|
  fa1 (s_aload_n (kf := 0) (j := 0) (by decide +kernel) rfl) <|
  fa1 (s_getI (ci := 8) (f := 1) (idx := 21) (C := RX8) (T := TX8) (NF := 2) (by decide +kernel) rfl (by decide) inG_X8 (by decide) w_140 li_X8_1) <|
  fa1 (s_cmpgt (off := 16) (by decide +kernel) (by decide)) <|
  fa1 (s_iload_n (kf := 2) (j := 2) (by decide +kernel) rfl) <|
  fa1 (s_iload_n (kf := 1) (j := 1) (by decide +kernel) rfl) <|
  fa1 (s_isub (by decide +kernel)) <|
  fa1 (s_aload_n (kf := 3) (j := 3) (by decide +kernel) rfl) <|
  fa1 (s_getI (ci := 8) (f := 1) (idx := 21) (C := RX8) (T := TX8) (NF := 2) (by decide +kernel) rfl (by decide) inG_X8 (by decide) w_140 li_X8_1) <|
  fa1 (s_iload (j := 4) (by decide +kernel)) <|
  fa1 (s_isub (by decide +kernel)) <|
  fa1 (s_cmple (off := 5) (by decide +kernel) (by decide)) <|
  fa1 (s_iconst (n := 0) (v := 0) (by decide +kernel) (by decide +kernel) (p32 rfl)) <|
  fa1 (s_zret (by decide +kernel) rfl) <|
  fa1 (s_iload_n (kf := 1) (j := 1) (by decide +kernel) rfl) <|
  fa1 (s_istore (j := 5) (by decide +kernel) (by decide)) <|
  fa1 (s_iload (j := 5) (by decide +kernel)) <|
  fa1 (s_iload_n (kf := 2) (j := 2) (by decide +kernel) rfl) <|
  fa1 (s_cmpge (off := 33) (by decide +kernel) (by decide)) <|
  fa1 (s_aload_n (kf := 0) (j := 0) (by decide +kernel) rfl) <|
  fa1 (s_getR (t2 := 21) (g := (fun c => c + 1)) (ci := 8) (f := 0) (idx := 15) (C := RX8) (T := TX8) (NF := 2) (by decide +kernel) rfl (by decide) inG_X8 (by decide) w_139 lr_X8_0 (by decide)) <|
  fa1 (s_iload (j := 5) (by decide +kernel)) <|
  fa1 (s_bald (by decide +kernel)) <|
  fa1 (s_aload_n (kf := 3) (j := 3) (by decide +kernel) rfl) <|
  fa1 (s_getR (t2 := 21) (g := (fun c => c + 1)) (ci := 8) (f := 0) (idx := 15) (C := RX8) (T := TX8) (NF := 2) (by decide +kernel) rfl (by decide) inG_X8 (by decide) w_139 lr_X8_0 (by decide)) <|
  fa1 (s_iload (j := 4) (by decide +kernel)) <|
  fa1 (s_iload (j := 5) (by decide +kernel)) <|
  fa1 (s_iadd (by decide +kernel)) <|
  fa1 (s_iload_n (kf := 1) (j := 1) (by decide +kernel) rfl) <|
  fa1 (s_isub (by decide +kernel)) <|
  fa1 (s_bald (by decide +kernel)) <|
  fa1 (s_cmpeq (off := 5) (by decide +kernel) (by decide)) <|
  fa1 (s_iconst (n := 0) (v := 0) (by decide +kernel) (by decide +kernel) (p32 rfl)) <|
  fa1 (s_zret (by decide +kernel) rfl) <|
  fa1 (s_iinc (j := 5) (d := 1) (by decide +kernel) (by decide)) <|
  fa1 (s_goto (off := -33) (by decide +kernel) (by decide)) <|
  fa1 (s_iconst (n := 1) (v := 1) (by decide +kernel) (by decide +kernel) (p32 rfl)) <|
  fa1 (s_zret (by decide +kernel) rfl) <| fa0
theorem gg_X8_samePart {G : Wp} {l : Launch} : GoodM loC G l yX8_samePart cX8_samePart 6 (some .boolean) rm_X8_samePart f_X8_samePart := met_of kt_X8_samePart (lkp_snd (ks_X8_samePart G l)) (by decide +kernel) rfl (by decide)
noncomputable def k_X8_same : List (Nat × Ins) := [
  (0, i_aload 1 0),
  (1, i_getI 4 8 1),
  (4, i_aload 5 1),
  (5, i_getI 8 8 1),
  (8, i_cmpne 11 29),
  (11, i_aload 12 0),
  (12, i_push 13 (.inl 0)),
  (13, i_aload 14 0),
  (14, i_getI 17 8 1),
  (17, i_aload 18 1),
  (18, i_push 19 (.inl 0)),
  (19, i_callI 22 5 (rcv 8) f_X8_samePart),
  (22, i_ifeq 25 29),
  (25, i_push 26 (.inl 1)),
  (26, i_goto 30),
  (29, i_push 30 (.inl 0)),
  (30, i_zret)]
noncomputable def kc_X8_same : Nat → Option Ins := lkp k_X8_same
noncomputable def f_X8_same : List AV → Mem → Option Rs := den 2 kc_X8_same
abbrev rm_X8_same : Room := { frames := 1, cells := 0, slots := 0, locals := 25 }
set_option maxRecDepth 100000 in
theorem kt_X8_same : TriC kc_X8_same := lkp_tri (fa1 (tri_aload 1 0) (fa1 (tri_getI 4 8 1) (fa1 (tri_aload 5 1) (fa1 (tri_getI 8 8 1) (fa1 (tri_cmpne 11 29) (fa1 (tri_aload 12 0) (fa1 (tri_push 13 (.inl 0)) (fa1 (tri_aload 14 0) (fa1 (tri_getI 17 8 1) (fa1 (tri_aload 18 1) (fa1 (tri_push 19 (.inl 0)) (fa1 (tri_callI 22 5 (rcv 8) f_X8_samePart) (fa1 (tri_ifeq 25 29) (fa1 (tri_push 26 (.inl 1)) (fa1 (tri_goto 30) (fa1 (tri_push 30 (.inl 0)) (fa1 (tri_zret) (fa0))))))))))))))))))
set_option maxRecDepth 100000 in
set_option maxHeartbeats 4000000 in
theorem ks_X8_same (G : Wp) (l : Launch) : ∀ e ∈ k_X8_same, Snd loC G l RX8 cX8_same 2 (some .boolean) rm_X8_same e.1 e.2 :=
  fa1 (s_aload_n (kf := 0) (j := 0) (by decide +kernel) rfl) <|
  fa1 (s_getI (ci := 8) (f := 1) (idx := 21) (C := RX8) (T := TX8) (NF := 2) (by decide +kernel) rfl (by decide) inG_X8 (by decide) w_140 li_X8_1) <|
  fa1 (s_aload_n (kf := 1) (j := 1) (by decide +kernel) rfl) <|
  fa1 (s_getI (ci := 8) (f := 1) (idx := 21) (C := RX8) (T := TX8) (NF := 2) (by decide +kernel) rfl (by decide) inG_X8 (by decide) w_140 li_X8_1) <|
  fa1 (s_cmpne (off := 21) (by decide +kernel) (by decide)) <|
  fa1 (s_aload_n (kf := 0) (j := 0) (by decide +kernel) rfl) <|
  fa1 (s_iconst (n := 0) (v := 0) (by decide +kernel) (by decide +kernel) (p32 rfl)) <|
  fa1 (s_aload_n (kf := 0) (j := 0) (by decide +kernel) rfl) <|
  fa1 (s_getI (ci := 8) (f := 1) (idx := 21) (C := RX8) (T := TX8) (NF := 2) (by decide +kernel) rfl (by decide) inG_X8 (by decide) w_140 li_X8_1) <|
  fa1 (s_aload_n (kf := 1) (j := 1) (by decide +kernel) rfl) <|
  fa1 (s_iconst (n := 0) (v := 0) (by decide +kernel) (by decide +kernel) (p32 rfl)) <|
  fa1 (s_vcallI (n := 4) (ci := 8) (C := RX8) (T := TX8) (NF := 2) (idx := 29) (y := yX8_samePart) (by decide +kernel) (gg_X8_samePart) rfl (by decide) yv_X8_samePart (all5 w_883 w_853 w_854 w_102 w_855) rfl rfl ⟨by decide, by decide⟩) <|
  fa1 (s_ifeq (off := 7) (by decide +kernel) (by decide)) <|
  fa1 (s_iconst (n := 1) (v := 1) (by decide +kernel) (by decide +kernel) (p32 rfl)) <|
  fa1 (s_goto (off := 4) (by decide +kernel) (by decide)) <|
  fa1 (s_iconst (n := 0) (v := 0) (by decide +kernel) (by decide +kernel) (p32 rfl)) <|
  fa1 (s_zret (by decide +kernel) rfl) <| fa0
theorem gg_X8_same {G : Wp} {l : Launch} : GoodM loC G l yX8_same cX8_same 2 (some .boolean) rm_X8_same f_X8_same := met_of kt_X8_same (lkp_snd (ks_X8_same G l)) (by decide +kernel) rfl (by decide)
noncomputable def k_X0_isLike : List (Nat × Ins) := [
  (0, i_aload 1 0),
  (1, i_iload 2 1),
  (2, i_aload 3 0),
  (3, i_getR 6 0 8 (fun _ => 785)),
  (6, i_aload 7 0),
  (7, i_getR 10 0 8 (fun _ => 787)),
  (10, i_callI 13 4 (rcv 0) f_X0_makeReady),
  (13, i_ifeq 16 49),
  (16, i_aload 17 0),
  (17, i_getR 20 0 8 (fun _ => 781)),
  (20, i_getI 23 8 1),
  (23, i_aload 24 0),
  (24, i_getR 27 0 8 (fun _ => 783)),
  (27, i_getI 30 8 1),
  (30, i_bin 31 (fun x y => wr (x + y))),
  (31, i_aload 32 0),
  (32, i_getR 35 0 8 (fun _ => 785)),
  (35, i_getI 38 8 1),
  (38, i_aload 39 0),
  (39, i_getR 42 0 8 (fun _ => 787)),
  (42, i_getI 45 8 1),
  (45, i_bin 46 (fun x y => wr (x + y))),
  (46, i_cmpeq 49 51),
  (49, i_push 50 (.inl 0)),
  (50, i_zret),
  (51, i_aload 52 0),
  (52, i_aload 53 0),
  (53, i_getR 56 0 8 (fun _ => 785)),
  (56, i_callV 59 2 (rcv 0) f_X0_sortMates),
  (59, i_aload 60 0),
  (60, i_aload 61 0),
  (61, i_getR 64 0 8 (fun _ => 787)),
  (64, i_callV 67 2 (rcv 0) f_X0_sortMates),
  (67, i_push 68 (.inl 0)),
  (68, i_istore 69 2),
  (69, i_iload 70 2),
  (70, i_push 71 (.inl 3)),
  (71, i_bin 72 (fun x y => wr (x + y))),
  (72, i_push 75 (.inr (.inr (some (32, 4))))),
  (75, i_alen 76 32 sLn),
  (76, i_cmpgt 79 196),
  (79, i_aload 80 0),
  (80, i_aload 81 0),
  (81, i_getR 84 0 8 (fun _ => 781)),
  (84, i_iload 85 2),
  (85, i_aload 86 0),
  (86, i_getR 89 0 8 (fun _ => 789)),
  (89, i_callV 92 4 (rcv 0) f_X0_rename),
  (92, i_aload 93 0),
  (93, i_aload 94 0),
  (94, i_getR 97 0 8 (fun _ => 783)),
  (97, i_iload 98 2),
  (98, i_aload 99 0),
  (99, i_getR 102 0 8 (fun _ => 791)),
  (102, i_callV 105 4 (rcv 0) f_X0_rename),
  (105, i_aload 106 0),
  (106, i_aload 107 0),
  (107, i_getR 110 0 8 (fun _ => 789)),
  (110, i_callV 113 2 (rcv 0) f_X0_sortMates),
  (113, i_aload 114 0),
  (114, i_aload 115 0),
  (115, i_getR 118 0 8 (fun _ => 791)),
  (118, i_callV 121 2 (rcv 0) f_X0_sortMates),
  (121, i_aload 122 0),
  (122, i_getR 125 0 8 (fun _ => 789)),
  (125, i_aload 126 0),
  (126, i_getR 129 0 8 (fun _ => 785)),
  (129, i_callI 132 2 (rcv 8) f_X8_same),
  (132, i_ifeq 135 151),
  (135, i_aload 136 0),
  (136, i_getR 139 0 8 (fun _ => 791)),
  (139, i_aload 140 0),
  (140, i_getR 143 0 8 (fun _ => 787)),
  (143, i_callI 146 2 (rcv 8) f_X8_same),
  (146, i_ifeq 149 151),
  (149, i_push 150 (.inl 1)),
  (150, i_zret),
  (151, i_aload 152 0),
  (152, i_getI 155 0 10),
  (155, i_push 156 (.inl 1)),
  (156, i_bin 157 bAnd),
  (157, i_ifeq 160 190),
  (160, i_aload 161 0),
  (161, i_getR 164 0 8 (fun _ => 789)),
  (164, i_aload 165 0),
  (165, i_getR 168 0 8 (fun _ => 787)),
  (168, i_callI 171 2 (rcv 8) f_X8_same),
  (171, i_ifeq 174 190),
  (174, i_aload 175 0),
  (175, i_getR 178 0 8 (fun _ => 791)),
  (178, i_aload 179 0),
  (179, i_getR 182 0 8 (fun _ => 785)),
  (182, i_callI 185 2 (rcv 8) f_X8_same),
  (185, i_ifeq 188 190),
  (188, i_push 189 (.inl 1)),
  (189, i_zret),
  (190, i_iinc 193 2 (3)),
  (193, i_goto 69),
  (196, i_push 197 (.inl 0)),
  (197, i_zret)]
noncomputable def kc_X0_isLike : Nat → Option Ins := lkp k_X0_isLike
noncomputable def f_X0_isLike : List AV → Mem → Option Rs := den 3 kc_X0_isLike
abbrev rm_X0_isLike : Room := { frames := 5, cells := 0, slots := 0, locals := 122 }
set_option maxRecDepth 100000 in
theorem kt_X0_isLike : TriC kc_X0_isLike := lkp_tri (fa1 (tri_aload 1 0) (fa1 (tri_iload 2 1) (fa1 (tri_aload 3 0) (fa1 (tri_getR 6 0 8 (fun _ => 785)) (fa1 (tri_aload 7 0) (fa1 (tri_getR 10 0 8 (fun _ => 787)) (fa1 (tri_callI 13 4 (rcv 0) f_X0_makeReady) (fa1 (tri_ifeq 16 49) (fa1 (tri_aload 17 0) (fa1 (tri_getR 20 0 8 (fun _ => 781)) (fa1 (tri_getI 23 8 1) (fa1 (tri_aload 24 0) (fa1 (tri_getR 27 0 8 (fun _ => 783)) (fa1 (tri_getI 30 8 1) (fa1 (tri_bin 31 (fun x y => wr (x + y))) (fa1 (tri_aload 32 0) (fa1 (tri_getR 35 0 8 (fun _ => 785)) (fa1 (tri_getI 38 8 1) (fa1 (tri_aload 39 0) (fa1 (tri_getR 42 0 8 (fun _ => 787)) (fa1 (tri_getI 45 8 1) (fa1 (tri_bin 46 (fun x y => wr (x + y))) (fa1 (tri_cmpeq 49 51) (fa1 (tri_push 50 (.inl 0)) (fa1 (tri_zret) (fa1 (tri_aload 52 0) (fa1 (tri_aload 53 0) (fa1 (tri_getR 56 0 8 (fun _ => 785)) (fa1 (tri_callV 59 2 (rcv 0) f_X0_sortMates) (fa1 (tri_aload 60 0) (fa1 (tri_aload 61 0) (fa1 (tri_getR 64 0 8 (fun _ => 787)) (fa1 (tri_callV 67 2 (rcv 0) f_X0_sortMates) (fa1 (tri_push 68 (.inl 0)) (fa1 (tri_istore 69 2) (fa1 (tri_iload 70 2) (fa1 (tri_push 71 (.inl 3)) (fa1 (tri_bin 72 (fun x y => wr (x + y))) (fa1 (tri_push 75 (.inr (.inr (some (32, 4))))) (fa1 (tri_alen 76 32 sLn) (fa1 (tri_cmpgt 79 196) (fa1 (tri_aload 80 0) (fa1 (tri_aload 81 0) (fa1 (tri_getR 84 0 8 (fun _ => 781)) (fa1 (tri_iload 85 2) (fa1 (tri_aload 86 0) (fa1 (tri_getR 89 0 8 (fun _ => 789)) (fa1 (tri_callV 92 4 (rcv 0) f_X0_rename) (fa1 (tri_aload 93 0) (fa1 (tri_aload 94 0) (fa1 (tri_getR 97 0 8 (fun _ => 783)) (fa1 (tri_iload 98 2) (fa1 (tri_aload 99 0) (fa1 (tri_getR 102 0 8 (fun _ => 791)) (fa1 (tri_callV 105 4 (rcv 0) f_X0_rename) (fa1 (tri_aload 106 0) (fa1 (tri_aload 107 0) (fa1 (tri_getR 110 0 8 (fun _ => 789)) (fa1 (tri_callV 113 2 (rcv 0) f_X0_sortMates) (fa1 (tri_aload 114 0) (fa1 (tri_aload 115 0) (fa1 (tri_getR 118 0 8 (fun _ => 791)) (fa1 (tri_callV 121 2 (rcv 0) f_X0_sortMates) (fa1 (tri_aload 122 0) (fa1 (tri_getR 125 0 8 (fun _ => 789)) (fa1 (tri_aload 126 0) (fa1 (tri_getR 129 0 8 (fun _ => 785)) (fa1 (tri_callI 132 2 (rcv 8) f_X8_same) (fa1 (tri_ifeq 135 151) (fa1 (tri_aload 136 0) (fa1 (tri_getR 139 0 8 (fun _ => 791)) (fa1 (tri_aload 140 0) (fa1 (tri_getR 143 0 8 (fun _ => 787)) (fa1 (tri_callI 146 2 (rcv 8) f_X8_same) (fa1 (tri_ifeq 149 151) (fa1 (tri_push 150 (.inl 1)) (fa1 (tri_zret) (fa1 (tri_aload 152 0) (fa1 (tri_getI 155 0 10) (fa1 (tri_push 156 (.inl 1)) (fa1 (tri_bin 157 bAnd) (fa1 (tri_ifeq 160 190) (fa1 (tri_aload 161 0) (fa1 (tri_getR 164 0 8 (fun _ => 789)) (fa1 (tri_aload 165 0) (fa1 (tri_getR 168 0 8 (fun _ => 787)) (fa1 (tri_callI 171 2 (rcv 8) f_X8_same) (fa1 (tri_ifeq 174 190) (fa1 (tri_aload 175 0) (fa1 (tri_getR 178 0 8 (fun _ => 791)) (fa1 (tri_aload 179 0) (fa1 (tri_getR 182 0 8 (fun _ => 785)) (fa1 (tri_callI 185 2 (rcv 8) f_X8_same) (fa1 (tri_ifeq 188 190) (fa1 (tri_push 189 (.inl 1)) (fa1 (tri_zret) (fa1 (tri_iinc 193 2 (3)) (fa1 (tri_goto 69) (fa1 (tri_push 197 (.inl 0)) (fa1 (tri_zret) (fa0)))))))))))))))))))))))))))))))))))))))))))))))))))))))))))))))))))))))))))))))))))))))))))))))))))))
set_option maxRecDepth 100000 in
set_option maxHeartbeats 4000000 in
theorem ks_X0_isLike (G : Wp) (l : Launch) : ∀ e ∈ k_X0_isLike, Snd loC G l RX0 cX0_isLike 3 (some .boolean) rm_X0_isLike e.1 e.2 :=
  fa1 (s_aload_n (kf := 0) (j := 0) (by decide +kernel) rfl) <|
  fa1 (s_iload_n (kf := 1) (j := 1) (by decide +kernel) rfl) <|
  fa1 (s_aload_n (kf := 0) (j := 0) (by decide +kernel) rfl) <|
  fa1 (s_getR (t2 := 8) (g := (fun _ => 785)) (ci := 0) (f := 4) (idx := 23) (C := RX0) (T := TX0) (NF := 11) (by decide +kernel) rfl (by decide) inG_X0 (by decide) w_511 lr_X0_4 (by decide)) <|
  fa1 (s_aload_n (kf := 0) (j := 0) (by decide +kernel) rfl) <|
  fa1 (s_getR (t2 := 8) (g := (fun _ => 787)) (ci := 0) (f := 5) (idx := 26) (C := RX0) (T := TX0) (NF := 11) (by decide +kernel) rfl (by decide) inG_X0 (by decide) w_512 lr_X0_5 (by decide)) <|
  fa1 (s_vcallI (n := 3) (ci := 0) (C := RX0) (T := TX0) (NF := 11) (idx := 54) (y := yX0_makeReady) (by decide +kernel) (gg_X0_makeReady) rfl (by decide) yv_X0_makeReady (all5 w_1091 w_1093 w_31 w_111 w_1094) rfl rfl ⟨by decide, by decide⟩) <|
  fa1 (s_ifeq (off := 36) (by decide +kernel) (by decide)) <|
  fa1 (s_aload_n (kf := 0) (j := 0) (by decide +kernel) rfl) <|
  fa1 (s_getR (t2 := 8) (g := (fun _ => 781)) (ci := 0) (f := 2) (idx := 16) (C := RX0) (T := TX0) (NF := 11) (by decide +kernel) rfl (by decide) inG_X0 (by decide) w_509 lr_X0_2 (by decide)) <|
  fa1 (s_getI (ci := 8) (f := 1) (idx := 71) (C := RX8) (T := TX8) (NF := 2) (by decide +kernel) rfl (by decide) inG_X8 (by decide) w_143 li_X8_1) <|
  fa1 (s_aload_n (kf := 0) (j := 0) (by decide +kernel) rfl) <|
  fa1 (s_getR (t2 := 8) (g := (fun _ => 783)) (ci := 0) (f := 3) (idx := 20) (C := RX0) (T := TX0) (NF := 11) (by decide +kernel) rfl (by decide) inG_X0 (by decide) w_510 lr_X0_3 (by decide)) <|
  fa1 (s_getI (ci := 8) (f := 1) (idx := 71) (C := RX8) (T := TX8) (NF := 2) (by decide +kernel) rfl (by decide) inG_X8 (by decide) w_143 li_X8_1) <|
  fa1 (s_iadd (by decide +kernel)) <|
  fa1 (s_aload_n (kf := 0) (j := 0) (by decide +kernel) rfl) <|
  fa1 (s_getR (t2 := 8) (g := (fun _ => 785)) (ci := 0) (f := 4) (idx := 23) (C := RX0) (T := TX0) (NF := 11) (by decide +kernel) rfl (by decide) inG_X0 (by decide) w_511 lr_X0_4 (by decide)) <|
  fa1 (s_getI (ci := 8) (f := 1) (idx := 71) (C := RX8) (T := TX8) (NF := 2) (by decide +kernel) rfl (by decide) inG_X8 (by decide) w_143 li_X8_1) <|
  fa1 (s_aload_n (kf := 0) (j := 0) (by decide +kernel) rfl) <|
  fa1 (s_getR (t2 := 8) (g := (fun _ => 787)) (ci := 0) (f := 5) (idx := 26) (C := RX0) (T := TX0) (NF := 11) (by decide +kernel) rfl (by decide) inG_X0 (by decide) w_512 lr_X0_5 (by decide)) <|
  fa1 (s_getI (ci := 8) (f := 1) (idx := 71) (C := RX8) (T := TX8) (NF := 2) (by decide +kernel) rfl (by decide) inG_X8 (by decide) w_143 li_X8_1) <|
  fa1 (s_iadd (by decide +kernel)) <|
  fa1 (s_cmpeq (off := 5) (by decide +kernel) (by decide)) <|
  fa1 (s_iconst (n := 0) (v := 0) (by decide +kernel) (by decide +kernel) (p32 rfl)) <|
  fa1 (s_zret (by decide +kernel) rfl) <|
  fa1 (s_aload_n (kf := 0) (j := 0) (by decide +kernel) rfl) <|
  fa1 (s_aload_n (kf := 0) (j := 0) (by decide +kernel) rfl) <|
  fa1 (s_getR (t2 := 8) (g := (fun _ => 785)) (ci := 0) (f := 4) (idx := 23) (C := RX0) (T := TX0) (NF := 11) (by decide +kernel) rfl (by decide) inG_X0 (by decide) w_511 lr_X0_4 (by decide)) <|
  fa1 (s_vcallV (n := 1) (ci := 0) (C := RX0) (T := TX0) (NF := 11) (idx := 72) (y := yX0_sortMates) (by decide +kernel) (gg_X0_sortMates) rfl (by decide) yv_X0_sortMates (all5 w_1123 w_1125 w_35 w_111 w_1126) rfl rfl ⟨by decide, by decide⟩) <|
  fa1 (s_aload_n (kf := 0) (j := 0) (by decide +kernel) rfl) <|
  fa1 (s_aload_n (kf := 0) (j := 0) (by decide +kernel) rfl) <|
  fa1 (s_getR (t2 := 8) (g := (fun _ => 787)) (ci := 0) (f := 5) (idx := 26) (C := RX0) (T := TX0) (NF := 11) (by decide +kernel) rfl (by decide) inG_X0 (by decide) w_512 lr_X0_5 (by decide)) <|
  fa1 (s_vcallV (n := 1) (ci := 0) (C := RX0) (T := TX0) (NF := 11) (idx := 72) (y := yX0_sortMates) (by decide +kernel) (gg_X0_sortMates) rfl (by decide) yv_X0_sortMates (all5 w_1123 w_1125 w_35 w_111 w_1126) rfl rfl ⟨by decide, by decide⟩) <|
  fa1 (s_iconst (n := 0) (v := 0) (by decide +kernel) (by decide +kernel) (p32 rfl)) <|
  fa1 (s_istore_n (kf := 2) (j := 2) (by decide +kernel) rfl (by decide)) <|
  fa1 (s_iload_n (kf := 2) (j := 2) (by decide +kernel) rfl) <|
  fa1 (s_iconst (n := 3) (v := 3) (by decide +kernel) (by decide +kernel) (p32 rfl)) <|
  fa1 (s_iadd (by decide +kernel)) <|
  fa1 (s_gets (j := 4) (idx := 76) (by decide +kernel) rfl w_1145) <|
  fa1 (s_alens (t := 32) (by decide +kernel) (by decide)) <|
  fa1 (s_cmpgt (off := 120) (by decide +kernel) (by decide)) <|
  fa1 (s_aload_n (kf := 0) (j := 0) (by decide +kernel) rfl) <|
  fa1 (s_aload_n (kf := 0) (j := 0) (by decide +kernel) rfl) <|
  fa1 (s_getR (t2 := 8) (g := (fun _ => 781)) (ci := 0) (f := 2) (idx := 16) (C := RX0) (T := TX0) (NF := 11) (by decide +kernel) rfl (by decide) inG_X0 (by decide) w_509 lr_X0_2 (by decide)) <|
  fa1 (s_iload_n (kf := 2) (j := 2) (by decide +kernel) rfl) <|
  fa1 (s_aload_n (kf := 0) (j := 0) (by decide +kernel) rfl) <|
  fa1 (s_getR (t2 := 8) (g := (fun _ => 789)) (ci := 0) (f := 6) (idx := 29) (C := RX0) (T := TX0) (NF := 11) (by decide +kernel) rfl (by decide) inG_X0 (by decide) w_513 lr_X0_6 (by decide)) <|
  fa1 (s_vcallV (n := 3) (ci := 0) (C := RX0) (T := TX0) (NF := 11) (idx := 79) (y := yX0_rename) (by decide +kernel) (gg_X0_rename) rfl (by decide) yv_X0_rename (all5 w_1147 w_1149 w_39 w_111 w_1150) rfl rfl ⟨by decide, by decide⟩) <|
  fa1 (s_aload_n (kf := 0) (j := 0) (by decide +kernel) rfl) <|
  fa1 (s_aload_n (kf := 0) (j := 0) (by decide +kernel) rfl) <|
  fa1 (s_getR (t2 := 8) (g := (fun _ => 783)) (ci := 0) (f := 3) (idx := 20) (C := RX0) (T := TX0) (NF := 11) (by decide +kernel) rfl (by decide) inG_X0 (by decide) w_510 lr_X0_3 (by decide)) <|
  fa1 (s_iload_n (kf := 2) (j := 2) (by decide +kernel) rfl) <|
  fa1 (s_aload_n (kf := 0) (j := 0) (by decide +kernel) rfl) <|
  fa1 (s_getR (t2 := 8) (g := (fun _ => 791)) (ci := 0) (f := 7) (idx := 32) (C := RX0) (T := TX0) (NF := 11) (by decide +kernel) rfl (by decide) inG_X0 (by decide) w_514 lr_X0_7 (by decide)) <|
  fa1 (s_vcallV (n := 3) (ci := 0) (C := RX0) (T := TX0) (NF := 11) (idx := 79) (y := yX0_rename) (by decide +kernel) (gg_X0_rename) rfl (by decide) yv_X0_rename (all5 w_1147 w_1149 w_39 w_111 w_1150) rfl rfl ⟨by decide, by decide⟩) <|
  fa1 (s_aload_n (kf := 0) (j := 0) (by decide +kernel) rfl) <|
  fa1 (s_aload_n (kf := 0) (j := 0) (by decide +kernel) rfl) <|
  fa1 (s_getR (t2 := 8) (g := (fun _ => 789)) (ci := 0) (f := 6) (idx := 29) (C := RX0) (T := TX0) (NF := 11) (by decide +kernel) rfl (by decide) inG_X0 (by decide) w_513 lr_X0_6 (by decide)) <|
  fa1 (s_vcallV (n := 1) (ci := 0) (C := RX0) (T := TX0) (NF := 11) (idx := 72) (y := yX0_sortMates) (by decide +kernel) (gg_X0_sortMates) rfl (by decide) yv_X0_sortMates (all5 w_1123 w_1125 w_35 w_111 w_1126) rfl rfl ⟨by decide, by decide⟩) <|
  fa1 (s_aload_n (kf := 0) (j := 0) (by decide +kernel) rfl) <|
  fa1 (s_aload_n (kf := 0) (j := 0) (by decide +kernel) rfl) <|
  fa1 (s_getR (t2 := 8) (g := (fun _ => 791)) (ci := 0) (f := 7) (idx := 32) (C := RX0) (T := TX0) (NF := 11) (by decide +kernel) rfl (by decide) inG_X0 (by decide) w_514 lr_X0_7 (by decide)) <|
  fa1 (s_vcallV (n := 1) (ci := 0) (C := RX0) (T := TX0) (NF := 11) (idx := 72) (y := yX0_sortMates) (by decide +kernel) (gg_X0_sortMates) rfl (by decide) yv_X0_sortMates (all5 w_1123 w_1125 w_35 w_111 w_1126) rfl rfl ⟨by decide, by decide⟩) <|
  fa1 (s_aload_n (kf := 0) (j := 0) (by decide +kernel) rfl) <|
  fa1 (s_getR (t2 := 8) (g := (fun _ => 789)) (ci := 0) (f := 6) (idx := 29) (C := RX0) (T := TX0) (NF := 11) (by decide +kernel) rfl (by decide) inG_X0 (by decide) w_513 lr_X0_6 (by decide)) <|
  fa1 (s_aload_n (kf := 0) (j := 0) (by decide +kernel) rfl) <|
  fa1 (s_getR (t2 := 8) (g := (fun _ => 785)) (ci := 0) (f := 4) (idx := 23) (C := RX0) (T := TX0) (NF := 11) (by decide +kernel) rfl (by decide) inG_X0 (by decide) w_511 lr_X0_4 (by decide)) <|
  fa1 (s_vcallI (n := 1) (ci := 8) (C := RX8) (T := TX8) (NF := 2) (idx := 83) (y := yX8_same) (by decide +kernel) (gg_X8_same) rfl (by decide) yv_X8_same (all5 w_1151 w_880 w_881 w_102 w_882) rfl rfl ⟨by decide, by decide⟩) <|
  fa1 (s_ifeq (off := 19) (by decide +kernel) (by decide)) <|
  fa1 (s_aload_n (kf := 0) (j := 0) (by decide +kernel) rfl) <|
  fa1 (s_getR (t2 := 8) (g := (fun _ => 791)) (ci := 0) (f := 7) (idx := 32) (C := RX0) (T := TX0) (NF := 11) (by decide +kernel) rfl (by decide) inG_X0 (by decide) w_514 lr_X0_7 (by decide)) <|
  fa1 (s_aload_n (kf := 0) (j := 0) (by decide +kernel) rfl) <|
  fa1 (s_getR (t2 := 8) (g := (fun _ => 787)) (ci := 0) (f := 5) (idx := 26) (C := RX0) (T := TX0) (NF := 11) (by decide +kernel) rfl (by decide) inG_X0 (by decide) w_512 lr_X0_5 (by decide)) <|
  fa1 (s_vcallI (n := 1) (ci := 8) (C := RX8) (T := TX8) (NF := 2) (idx := 83) (y := yX8_same) (by decide +kernel) (gg_X8_same) rfl (by decide) yv_X8_same (all5 w_1151 w_880 w_881 w_102 w_882) rfl rfl ⟨by decide, by decide⟩) <|
  fa1 (s_ifeq (off := 5) (by decide +kernel) (by decide)) <|
  fa1 (s_iconst (n := 1) (v := 1) (by decide +kernel) (by decide +kernel) (p32 rfl)) <|
  fa1 (s_zret (by decide +kernel) rfl) <|
  fa1 (s_aload_n (kf := 0) (j := 0) (by decide +kernel) rfl) <|
  fa1 (s_getI (ci := 0) (f := 10) (idx := 50) (C := RX0) (T := TX0) (NF := 11) (by decide +kernel) rfl (by decide) inG_X0 (by decide) w_517 li_X0_10) <|
  fa1 (s_iconst (n := 1) (v := 1) (by decide +kernel) (by decide +kernel) (p32 rfl)) <|
  fa1 (s_iand (by decide +kernel)) <|
  fa1 (s_ifeq (off := 33) (by decide +kernel) (by decide)) <|
  fa1 (s_aload_n (kf := 0) (j := 0) (by decide +kernel) rfl) <|
  fa1 (s_getR (t2 := 8) (g := (fun _ => 789)) (ci := 0) (f := 6) (idx := 29) (C := RX0) (T := TX0) (NF := 11) (by decide +kernel) rfl (by decide) inG_X0 (by decide) w_513 lr_X0_6 (by decide)) <|
  fa1 (s_aload_n (kf := 0) (j := 0) (by decide +kernel) rfl) <|
  fa1 (s_getR (t2 := 8) (g := (fun _ => 787)) (ci := 0) (f := 5) (idx := 26) (C := RX0) (T := TX0) (NF := 11) (by decide +kernel) rfl (by decide) inG_X0 (by decide) w_512 lr_X0_5 (by decide)) <|
  fa1 (s_vcallI (n := 1) (ci := 8) (C := RX8) (T := TX8) (NF := 2) (idx := 83) (y := yX8_same) (by decide +kernel) (gg_X8_same) rfl (by decide) yv_X8_same (all5 w_1151 w_880 w_881 w_102 w_882) rfl rfl ⟨by decide, by decide⟩) <|
  fa1 (s_ifeq (off := 19) (by decide +kernel) (by decide)) <|
  fa1 (s_aload_n (kf := 0) (j := 0) (by decide +kernel) rfl) <|
  fa1 (s_getR (t2 := 8) (g := (fun _ => 791)) (ci := 0) (f := 7) (idx := 32) (C := RX0) (T := TX0) (NF := 11) (by decide +kernel) rfl (by decide) inG_X0 (by decide) w_514 lr_X0_7 (by decide)) <|
  fa1 (s_aload_n (kf := 0) (j := 0) (by decide +kernel) rfl) <|
  fa1 (s_getR (t2 := 8) (g := (fun _ => 785)) (ci := 0) (f := 4) (idx := 23) (C := RX0) (T := TX0) (NF := 11) (by decide +kernel) rfl (by decide) inG_X0 (by decide) w_511 lr_X0_4 (by decide)) <|
  fa1 (s_vcallI (n := 1) (ci := 8) (C := RX8) (T := TX8) (NF := 2) (idx := 83) (y := yX8_same) (by decide +kernel) (gg_X8_same) rfl (by decide) yv_X8_same (all5 w_1151 w_880 w_881 w_102 w_882) rfl rfl ⟨by decide, by decide⟩) <|
  fa1 (s_ifeq (off := 5) (by decide +kernel) (by decide)) <|
  fa1 (s_iconst (n := 1) (v := 1) (by decide +kernel) (by decide +kernel) (p32 rfl)) <|
  fa1 (s_zret (by decide +kernel) rfl) <|
  fa1 (s_iinc (j := 2) (d := 3) (by decide +kernel) (by decide)) <|
  fa1 (s_goto (off := -124) (by decide +kernel) (by decide)) <|
  fa1 (s_iconst (n := 0) (v := 0) (by decide +kernel) (by decide +kernel) (p32 rfl)) <|
  fa1 (s_zret (by decide +kernel) rfl) <| fa0
theorem gg_X0_isLike {G : Wp} {l : Launch} : GoodM loC G l yX0_isLike cX0_isLike 3 (some .boolean) rm_X0_isLike f_X0_isLike := met_of kt_X0_isLike (lkp_snd (ks_X0_isLike G l)) (by decide +kernel) rfl (by decide)
noncomputable def k_X0_allLike : List (Nat × Ins) := [
  (0, i_push 1 (.inl 0)),
  (1, i_istore 2 3),
  (2, i_aload 3 0),
  (3, i_iload 4 1),
  (4, i_iload 5 2),
  (5, i_callI 8 3 (rcv 0) f_X0_begin),
  (8, i_ifne 11 13),
  (11, i_iload 12 3),
  (12, i_iret),
  (13, i_push 14 (.inl 0)),
  (14, i_istore 16 4),
  (16, i_iload 18 4),
  (18, i_aload 19 0),
  (19, i_getR 22 0 3 (fun _ => 23)),
  (22, i_getI 25 3 9),
  (25, i_cmpge 28 56),
  (28, i_iload 30 4),
  (30, i_iload 31 1),
  (31, i_cmpeq 34 50),
  (34, i_aload 35 0),
  (35, i_iload 37 4),
  (37, i_callI 40 2 (rcv 0) f_X0_isLike),
  (40, i_ifeq 43 50),
  (43, i_iload 44 3),
  (44, i_push 45 (.inl 1)),
  (45, i_iload 47 4),
  (47, i_bin 48 bShl),
  (48, i_bin 49 bOr),
  (49, i_istore 50 3),
  (50, i_iinc 53 4 (1)),
  (53, i_goto 16),
  (56, i_iload 57 3),
  (57, i_iret)]
noncomputable def kc_X0_allLike : Nat → Option Ins := lkp k_X0_allLike
noncomputable def f_X0_allLike : List AV → Mem → Option Rs := den 5 kc_X0_allLike
abbrev rm_X0_allLike : Room := { frames := 6, cells := 0, slots := 0, locals := 144 }
set_option maxRecDepth 100000 in
theorem kt_X0_allLike : TriC kc_X0_allLike := lkp_tri (fa1 (tri_push 1 (.inl 0)) (fa1 (tri_istore 2 3) (fa1 (tri_aload 3 0) (fa1 (tri_iload 4 1) (fa1 (tri_iload 5 2) (fa1 (tri_callI 8 3 (rcv 0) f_X0_begin) (fa1 (tri_ifne 11 13) (fa1 (tri_iload 12 3) (fa1 (tri_iret) (fa1 (tri_push 14 (.inl 0)) (fa1 (tri_istore 16 4) (fa1 (tri_iload 18 4) (fa1 (tri_aload 19 0) (fa1 (tri_getR 22 0 3 (fun _ => 23)) (fa1 (tri_getI 25 3 9) (fa1 (tri_cmpge 28 56) (fa1 (tri_iload 30 4) (fa1 (tri_iload 31 1) (fa1 (tri_cmpeq 34 50) (fa1 (tri_aload 35 0) (fa1 (tri_iload 37 4) (fa1 (tri_callI 40 2 (rcv 0) f_X0_isLike) (fa1 (tri_ifeq 43 50) (fa1 (tri_iload 44 3) (fa1 (tri_push 45 (.inl 1)) (fa1 (tri_iload 47 4) (fa1 (tri_bin 48 bShl) (fa1 (tri_bin 49 bOr) (fa1 (tri_istore 50 3) (fa1 (tri_iinc 53 4 (1)) (fa1 (tri_goto 16) (fa1 (tri_iload 57 3) (fa1 (tri_iret) (fa0))))))))))))))))))))))))))))))))))
set_option maxRecDepth 100000 in
set_option maxHeartbeats 4000000 in
theorem ks_X0_allLike (G : Wp) (l : Launch) : ∀ e ∈ k_X0_allLike, Snd loC G l RX0 cX0_allLike 5 (some .int) rm_X0_allLike e.1 e.2 :=
  fa1 (s_iconst (n := 0) (v := 0) (by decide +kernel) (by decide +kernel) (p32 rfl)) <|
  fa1 (s_istore_n (kf := 3) (j := 3) (by decide +kernel) rfl (by decide)) <|
  fa1 (s_aload_n (kf := 0) (j := 0) (by decide +kernel) rfl) <|
  fa1 (s_iload_n (kf := 1) (j := 1) (by decide +kernel) rfl) <|
  fa1 (s_iload_n (kf := 2) (j := 2) (by decide +kernel) rfl) <|
  fa1 (s_vcallI (n := 2) (ci := 0) (C := RX0) (T := TX0) (NF := 11) (idx := 58) (y := yX0_begin) (by decide +kernel) (gg_X0_begin) rfl (by decide) yv_X0_begin (all5 w_1160 w_1088 w_1089 w_111 w_1090) rfl rfl ⟨by decide, by decide⟩) <|
  fa1 (s_ifne (off := 5) (by decide +kernel) (by decide)) <|
  fa1 (s_iload_n (kf := 3) (j := 3) (by decide +kernel) rfl) <|
  fa1 (s_iret (by decide +kernel) rfl) <|
  fa1 (s_iconst (n := 0) (v := 0) (by decide +kernel) (by decide +kernel) (p32 rfl)) <|
  fa1 (s_istore (j := 4) (by decide +kernel) (by decide)) <|
  fa1 (s_iload (j := 4) (by decide +kernel)) <|
  fa1 (s_aload_n (kf := 0) (j := 0) (by decide +kernel) rfl) <|
  fa1 (s_getR (t2 := 3) (g := (fun _ => 23)) (ci := 0) (f := 1) (idx := 46) (C := RX0) (T := TX0) (NF := 11) (by decide +kernel) rfl (by decide) inG_X0 (by decide) w_508 lr_X0_1 (by decide)) <|
  fa1 (s_getI (ci := 3) (f := 9) (idx := 62) (C := RX3) (T := TX3) (NF := 11) (by decide +kernel) rfl (by decide) inG_X3 (by decide) w_261 li_X3_9) <|
  fa1 (s_cmpge (off := 31) (by decide +kernel) (by decide)) <|
  fa1 (s_iload (j := 4) (by decide +kernel)) <|
  fa1 (s_iload_n (kf := 1) (j := 1) (by decide +kernel) rfl) <|
  fa1 (s_cmpeq (off := 19) (by decide +kernel) (by decide)) <|
  fa1 (s_aload_n (kf := 0) (j := 0) (by decide +kernel) rfl) <|
  fa1 (s_iload (j := 4) (by decide +kernel)) <|
  fa1 (s_vcallI (n := 1) (ci := 0) (C := RX0) (T := TX0) (NF := 11) (idx := 67) (y := yX0_isLike) (by decide +kernel) (gg_X0_isLike) rfl (by decide) yv_X0_isLike (all5 w_1161 w_1120 w_1121 w_111 w_1122) rfl rfl ⟨by decide, by decide⟩) <|
  fa1 (s_ifeq (off := 10) (by decide +kernel) (by decide)) <|
  fa1 (s_iload_n (kf := 3) (j := 3) (by decide +kernel) rfl) <|
  fa1 (s_iconst (n := 1) (v := 1) (by decide +kernel) (by decide +kernel) (p32 rfl)) <|
  fa1 (s_iload (j := 4) (by decide +kernel)) <|
  fa1 (s_ishl (by decide +kernel)) <|
  fa1 (s_ior (by decide +kernel)) <|
  fa1 (s_istore_n (kf := 3) (j := 3) (by decide +kernel) rfl (by decide)) <|
  fa1 (s_iinc (j := 4) (d := 1) (by decide +kernel) (by decide)) <|
  fa1 (s_goto (off := -37) (by decide +kernel) (by decide)) <|
  fa1 (s_iload_n (kf := 3) (j := 3) (by decide +kernel) rfl) <|
  fa1 (s_iret (by decide +kernel) rfl) <| fa0
theorem gg_X0_allLike {G : Wp} {l : Launch} : GoodM loC G l yX0_allLike cX0_allLike 5 (some .int) rm_X0_allLike f_X0_allLike := met_of kt_X0_allLike (lkp_snd (ks_X0_allLike G l)) (by decide +kernel) rfl (by decide)
noncomputable def k_X1_begin : List (Nat × Ins) := [
  (0, i_aload 1 0),
  (1, i_getR 4 1 3 (fun _ => 23)),
  (4, i_iload 5 1),
  (5, i_callR 8 2 2 (rcv 3) f_X3_get),
  (8, i_astore 9 2),
  (9, i_aload 10 2),
  (10, i_ifnull 13 36),
  (13, i_aload 14 0),
  (14, i_iload 15 1),
  (15, i_putI 18 1 7),
  (18, i_aload 19 0),
  (19, i_push 20 (.inl 0)),
  (20, i_putI 23 1 8),
  (23, i_aload 24 0),
  (24, i_getR 27 1 24 (fun c => c + 5)),
  (27, i_push 28 (.inl 0)),
  (28, i_aldR 29 24 8 lnC (fun c i => c + 1 + 2 * i)),
  (29, i_aload 30 2),
  (30, i_getR 33 2 8 (fun c => c + 1)),
  (33, i_callV 36 2 (rcv 8) f_X8_copy),
  (36, i_vret)]
noncomputable def kc_X1_begin : Nat → Option Ins := lkp k_X1_begin
noncomputable def f_X1_begin : List AV → Mem → Option Rs := den 3 kc_X1_begin
abbrev rm_X1_begin : Room := { frames := 2, cells := 0, slots := 0, locals := 45 }
set_option maxRecDepth 100000 in
theorem kt_X1_begin : TriC kc_X1_begin := lkp_tri (fa1 (tri_aload 1 0) (fa1 (tri_getR 4 1 3 (fun _ => 23)) (fa1 (tri_iload 5 1) (fa1 (tri_callR 8 2 2 (rcv 3) f_X3_get) (fa1 (tri_astore 9 2) (fa1 (tri_aload 10 2) (fa1 (tri_ifnull 13 36) (fa1 (tri_aload 14 0) (fa1 (tri_iload 15 1) (fa1 (tri_putI 18 1 7) (fa1 (tri_aload 19 0) (fa1 (tri_push 20 (.inl 0)) (fa1 (tri_putI 23 1 8) (fa1 (tri_aload 24 0) (fa1 (tri_getR 27 1 24 (fun c => c + 5)) (fa1 (tri_push 28 (.inl 0)) (fa1 (tri_aldR 29 24 8 lnC (fun c i => c + 1 + 2 * i)) (fa1 (tri_aload 30 2) (fa1 (tri_getR 33 2 8 (fun c => c + 1)) (fa1 (tri_callV 36 2 (rcv 8) f_X8_copy) (fa1 (tri_vret) (fa0))))))))))))))))))))))
set_option maxRecDepth 100000 in
set_option maxHeartbeats 4000000 in
theorem ks_X1_begin (G : Wp) (l : Launch) : ∀ e ∈ k_X1_begin, Snd loC G l RX1 cX1_begin 3 none rm_X1_begin e.1 e.2 :=
  fa1 (s_aload_n (kf := 0) (j := 0) (by decide +kernel) rfl) <|
  fa1 (s_getR (t2 := 3) (g := (fun _ => 23)) (ci := 1) (f := 1) (idx := 34) (C := RX1) (T := TX1) (NF := 9) (by decide +kernel) rfl (by decide) inG_X1 (by decide) w_371 lr_X1_1 (by decide)) <|
  fa1 (s_iload_n (kf := 1) (j := 1) (by decide +kernel) rfl) <|
  fa1 (s_vcallR (t := 2) (n := 1) (ci := 3) (C := RX3) (T := TX3) (NF := 11) (idx := 48) (y := yX3_get) (by decide +kernel) (gg_X3_get) rfl (by decide) yv_X3_get (all5 w_804 w_736 w_737 w_104 w_738) rfl rfl ⟨by decide, by decide⟩) <|
  fa1 (s_astore_n (kf := 2) (j := 2) (by decide +kernel) rfl (by decide)) <|
  fa1 (s_aload_n (kf := 2) (j := 2) (by decide +kernel) rfl) <|
  fa1 (s_ifnull (off := 26) (by decide +kernel) (by decide)) <|
  fa1 (s_aload_n (kf := 0) (j := 0) (by decide +kernel) rfl) <|
  fa1 (s_iload_n (kf := 1) (j := 1) (by decide +kernel) rfl) <|
  fa1 (s_putI (ci := 1) (f := 7) (idx := 41) (C := RX1) (T := TX1) (NF := 9) (by decide +kernel) rfl (by decide) inG_X1 (by decide) w_377 tyX1 tyX1_ok nmX1 rfl (by decide +kernel) li_X1_7) <|
  fa1 (s_aload_n (kf := 0) (j := 0) (by decide +kernel) rfl) <|
  fa1 (s_iconst (n := 0) (v := 0) (by decide +kernel) (by decide +kernel) (p32 rfl)) <|
  fa1 (s_putI (ci := 1) (f := 8) (idx := 45) (C := RX1) (T := TX1) (NF := 9) (by decide +kernel) rfl (by decide) inG_X1 (by decide) w_380 tyX1 tyX1_ok nmX1 rfl (by decide +kernel) li_X1_8) <|
  fa1 (s_aload_n (kf := 0) (j := 0) (by decide +kernel) rfl) <|
  fa1 (s_getR (t2 := 24) (g := (fun c => c + 5)) (ci := 1) (f := 6) (idx := 26) (C := RX1) (T := TX1) (NF := 9) (by decide +kernel) rfl (by decide) inG_X1 (by decide) w_376 lr_X1_6 (by decide)) <|
  fa1 (s_iconst (n := 0) (v := 0) (by decide +kernel) (by decide +kernel) (p32 rfl)) <|
  fa1 (s_aldR (t := 24) (t2 := 8) (g := (fun c i => c + 1 + 2 * i)) (by decide +kernel) (by decide) (by decide) rfl (by decide) le_24) <|
  fa1 (s_aload_n (kf := 2) (j := 2) (by decide +kernel) rfl) <|
  fa1 (s_getR (t2 := 8) (g := (fun c => c + 1)) (ci := 2) (f := 0) (idx := 54) (C := RX2) (T := TX2) (NF := 11) (by decide +kernel) rfl (by decide) inG_X2 (by decide) w_194 lr_X2_0 (by decide)) <|
  fa1 (s_vcallV (n := 1) (ci := 8) (C := RX8) (T := TX8) (NF := 2) (idx := 60) (y := yX8_copy) (by decide +kernel) (gg_X8_copy) rfl (by decide) yv_X8_copy (all5 w_805 w_684 w_685 w_102 w_686) rfl rfl ⟨by decide, by decide⟩) <|
  fa1 (s_vret (by decide +kernel) rfl) <| fa0
theorem gg_X1_begin {G : Wp} {l : Launch} : GoodM loC G l yX1_begin cX1_begin 3 none rm_X1_begin f_X1_begin := met_of kt_X1_begin (lkp_snd (ks_X1_begin G l)) (by decide +kernel) rfl (by decide)
noncomputable def k_X1_drop : List (Nat × Ins) := [
  (0, i_aload 1 0),
  (1, i_push 3 (.inl (-4))),
  (3, i_putI 6 1 7),
  (6, i_aload 7 0),
  (7, i_push 8 (.inl 0)),
  (8, i_putI 11 1 8),
  (11, i_vret)]
noncomputable def kc_X1_drop : Nat → Option Ins := lkp k_X1_drop
noncomputable def f_X1_drop : List AV → Mem → Option Rs := den 1 kc_X1_drop
abbrev rm_X1_drop : Room := { frames := 0, cells := 0, slots := 0, locals := 0 }
set_option maxRecDepth 100000 in
theorem kt_X1_drop : TriC kc_X1_drop := lkp_tri (fa1 (tri_aload 1 0) (fa1 (tri_push 3 (.inl (-4))) (fa1 (tri_putI 6 1 7) (fa1 (tri_aload 7 0) (fa1 (tri_push 8 (.inl 0)) (fa1 (tri_putI 11 1 8) (fa1 (tri_vret) (fa0))))))))
set_option maxRecDepth 100000 in
set_option maxHeartbeats 4000000 in
theorem ks_X1_drop (G : Wp) (l : Launch) : ∀ e ∈ k_X1_drop, Snd loC G l RX1 cX1_drop 1 none rm_X1_drop e.1 e.2 :=
  fa1 (s_aload_n (kf := 0) (j := 0) (by decide +kernel) rfl) <|
  fa1 (s_bipush (n := -4) (v := -4) (by decide +kernel) (by decide +kernel) (p32 rfl)) <|
  fa1 (s_putI (ci := 1) (f := 7) (idx := 41) (C := RX1) (T := TX1) (NF := 9) (by decide +kernel) rfl (by decide) inG_X1 (by decide) w_377 tyX1 tyX1_ok nmX1 rfl (by decide +kernel) li_X1_7) <|
  fa1 (s_aload_n (kf := 0) (j := 0) (by decide +kernel) rfl) <|
  fa1 (s_iconst (n := 0) (v := 0) (by decide +kernel) (by decide +kernel) (p32 rfl)) <|
  fa1 (s_putI (ci := 1) (f := 8) (idx := 45) (C := RX1) (T := TX1) (NF := 9) (by decide +kernel) rfl (by decide) inG_X1 (by decide) w_380 tyX1 tyX1_ok nmX1 rfl (by decide +kernel) li_X1_8) <|
  fa1 (s_vret (by decide +kernel) rfl) <| fa0
theorem gg_X1_drop {G : Wp} {l : Launch} : GoodM loC G l yX1_drop cX1_drop 1 none rm_X1_drop f_X1_drop := met_of kt_X1_drop (lkp_snd (ks_X1_drop G l)) (by decide +kernel) rfl (by decide)
noncomputable def k_X1_isDropped : List (Nat × Ins) := [
  (0, i_aload 1 0),
  (1, i_getI 4 1 7),
  (4, i_ifge 7 11),
  (7, i_push 8 (.inl 1)),
  (8, i_goto 12),
  (11, i_push 12 (.inl 0)),
  (12, i_zret)]
noncomputable def kc_X1_isDropped : Nat → Option Ins := lkp k_X1_isDropped
noncomputable def f_X1_isDropped : List AV → Mem → Option Rs := den 1 kc_X1_isDropped
abbrev rm_X1_isDropped : Room := { frames := 0, cells := 0, slots := 0, locals := 0 }
set_option maxRecDepth 100000 in
theorem kt_X1_isDropped : TriC kc_X1_isDropped := lkp_tri (fa1 (tri_aload 1 0) (fa1 (tri_getI 4 1 7) (fa1 (tri_ifge 7 11) (fa1 (tri_push 8 (.inl 1)) (fa1 (tri_goto 12) (fa1 (tri_push 12 (.inl 0)) (fa1 (tri_zret) (fa0))))))))
set_option maxRecDepth 100000 in
set_option maxHeartbeats 4000000 in
theorem ks_X1_isDropped (G : Wp) (l : Launch) : ∀ e ∈ k_X1_isDropped, Snd loC G l RX1 cX1_isDropped 1 (some .boolean) rm_X1_isDropped e.1 e.2 :=
  fa1 (s_aload_n (kf := 0) (j := 0) (by decide +kernel) rfl) <|
  fa1 (s_getI (ci := 1) (f := 7) (idx := 41) (C := RX1) (T := TX1) (NF := 9) (by decide +kernel) rfl (by decide) inG_X1 (by decide) w_377 li_X1_7) <|
  fa1 (s_ifge (off := 7) (by decide +kernel) (by decide)) <|
  fa1 (s_iconst (n := 1) (v := 1) (by decide +kernel) (by decide +kernel) (p32 rfl)) <|
  fa1 (s_goto (off := 4) (by decide +kernel) (by decide)) <|
  fa1 (s_iconst (n := 0) (v := 0) (by decide +kernel) (by decide +kernel) (p32 rfl)) <|
  fa1 (s_zret (by decide +kernel) rfl) <| fa0
theorem gg_X1_isDropped {G : Wp} {l : Launch} : GoodM loC G l yX1_isDropped cX1_isDropped 1 (some .boolean) rm_X1_isDropped f_X1_isDropped := met_of kt_X1_isDropped (lkp_snd (ks_X1_isDropped G l)) (by decide +kernel) rfl (by decide)
noncomputable def k_X1_now : List (Nat × Ins) := [
  (0, i_aload 1 0),
  (1, i_getR 4 1 24 (fun c => c + 5)),
  (4, i_aload 5 0),
  (5, i_getI 8 1 8),
  (8, i_aldR 9 24 8 lnC (fun c i => c + 1 + 2 * i)),
  (9, i_aret)]
noncomputable def kc_X1_now : Nat → Option Ins := lkp k_X1_now
noncomputable def f_X1_now : List AV → Mem → Option Rs := den 1 kc_X1_now
abbrev rm_X1_now : Room := { frames := 0, cells := 0, slots := 0, locals := 0 }
set_option maxRecDepth 100000 in
theorem kt_X1_now : TriC kc_X1_now := lkp_tri (fa1 (tri_aload 1 0) (fa1 (tri_getR 4 1 24 (fun c => c + 5)) (fa1 (tri_aload 5 0) (fa1 (tri_getI 8 1 8) (fa1 (tri_aldR 9 24 8 lnC (fun c i => c + 1 + 2 * i)) (fa1 (tri_aret) (fa0)))))))
set_option maxRecDepth 100000 in
set_option maxHeartbeats 4000000 in
theorem ks_X1_now (G : Wp) (l : Launch) : ∀ e ∈ k_X1_now, Snd loC G l RX1 cX1_now 1 (some (.object "ShownLibrary$Term")) rm_X1_now e.1 e.2 :=
  fa1 (s_aload_n (kf := 0) (j := 0) (by decide +kernel) rfl) <|
  fa1 (s_getR (t2 := 24) (g := (fun c => c + 5)) (ci := 1) (f := 6) (idx := 26) (C := RX1) (T := TX1) (NF := 9) (by decide +kernel) rfl (by decide) inG_X1 (by decide) w_376 lr_X1_6 (by decide)) <|
  fa1 (s_aload_n (kf := 0) (j := 0) (by decide +kernel) rfl) <|
  fa1 (s_getI (ci := 1) (f := 8) (idx := 45) (C := RX1) (T := TX1) (NF := 9) (by decide +kernel) rfl (by decide) inG_X1 (by decide) w_380 li_X1_8) <|
  fa1 (s_aldR (t := 24) (t2 := 8) (g := (fun c i => c + 1 + 2 * i)) (by decide +kernel) (by decide) (by decide) rfl (by decide) le_24) <|
  fa1 (s_aret (by decide +kernel) rfl (Or.inl ⟨_, rfl⟩)) <| fa0
theorem gg_X1_now {G : Wp} {l : Launch} : GoodM loC G l yX1_now cX1_now 1 (some (.object "ShownLibrary$Term")) rm_X1_now f_X1_now := met_of kt_X1_now (lkp_snd (ks_X1_now G l)) (by decide +kernel) rfl (by decide)
noncomputable def k_X1_arrived : List (Nat × Ins) := [
  (0, i_aload 1 0),
  (1, i_getR 4 1 3 (fun _ => 23)),
  (4, i_aload 5 0),
  (5, i_getI 8 1 7),
  (8, i_callR 11 2 2 (rcv 3) f_X3_get),
  (11, i_astore 12 1),
  (12, i_aload 13 1),
  (13, i_ifnull 16 34),
  (16, i_aload 17 0),
  (17, i_callR 20 1 8 (rcv 1) f_X1_now),
  (20, i_aload 21 1),
  (21, i_getR 24 2 8 (fun c => c + 3)),
  (24, i_callI 27 2 (rcv 8) f_X8_same),
  (27, i_ifeq 30 34),
  (30, i_push 31 (.inl 1)),
  (31, i_goto 35),
  (34, i_push 35 (.inl 0)),
  (35, i_zret)]
noncomputable def kc_X1_arrived : Nat → Option Ins := lkp k_X1_arrived
noncomputable def f_X1_arrived : List AV → Mem → Option Rs := den 2 kc_X1_arrived
abbrev rm_X1_arrived : Room := { frames := 2, cells := 0, slots := 0, locals := 46 }
set_option maxRecDepth 100000 in
theorem kt_X1_arrived : TriC kc_X1_arrived := lkp_tri (fa1 (tri_aload 1 0) (fa1 (tri_getR 4 1 3 (fun _ => 23)) (fa1 (tri_aload 5 0) (fa1 (tri_getI 8 1 7) (fa1 (tri_callR 11 2 2 (rcv 3) f_X3_get) (fa1 (tri_astore 12 1) (fa1 (tri_aload 13 1) (fa1 (tri_ifnull 16 34) (fa1 (tri_aload 17 0) (fa1 (tri_callR 20 1 8 (rcv 1) f_X1_now) (fa1 (tri_aload 21 1) (fa1 (tri_getR 24 2 8 (fun c => c + 3)) (fa1 (tri_callI 27 2 (rcv 8) f_X8_same) (fa1 (tri_ifeq 30 34) (fa1 (tri_push 31 (.inl 1)) (fa1 (tri_goto 35) (fa1 (tri_push 35 (.inl 0)) (fa1 (tri_zret) (fa0)))))))))))))))))))
set_option maxRecDepth 100000 in
set_option maxHeartbeats 4000000 in
theorem ks_X1_arrived (G : Wp) (l : Launch) : ∀ e ∈ k_X1_arrived, Snd loC G l RX1 cX1_arrived 2 (some .boolean) rm_X1_arrived e.1 e.2 :=
  fa1 (s_aload_n (kf := 0) (j := 0) (by decide +kernel) rfl) <|
  fa1 (s_getR (t2 := 3) (g := (fun _ => 23)) (ci := 1) (f := 1) (idx := 34) (C := RX1) (T := TX1) (NF := 9) (by decide +kernel) rfl (by decide) inG_X1 (by decide) w_371 lr_X1_1 (by decide)) <|
  fa1 (s_aload_n (kf := 0) (j := 0) (by decide +kernel) rfl) <|
  fa1 (s_getI (ci := 1) (f := 7) (idx := 41) (C := RX1) (T := TX1) (NF := 9) (by decide +kernel) rfl (by decide) inG_X1 (by decide) w_377 li_X1_7) <|
  fa1 (s_vcallR (t := 2) (n := 1) (ci := 3) (C := RX3) (T := TX3) (NF := 11) (idx := 48) (y := yX3_get) (by decide +kernel) (gg_X3_get) rfl (by decide) yv_X3_get (all5 w_804 w_736 w_737 w_104 w_738) rfl rfl ⟨by decide, by decide⟩) <|
  fa1 (s_astore_n (kf := 1) (j := 1) (by decide +kernel) rfl (by decide)) <|
  fa1 (s_aload_n (kf := 1) (j := 1) (by decide +kernel) rfl) <|
  fa1 (s_ifnull (off := 21) (by decide +kernel) (by decide)) <|
  fa1 (s_aload_n (kf := 0) (j := 0) (by decide +kernel) rfl) <|
  fa1 (s_vcallR (t := 8) (n := 0) (ci := 1) (C := RX1) (T := TX1) (NF := 9) (idx := 64) (y := yX1_now) (by decide +kernel) (gg_X1_now) rfl (by decide) yv_X1_now (all5 w_878 w_807 w_808 w_108 w_809) rfl rfl ⟨by decide, by decide⟩) <|
  fa1 (s_aload_n (kf := 1) (j := 1) (by decide +kernel) rfl) <|
  fa1 (s_getR (t2 := 8) (g := (fun c => c + 3)) (ci := 2) (f := 1) (idx := 68) (C := RX2) (T := TX2) (NF := 11) (by decide +kernel) rfl (by decide) inG_X2 (by decide) w_206 lr_X2_1 (by decide)) <|
  fa1 (s_vcallI (n := 1) (ci := 8) (C := RX8) (T := TX8) (NF := 2) (idx := 71) (y := yX8_same) (by decide +kernel) (gg_X8_same) rfl (by decide) yv_X8_same (all5 w_879 w_880 w_881 w_102 w_882) rfl rfl ⟨by decide, by decide⟩) <|
  fa1 (s_ifeq (off := 7) (by decide +kernel) (by decide)) <|
  fa1 (s_iconst (n := 1) (v := 1) (by decide +kernel) (by decide +kernel) (p32 rfl)) <|
  fa1 (s_goto (off := 4) (by decide +kernel) (by decide)) <|
  fa1 (s_iconst (n := 0) (v := 0) (by decide +kernel) (by decide +kernel) (p32 rfl)) <|
  fa1 (s_zret (by decide +kernel) rfl) <| fa0
theorem gg_X1_arrived {G : Wp} {l : Launch} : GoodM loC G l yX1_arrived cX1_arrived 2 (some .boolean) rm_X1_arrived f_X1_arrived := met_of kt_X1_arrived (lkp_snd (ks_X1_arrived G l)) (by decide +kernel) rfl (by decide)
noncomputable def k_X2_isUsable : List (Nat × Ins) := [
  (0, i_aload 1 0),
  (1, i_getI 4 2 2),
  (4, i_ifeq 7 15),
  (7, i_aload 8 0),
  (8, i_getI 11 2 2),
  (11, i_push 12 (.inl 2)),
  (12, i_cmpne 15 19),
  (15, i_push 16 (.inl 1)),
  (16, i_goto 20),
  (19, i_push 20 (.inl 0)),
  (20, i_zret)]
noncomputable def kc_X2_isUsable : Nat → Option Ins := lkp k_X2_isUsable
noncomputable def f_X2_isUsable : List AV → Mem → Option Rs := den 1 kc_X2_isUsable
abbrev rm_X2_isUsable : Room := { frames := 0, cells := 0, slots := 0, locals := 0 }
set_option maxRecDepth 100000 in
theorem kt_X2_isUsable : TriC kc_X2_isUsable := lkp_tri (fa1 (tri_aload 1 0) (fa1 (tri_getI 4 2 2) (fa1 (tri_ifeq 7 15) (fa1 (tri_aload 8 0) (fa1 (tri_getI 11 2 2) (fa1 (tri_push 12 (.inl 2)) (fa1 (tri_cmpne 15 19) (fa1 (tri_push 16 (.inl 1)) (fa1 (tri_goto 20) (fa1 (tri_push 20 (.inl 0)) (fa1 (tri_zret) (fa0))))))))))))
set_option maxRecDepth 100000 in
set_option maxHeartbeats 4000000 in
theorem ks_X2_isUsable (G : Wp) (l : Launch) : ∀ e ∈ k_X2_isUsable, Snd loC G l RX2 cX2_isUsable 1 (some .boolean) rm_X2_isUsable e.1 e.2 :=
  fa1 (s_aload_n (kf := 0) (j := 0) (by decide +kernel) rfl) <|
  fa1 (s_getI (ci := 2) (f := 2) (idx := 23) (C := RX2) (T := TX2) (NF := 11) (by decide +kernel) rfl (by decide) inG_X2 (by decide) w_209 li_X2_2) <|
  fa1 (s_ifeq (off := 11) (by decide +kernel) (by decide)) <|
  fa1 (s_aload_n (kf := 0) (j := 0) (by decide +kernel) rfl) <|
  fa1 (s_getI (ci := 2) (f := 2) (idx := 23) (C := RX2) (T := TX2) (NF := 11) (by decide +kernel) rfl (by decide) inG_X2 (by decide) w_209 li_X2_2) <|
  fa1 (s_iconst (n := 2) (v := 2) (by decide +kernel) (by decide +kernel) (p32 rfl)) <|
  fa1 (s_cmpne (off := 7) (by decide +kernel) (by decide)) <|
  fa1 (s_iconst (n := 1) (v := 1) (by decide +kernel) (by decide +kernel) (p32 rfl)) <|
  fa1 (s_goto (off := 4) (by decide +kernel) (by decide)) <|
  fa1 (s_iconst (n := 0) (v := 0) (by decide +kernel) (by decide +kernel) (p32 rfl)) <|
  fa1 (s_zret (by decide +kernel) rfl) <| fa0
theorem gg_X2_isUsable {G : Wp} {l : Launch} : GoodM loC G l yX2_isUsable cX2_isUsable 1 (some .boolean) rm_X2_isUsable f_X2_isUsable := met_of kt_X2_isUsable (lkp_snd (ks_X2_isUsable G l)) (by decide +kernel) rfl (by decide)
noncomputable def k_X6_endAt : List (Nat × Ins) := [
  (0, i_iload 1 1),
  (1, i_iflt 4 30),
  (4, i_iload 5 1),
  (5, i_aload 6 0),
  (6, i_getM 9 6 2 8),
  (9, i_getI 12 8 1),
  (12, i_cmpge 15 30),
  (15, i_iload 16 1),
  (16, i_push 18 (.inl 20)),
  (18, i_cmpge 21 30),
  (21, i_aload 22 0),
  (22, i_getR 25 6 20 (fun _ => 160)),
  (25, i_iload 26 1),
  (26, i_ald 27 20 lnC),
  (27, i_goto 37),
  (30, i_aload 31 0),
  (31, i_getM 34 6 2 8),
  (34, i_getI 37 8 1),
  (37, i_iret)]
noncomputable def kc_X6_endAt : Nat → Option Ins := lkp k_X6_endAt
noncomputable def f_X6_endAt : List AV → Mem → Option Rs := den 2 kc_X6_endAt
abbrev rm_X6_endAt : Room := { frames := 0, cells := 0, slots := 0, locals := 0 }
set_option maxRecDepth 100000 in
theorem kt_X6_endAt : TriC kc_X6_endAt := lkp_tri (fa1 (tri_iload 1 1) (fa1 (tri_iflt 4 30) (fa1 (tri_iload 5 1) (fa1 (tri_aload 6 0) (fa1 (tri_getM 9 6 2 8) (fa1 (tri_getI 12 8 1) (fa1 (tri_cmpge 15 30) (fa1 (tri_iload 16 1) (fa1 (tri_push 18 (.inl 20)) (fa1 (tri_cmpge 21 30) (fa1 (tri_aload 22 0) (fa1 (tri_getR 25 6 20 (fun _ => 160)) (fa1 (tri_iload 26 1) (fa1 (tri_ald 27 20 lnC) (fa1 (tri_goto 37) (fa1 (tri_aload 31 0) (fa1 (tri_getM 34 6 2 8) (fa1 (tri_getI 37 8 1) (fa1 (tri_iret) (fa0))))))))))))))))))))
set_option maxRecDepth 100000 in
set_option maxHeartbeats 4000000 in
theorem ks_X6_endAt (G : Wp) (l : Launch) : ∀ e ∈ k_X6_endAt, Snd loC G l RX6 cX6_endAt 2 (some .int) rm_X6_endAt e.1 e.2 :=
  fa1 (s_iload_n (kf := 1) (j := 1) (by decide +kernel) rfl) <|
  fa1 (s_iflt (off := 29) (by decide +kernel) (by decide)) <|
  fa1 (s_iload_n (kf := 1) (j := 1) (by decide +kernel) rfl) <|
  fa1 (s_aload_n (kf := 0) (j := 0) (by decide +kernel) rfl) <|
  fa1 (s_getM (ci := 6) (f := 2) (idx := 14) (C := RX6) (T := TX6) (NF := 7) (by decide +kernel) rfl (by decide) inG_X6 (by decide) w_341 lm_X6_2) <|
  fa1 (s_getI (ci := 8) (f := 1) (idx := 38) (C := RX8) (T := TX8) (NF := 2) (by decide +kernel) rfl (by decide) inG_X8 (by decide) w_141 li_X8_1) <|
  fa1 (s_cmpge (off := 18) (by decide +kernel) (by decide)) <|
  fa1 (s_iload_n (kf := 1) (j := 1) (by decide +kernel) rfl) <|
  fa1 (s_bipush (n := 20) (v := 20) (by decide +kernel) (by decide +kernel) (p32 rfl)) <|
  fa1 (s_cmpge (off := 12) (by decide +kernel) (by decide)) <|
  fa1 (s_aload_n (kf := 0) (j := 0) (by decide +kernel) rfl) <|
  fa1 (s_getR (t2 := 20) (g := (fun _ => 160)) (ci := 6) (f := 3) (idx := 20) (C := RX6) (T := TX6) (NF := 7) (by decide +kernel) rfl (by decide) inG_X6 (by decide) w_342 lr_X6_3 (by decide)) <|
  fa1 (s_iload_n (kf := 1) (j := 1) (by decide +kernel) rfl) <|
  fa1 (s_iald (by decide +kernel)) <|
  fa1 (s_goto (off := 10) (by decide +kernel) (by decide)) <|
  fa1 (s_aload_n (kf := 0) (j := 0) (by decide +kernel) rfl) <|
  fa1 (s_getM (ci := 6) (f := 2) (idx := 14) (C := RX6) (T := TX6) (NF := 7) (by decide +kernel) rfl (by decide) inG_X6 (by decide) w_341 lm_X6_2) <|
  fa1 (s_getI (ci := 8) (f := 1) (idx := 38) (C := RX8) (T := TX8) (NF := 2) (by decide +kernel) rfl (by decide) inG_X8 (by decide) w_141 li_X8_1) <|
  fa1 (s_iret (by decide +kernel) rfl) <| fa0
theorem gg_X6_endAt {G : Wp} {l : Launch} : GoodM loC G l yX6_endAt cX6_endAt 2 (some .int) rm_X6_endAt f_X6_endAt := met_of kt_X6_endAt (lkp_snd (ks_X6_endAt G l)) (by decide +kernel) rfl (by decide)
noncomputable def k_X6_becomes : List (Nat × Ins) := [
  (0, i_aload 1 0),
  (1, i_iload 2 2),
  (2, i_callI 5 2 (rcv 6) f_X6_endAt),
  (5, i_istore 7 4),
  (7, i_aload 8 0),
  (8, i_getM 11 6 2 8),
  (11, i_getI 14 8 1),
  (14, i_iload 16 4),
  (16, i_iload 17 2),
  (17, i_bin 18 (fun x y => wr (x - y))),
  (18, i_bin 19 (fun x y => wr (x - y))),
  (19, i_istore 21 5),
  (21, i_push 22 (.inl 0)),
  (22, i_istore 24 6),
  (24, i_iload 26 6),
  (26, i_aload 27 1),
  (27, i_getI 30 8 1),
  (30, i_cmpge 33 103),
  (33, i_aload 34 1),
  (34, i_iload 36 6),
  (36, i_callI 39 2 (rcv 8) f_X8_at),
  (39, i_push 41 (.inl 23)),
  (41, i_bin 42 (fun x y => wr (x - y))),
  (42, i_istore 44 7),
  (44, i_iload 46 7),
  (46, i_push 47 (.inl 3)),
  (47, i_cmpge 50 65),
  (50, i_iload 52 7),
  (52, i_iflt 55 68),
  (55, i_aload 56 0),
  (56, i_getR 59 6 20 (fun _ => 161)),
  (59, i_iload 61 7),
  (61, i_ald 62 20 lnC),
  (62, i_ifge 65 68),
  (65, i_push 67 (.inl (-23))),
  (67, i_iret),
  (68, i_iload 70 5),
  (70, i_iload 72 7),
  (72, i_ifge 75 79),
  (75, i_push 76 (.inl 1)),
  (76, i_goto 94),
  (79, i_aload 80 0),
  (80, i_getR 83 6 20 (fun _ => 162)),
  (83, i_iload 85 7),
  (85, i_ald 86 20 lnC),
  (86, i_aload 87 0),
  (87, i_getR 90 6 20 (fun _ => 161)),
  (90, i_iload 92 7),
  (92, i_ald 93 20 lnC),
  (93, i_bin 94 (fun x y => wr (x - y))),
  (94, i_bin 95 (fun x y => wr (x + y))),
  (95, i_istore 97 5),
  (97, i_iinc 100 6 (1)),
  (100, i_goto 24),
  (103, i_iload 105 5),
  (105, i_push 107 (.inl 20)),
  (107, i_cmple 110 113),
  (110, i_push 112 (.inl (-24))),
  (112, i_iret),
  (113, i_aload 114 3),
  (114, i_push 115 (.inl 0)),
  (115, i_putI 118 8 1),
  (118, i_aload 119 3),
  (119, i_aload 120 0),
  (120, i_getM 123 6 2 8),
  (123, i_push 124 (.inl 0)),
  (124, i_iload 125 2),
  (125, i_callI 128 4 (rcv 8) f_X8_addPart),
  (128, i_pop 129),
  (129, i_push 130 (.inl 0)),
  (130, i_istore 132 6),
  (132, i_iload 134 6),
  (134, i_aload 135 1),
  (135, i_getI 138 8 1),
  (138, i_cmpge 141 206),
  (141, i_aload 142 1),
  (142, i_iload 144 6),
  (144, i_callI 147 2 (rcv 8) f_X8_at),
  (147, i_push 149 (.inl 23)),
  (149, i_bin 150 (fun x y => wr (x - y))),
  (150, i_istore 152 7),
  (152, i_iload 154 7),
  (154, i_ifge 157 171),
  (157, i_aload 158 3),
  (158, i_aload 159 1),
  (159, i_iload 161 6),
  (161, i_callI 164 2 (rcv 8) f_X8_at),
  (164, i_callI 167 2 (rcv 8) f_X8_add),
  (167, i_pop 168),
  (168, i_goto 200),
  (171, i_iload 173 7),
  (173, i_push 174 (.inl 3)),
  (174, i_cmpge 177 200),
  (177, i_aload 178 3),
  (178, i_aload 179 0),
  (179, i_getM 182 6 2 8),
  (182, i_aload 183 0),
  (183, i_getR 186 6 20 (fun _ => 161)),
  (186, i_iload 188 7),
  (188, i_ald 189 20 lnC),
  (189, i_aload 190 0),
  (190, i_getR 193 6 20 (fun _ => 162)),
  (193, i_iload 195 7),
  (195, i_ald 196 20 lnC),
  (196, i_callI 199 4 (rcv 8) f_X8_addPart),
  (199, i_pop 200),
  (200, i_iinc 203 6 (1)),
  (203, i_goto 132),
  (206, i_aload 207 3),
  (207, i_aload 208 0),
  (208, i_getM 211 6 2 8),
  (211, i_iload 213 4),
  (213, i_aload 214 0),
  (214, i_getM 217 6 2 8),
  (217, i_getI 220 8 1),
  (220, i_callI 223 4 (rcv 8) f_X8_addPart),
  (223, i_pop 224),
  (224, i_aload 225 3),
  (225, i_getI 228 8 1),
  (228, i_iret)]
noncomputable def kc_X6_becomes : Nat → Option Ins := lkp k_X6_becomes
noncomputable def f_X6_becomes : List AV → Mem → Option Rs := den 8 kc_X6_becomes
abbrev rm_X6_becomes : Room := { frames := 1, cells := 0, slots := 0, locals := 24 }
set_option maxRecDepth 100000 in
theorem kt_X6_becomes : TriC kc_X6_becomes := lkp_tri (fa1 (tri_aload 1 0) (fa1 (tri_iload 2 2) (fa1 (tri_callI 5 2 (rcv 6) f_X6_endAt) (fa1 (tri_istore 7 4) (fa1 (tri_aload 8 0) (fa1 (tri_getM 11 6 2 8) (fa1 (tri_getI 14 8 1) (fa1 (tri_iload 16 4) (fa1 (tri_iload 17 2) (fa1 (tri_bin 18 (fun x y => wr (x - y))) (fa1 (tri_bin 19 (fun x y => wr (x - y))) (fa1 (tri_istore 21 5) (fa1 (tri_push 22 (.inl 0)) (fa1 (tri_istore 24 6) (fa1 (tri_iload 26 6) (fa1 (tri_aload 27 1) (fa1 (tri_getI 30 8 1) (fa1 (tri_cmpge 33 103) (fa1 (tri_aload 34 1) (fa1 (tri_iload 36 6) (fa1 (tri_callI 39 2 (rcv 8) f_X8_at) (fa1 (tri_push 41 (.inl 23)) (fa1 (tri_bin 42 (fun x y => wr (x - y))) (fa1 (tri_istore 44 7) (fa1 (tri_iload 46 7) (fa1 (tri_push 47 (.inl 3)) (fa1 (tri_cmpge 50 65) (fa1 (tri_iload 52 7) (fa1 (tri_iflt 55 68) (fa1 (tri_aload 56 0) (fa1 (tri_getR 59 6 20 (fun _ => 161)) (fa1 (tri_iload 61 7) (fa1 (tri_ald 62 20 lnC) (fa1 (tri_ifge 65 68) (fa1 (tri_push 67 (.inl (-23))) (fa1 (tri_iret) (fa1 (tri_iload 70 5) (fa1 (tri_iload 72 7) (fa1 (tri_ifge 75 79) (fa1 (tri_push 76 (.inl 1)) (fa1 (tri_goto 94) (fa1 (tri_aload 80 0) (fa1 (tri_getR 83 6 20 (fun _ => 162)) (fa1 (tri_iload 85 7) (fa1 (tri_ald 86 20 lnC) (fa1 (tri_aload 87 0) (fa1 (tri_getR 90 6 20 (fun _ => 161)) (fa1 (tri_iload 92 7) (fa1 (tri_ald 93 20 lnC) (fa1 (tri_bin 94 (fun x y => wr (x - y))) (fa1 (tri_bin 95 (fun x y => wr (x + y))) (fa1 (tri_istore 97 5) (fa1 (tri_iinc 100 6 (1)) (fa1 (tri_goto 24) (fa1 (tri_iload 105 5) (fa1 (tri_push 107 (.inl 20)) (fa1 (tri_cmple 110 113) (fa1 (tri_push 112 (.inl (-24))) (fa1 (tri_iret) (fa1 (tri_aload 114 3) (fa1 (tri_push 115 (.inl 0)) (fa1 (tri_putI 118 8 1) (fa1 (tri_aload 119 3) (fa1 (tri_aload 120 0) (fa1 (tri_getM 123 6 2 8) (fa1 (tri_push 124 (.inl 0)) (fa1 (tri_iload 125 2) (fa1 (tri_callI 128 4 (rcv 8) f_X8_addPart) (fa1 (tri_pop 129) (fa1 (tri_push 130 (.inl 0)) (fa1 (tri_istore 132 6) (fa1 (tri_iload 134 6) (fa1 (tri_aload 135 1) (fa1 (tri_getI 138 8 1) (fa1 (tri_cmpge 141 206) (fa1 (tri_aload 142 1) (fa1 (tri_iload 144 6) (fa1 (tri_callI 147 2 (rcv 8) f_X8_at) (fa1 (tri_push 149 (.inl 23)) (fa1 (tri_bin 150 (fun x y => wr (x - y))) (fa1 (tri_istore 152 7) (fa1 (tri_iload 154 7) (fa1 (tri_ifge 157 171) (fa1 (tri_aload 158 3) (fa1 (tri_aload 159 1) (fa1 (tri_iload 161 6) (fa1 (tri_callI 164 2 (rcv 8) f_X8_at) (fa1 (tri_callI 167 2 (rcv 8) f_X8_add) (fa1 (tri_pop 168) (fa1 (tri_goto 200) (fa1 (tri_iload 173 7) (fa1 (tri_push 174 (.inl 3)) (fa1 (tri_cmpge 177 200) (fa1 (tri_aload 178 3) (fa1 (tri_aload 179 0) (fa1 (tri_getM 182 6 2 8) (fa1 (tri_aload 183 0) (fa1 (tri_getR 186 6 20 (fun _ => 161)) (fa1 (tri_iload 188 7) (fa1 (tri_ald 189 20 lnC) (fa1 (tri_aload 190 0) (fa1 (tri_getR 193 6 20 (fun _ => 162)) (fa1 (tri_iload 195 7) (fa1 (tri_ald 196 20 lnC) (fa1 (tri_callI 199 4 (rcv 8) f_X8_addPart) (fa1 (tri_pop 200) (fa1 (tri_iinc 203 6 (1)) (fa1 (tri_goto 132) (fa1 (tri_aload 207 3) (fa1 (tri_aload 208 0) (fa1 (tri_getM 211 6 2 8) (fa1 (tri_iload 213 4) (fa1 (tri_aload 214 0) (fa1 (tri_getM 217 6 2 8) (fa1 (tri_getI 220 8 1) (fa1 (tri_callI 223 4 (rcv 8) f_X8_addPart) (fa1 (tri_pop 224) (fa1 (tri_aload 225 3) (fa1 (tri_getI 228 8 1) (fa1 (tri_iret) (fa0)))))))))))))))))))))))))))))))))))))))))))))))))))))))))))))))))))))))))))))))))))))))))))))))))))))))))))))))))))))))))
set_option maxRecDepth 100000 in
set_option maxHeartbeats 4000000 in
theorem ks_X6_becomes (G : Wp) (l : Launch) : ∀ e ∈ k_X6_becomes, Snd loC G l RX6 cX6_becomes 8 (some .int) rm_X6_becomes e.1 e.2 :=
  fa1 (s_aload_n (kf := 0) (j := 0) (by decide +kernel) rfl) <|
  fa1 (s_iload_n (kf := 2) (j := 2) (by decide +kernel) rfl) <|
  fa1 (s_vcallI (n := 1) (ci := 6) (C := RX6) (T := TX6) (NF := 7) (idx := 57) (y := yX6_endAt) (by decide +kernel) (gg_X6_endAt) rfl (by decide) yv_X6_endAt (all5 w_829 w_831 w_13 w_107 w_832) rfl rfl ⟨by decide, by decide⟩) <|
  fa1 (s_istore (j := 4) (by decide +kernel) (by decide)) <|
  fa1 (s_aload_n (kf := 0) (j := 0) (by decide +kernel) rfl) <|
  fa1 (s_getM (ci := 6) (f := 2) (idx := 14) (C := RX6) (T := TX6) (NF := 7) (by decide +kernel) rfl (by decide) inG_X6 (by decide) w_341 lm_X6_2) <|
  fa1 (s_getI (ci := 8) (f := 1) (idx := 38) (C := RX8) (T := TX8) (NF := 2) (by decide +kernel) rfl (by decide) inG_X8 (by decide) w_141 li_X8_1) <|
  fa1 (s_iload (j := 4) (by decide +kernel)) <|
  fa1 (s_iload_n (kf := 2) (j := 2) (by decide +kernel) rfl) <|
  fa1 (s_isub (by decide +kernel)) <|
  fa1 (s_isub (by decide +kernel)) <|
  fa1 (s_istore (j := 5) (by decide +kernel) (by decide)) <|
  fa1 (s_iconst (n := 0) (v := 0) (by decide +kernel) (by decide +kernel) (p32 rfl)) <|
  fa1 (s_istore (j := 6) (by decide +kernel) (by decide)) <|
  fa1 (s_iload (j := 6) (by decide +kernel)) <|
  fa1 (s_aload_n (kf := 1) (j := 1) (by decide +kernel) rfl) <|
  fa1 (s_getI (ci := 8) (f := 1) (idx := 38) (C := RX8) (T := TX8) (NF := 2) (by decide +kernel) rfl (by decide) inG_X8 (by decide) w_141 li_X8_1) <|
  fa1 (s_cmpge (off := 73) (by decide +kernel) (by decide)) <|
  fa1 (s_aload_n (kf := 1) (j := 1) (by decide +kernel) rfl) <|
  fa1 (s_iload (j := 6) (by decide +kernel)) <|
  fa1 (s_vcallI (n := 1) (ci := 8) (C := RX8) (T := TX8) (NF := 2) (idx := 48) (y := yX8_at) (by decide +kernel) (gg_X8_at) rfl (by decide) yv_X8_at (all5 w_827 w_667 w_668 w_102 w_669) rfl rfl ⟨by decide, by decide⟩) <|
  fa1 (s_bipush (n := 23) (v := 23) (by decide +kernel) (by decide +kernel) (p32 rfl)) <|
  fa1 (s_isub (by decide +kernel)) <|
  fa1 (s_istore (j := 7) (by decide +kernel) (by decide)) <|
  fa1 (s_iload (j := 7) (by decide +kernel)) <|
  fa1 (s_iconst (n := 3) (v := 3) (by decide +kernel) (by decide +kernel) (p32 rfl)) <|
  fa1 (s_cmpge (off := 18) (by decide +kernel) (by decide)) <|
  fa1 (s_iload (j := 7) (by decide +kernel)) <|
  fa1 (s_iflt (off := 16) (by decide +kernel) (by decide)) <|
  fa1 (s_aload_n (kf := 0) (j := 0) (by decide +kernel) rfl) <|
  fa1 (s_getR (t2 := 20) (g := (fun _ => 161)) (ci := 6) (f := 4) (idx := 24) (C := RX6) (T := TX6) (NF := 7) (by decide +kernel) rfl (by decide) inG_X6 (by decide) w_343 lr_X6_4 (by decide)) <|
  fa1 (s_iload (j := 7) (by decide +kernel)) <|
  fa1 (s_iald (by decide +kernel)) <|
  fa1 (s_ifge (off := 6) (by decide +kernel) (by decide)) <|
  fa1 (s_bipush (n := -23) (v := -23) (by decide +kernel) (by decide +kernel) (p32 rfl)) <|
  fa1 (s_iret (by decide +kernel) rfl) <|
  fa1 (s_iload (j := 5) (by decide +kernel)) <|
  fa1 (s_iload (j := 7) (by decide +kernel)) <|
  fa1 (s_ifge (off := 7) (by decide +kernel) (by decide)) <|
  fa1 (s_iconst (n := 1) (v := 1) (by decide +kernel) (by decide +kernel) (p32 rfl)) <|
  fa1 (s_goto (off := 18) (by decide +kernel) (by decide)) <|
  fa1 (s_aload_n (kf := 0) (j := 0) (by decide +kernel) rfl) <|
  fa1 (s_getR (t2 := 20) (g := (fun _ => 162)) (ci := 6) (f := 5) (idx := 27) (C := RX6) (T := TX6) (NF := 7) (by decide +kernel) rfl (by decide) inG_X6 (by decide) w_344 lr_X6_5 (by decide)) <|
  fa1 (s_iload (j := 7) (by decide +kernel)) <|
  fa1 (s_iald (by decide +kernel)) <|
  fa1 (s_aload_n (kf := 0) (j := 0) (by decide +kernel) rfl) <|
  fa1 (s_getR (t2 := 20) (g := (fun _ => 161)) (ci := 6) (f := 4) (idx := 24) (C := RX6) (T := TX6) (NF := 7) (by decide +kernel) rfl (by decide) inG_X6 (by decide) w_343 lr_X6_4 (by decide)) <|
  fa1 (s_iload (j := 7) (by decide +kernel)) <|
  fa1 (s_iald (by decide +kernel)) <|
  fa1 (s_isub (by decide +kernel)) <|
  fa1 (s_iadd (by decide +kernel)) <|
  fa1 (s_istore (j := 5) (by decide +kernel) (by decide)) <|
  fa1 (s_iinc (j := 6) (d := 1) (by decide +kernel) (by decide)) <|
  fa1 (s_goto (off := -76) (by decide +kernel) (by decide)) <|
  fa1 (s_iload (j := 5) (by decide +kernel)) <|
  fa1 (s_bipush (n := 20) (v := 20) (by decide +kernel) (by decide +kernel) (p32 rfl)) <|
  fa1 (s_cmple (off := 6) (by decide +kernel) (by decide)) <|
  fa1 (s_bipush (n := -24) (v := -24) (by decide +kernel) (by decide +kernel) (p32 rfl)) <|
  fa1 (s_iret (by decide +kernel) rfl) <|
  fa1 (s_aload_n (kf := 3) (j := 3) (by decide +kernel) rfl) <|
  fa1 (s_iconst (n := 0) (v := 0) (by decide +kernel) (by decide +kernel) (p32 rfl)) <|
  fa1 (s_putI (ci := 8) (f := 1) (idx := 38) (C := RX8) (T := TX8) (NF := 2) (by decide +kernel) rfl (by decide) inG_X8 (by decide) w_141 tyX8 tyX8_ok nmX8 rfl (by decide +kernel) li_X8_1) <|
  fa1 (s_aload_n (kf := 3) (j := 3) (by decide +kernel) rfl) <|
  fa1 (s_aload_n (kf := 0) (j := 0) (by decide +kernel) rfl) <|
  fa1 (s_getM (ci := 6) (f := 2) (idx := 14) (C := RX6) (T := TX6) (NF := 7) (by decide +kernel) rfl (by decide) inG_X6 (by decide) w_341 lm_X6_2) <|
  fa1 (s_iconst (n := 0) (v := 0) (by decide +kernel) (by decide +kernel) (p32 rfl)) <|
  fa1 (s_iload_n (kf := 2) (j := 2) (by decide +kernel) rfl) <|
  fa1 (s_vcallI (n := 3) (ci := 8) (C := RX8) (T := TX8) (NF := 2) (idx := 103) (y := yX8_addPart) (by decide +kernel) (gg_X8_addPart) rfl (by decide) yv_X8_addPart (all5 w_860 w_688 w_689 w_102 w_690) rfl rfl ⟨by decide, by decide⟩) <|
  fa1 (s_pop (by decide +kernel)) <|
  fa1 (s_iconst (n := 0) (v := 0) (by decide +kernel) (by decide +kernel) (p32 rfl)) <|
  fa1 (s_istore (j := 6) (by decide +kernel) (by decide)) <|
  fa1 (s_iload (j := 6) (by decide +kernel)) <|
  fa1 (s_aload_n (kf := 1) (j := 1) (by decide +kernel) rfl) <|
  fa1 (s_getI (ci := 8) (f := 1) (idx := 38) (C := RX8) (T := TX8) (NF := 2) (by decide +kernel) rfl (by decide) inG_X8 (by decide) w_141 li_X8_1) <|
  fa1 (s_cmpge (off := 68) (by decide +kernel) (by decide)) <|
  fa1 (s_aload_n (kf := 1) (j := 1) (by decide +kernel) rfl) <|
  fa1 (s_iload (j := 6) (by decide +kernel)) <|
  fa1 (s_vcallI (n := 1) (ci := 8) (C := RX8) (T := TX8) (NF := 2) (idx := 48) (y := yX8_at) (by decide +kernel) (gg_X8_at) rfl (by decide) yv_X8_at (all5 w_827 w_667 w_668 w_102 w_669) rfl rfl ⟨by decide, by decide⟩) <|
  fa1 (s_bipush (n := 23) (v := 23) (by decide +kernel) (by decide +kernel) (p32 rfl)) <|
  fa1 (s_isub (by decide +kernel)) <|
  fa1 (s_istore (j := 7) (by decide +kernel) (by decide)) <|
  fa1 (s_iload (j := 7) (by decide +kernel)) <|
  fa1 (s_ifge (off := 17) (by decide +kernel) (by decide)) <|
  fa1 (s_aload_n (kf := 3) (j := 3) (by decide +kernel) rfl) <|
  fa1 (s_aload_n (kf := 1) (j := 1) (by decide +kernel) rfl) <|
  fa1 (s_iload (j := 6) (by decide +kernel)) <|
  fa1 (s_vcallI (n := 1) (ci := 8) (C := RX8) (T := TX8) (NF := 2) (idx := 48) (y := yX8_at) (by decide +kernel) (gg_X8_at) rfl (by decide) yv_X8_at (all5 w_827 w_667 w_668 w_102 w_669) rfl rfl ⟨by decide, by decide⟩) <|
  fa1 (s_vcallI (n := 1) (ci := 8) (C := RX8) (T := TX8) (NF := 2) (idx := 107) (y := yX8_add) (by decide +kernel) (gg_X8_add) rfl (by decide) yv_X8_add (all5 w_861 w_659 w_660 w_102 w_661) rfl rfl ⟨by decide, by decide⟩) <|
  fa1 (s_pop (by decide +kernel)) <|
  fa1 (s_goto (off := 32) (by decide +kernel) (by decide)) <|
  fa1 (s_iload (j := 7) (by decide +kernel)) <|
  fa1 (s_iconst (n := 3) (v := 3) (by decide +kernel) (by decide +kernel) (p32 rfl)) <|
  fa1 (s_cmpge (off := 26) (by decide +kernel) (by decide)) <|
  fa1 (s_aload_n (kf := 3) (j := 3) (by decide +kernel) rfl) <|
  fa1 (s_aload_n (kf := 0) (j := 0) (by decide +kernel) rfl) <|
  fa1 (s_getM (ci := 6) (f := 2) (idx := 14) (C := RX6) (T := TX6) (NF := 7) (by decide +kernel) rfl (by decide) inG_X6 (by decide) w_341 lm_X6_2) <|
  fa1 (s_aload_n (kf := 0) (j := 0) (by decide +kernel) rfl) <|
  fa1 (s_getR (t2 := 20) (g := (fun _ => 161)) (ci := 6) (f := 4) (idx := 24) (C := RX6) (T := TX6) (NF := 7) (by decide +kernel) rfl (by decide) inG_X6 (by decide) w_343 lr_X6_4 (by decide)) <|
  fa1 (s_iload (j := 7) (by decide +kernel)) <|
  fa1 (s_iald (by decide +kernel)) <|
  fa1 (s_aload_n (kf := 0) (j := 0) (by decide +kernel) rfl) <|
  fa1 (s_getR (t2 := 20) (g := (fun _ => 162)) (ci := 6) (f := 5) (idx := 27) (C := RX6) (T := TX6) (NF := 7) (by decide +kernel) rfl (by decide) inG_X6 (by decide) w_344 lr_X6_5 (by decide)) <|
  fa1 (s_iload (j := 7) (by decide +kernel)) <|
  fa1 (s_iald (by decide +kernel)) <|
  fa1 (s_vcallI (n := 3) (ci := 8) (C := RX8) (T := TX8) (NF := 2) (idx := 103) (y := yX8_addPart) (by decide +kernel) (gg_X8_addPart) rfl (by decide) yv_X8_addPart (all5 w_860 w_688 w_689 w_102 w_690) rfl rfl ⟨by decide, by decide⟩) <|
  fa1 (s_pop (by decide +kernel)) <|
  fa1 (s_iinc (j := 6) (d := 1) (by decide +kernel) (by decide)) <|
  fa1 (s_goto (off := -71) (by decide +kernel) (by decide)) <|
  fa1 (s_aload_n (kf := 3) (j := 3) (by decide +kernel) rfl) <|
  fa1 (s_aload_n (kf := 0) (j := 0) (by decide +kernel) rfl) <|
  fa1 (s_getM (ci := 6) (f := 2) (idx := 14) (C := RX6) (T := TX6) (NF := 7) (by decide +kernel) rfl (by decide) inG_X6 (by decide) w_341 lm_X6_2) <|
  fa1 (s_iload (j := 4) (by decide +kernel)) <|
  fa1 (s_aload_n (kf := 0) (j := 0) (by decide +kernel) rfl) <|
  fa1 (s_getM (ci := 6) (f := 2) (idx := 14) (C := RX6) (T := TX6) (NF := 7) (by decide +kernel) rfl (by decide) inG_X6 (by decide) w_341 lm_X6_2) <|
  fa1 (s_getI (ci := 8) (f := 1) (idx := 38) (C := RX8) (T := TX8) (NF := 2) (by decide +kernel) rfl (by decide) inG_X8 (by decide) w_141 li_X8_1) <|
  fa1 (s_vcallI (n := 3) (ci := 8) (C := RX8) (T := TX8) (NF := 2) (idx := 103) (y := yX8_addPart) (by decide +kernel) (gg_X8_addPart) rfl (by decide) yv_X8_addPart (all5 w_860 w_688 w_689 w_102 w_690) rfl rfl ⟨by decide, by decide⟩) <|
  fa1 (s_pop (by decide +kernel)) <|
  fa1 (s_aload_n (kf := 3) (j := 3) (by decide +kernel) rfl) <|
  fa1 (s_getI (ci := 8) (f := 1) (idx := 38) (C := RX8) (T := TX8) (NF := 2) (by decide +kernel) rfl (by decide) inG_X8 (by decide) w_141 li_X8_1) <|
  fa1 (s_iret (by decide +kernel) rfl) <| fa0
theorem gg_X6_becomes {G : Wp} {l : Launch} : GoodM loC G l yX6_becomes cX6_becomes 8 (some .int) rm_X6_becomes f_X6_becomes := met_of kt_X6_becomes (lkp_snd (ks_X6_becomes G l)) (by decide +kernel) rfl (by decide)
noncomputable def k_X6_fits : List (Nat × Ins) := [
  (0, i_push 1 (.inl 0)),
  (1, i_istore 2 3),
  (2, i_iload 3 3),
  (3, i_push 4 (.inl 3)),
  (4, i_cmpge 7 21),
  (7, i_aload 8 0),
  (8, i_getR 11 6 20 (fun _ => 161)),
  (11, i_iload 12 3),
  (12, i_push 14 (.inl (-4))),
  (14, i_ast 15 20 lnC id),
  (15, i_iinc 18 3 (1)),
  (18, i_goto 2),
  (21, i_iload 22 2),
  (22, i_istore 23 3),
  (23, i_push 24 (.inl 0)),
  (24, i_istore 26 4),
  (26, i_iload 28 4),
  (28, i_aload 29 1),
  (29, i_getI 32 8 1),
  (32, i_cmpge 35 215),
  (35, i_iload 36 3),
  (36, i_aload 37 0),
  (37, i_getM 40 6 2 8),
  (40, i_getI 43 8 1),
  (43, i_cmpge 46 215),
  (46, i_aload 47 1),
  (47, i_iload 49 4),
  (49, i_callI 52 2 (rcv 8) f_X8_at),
  (52, i_push 54 (.inl 23)),
  (54, i_bin 55 (fun x y => wr (x - y))),
  (55, i_istore 57 5),
  (57, i_iload 58 3),
  (58, i_push 59 (.inl 1)),
  (59, i_bin 60 (fun x y => wr (x + y))),
  (60, i_istore 62 6),
  (62, i_iload 64 5),
  (64, i_iflt 67 73),
  (67, i_iload 69 5),
  (69, i_push 70 (.inl 3)),
  (70, i_cmplt 73 100),
  (73, i_aload 74 1),
  (74, i_iload 76 4),
  (76, i_callI 79 2 (rcv 8) f_X8_at),
  (79, i_aload 80 0),
  (80, i_getM 83 6 2 8),
  (83, i_iload 84 3),
  (84, i_callI 87 2 (rcv 8) f_X8_at),
  (87, i_cmpne 90 94),
  (90, i_push 91 (.inl 1)),
  (91, i_goto 95),
  (94, i_push 95 (.inl 0)),
  (95, i_istore 97 7),
  (97, i_goto 199),
  (100, i_aload 101 0),
  (101, i_iload 102 3),
  (102, i_callI 105 2 (rcv 6) f_X6_endAt),
  (105, i_istore 107 6),
  (107, i_aload 108 0),
  (108, i_getR 111 6 20 (fun _ => 161)),
  (111, i_iload 113 5),
  (113, i_ald 114 20 lnC),
  (114, i_ifge 117 134),
  (117, i_aload 118 0),
  (118, i_getR 121 6 20 (fun _ => 161)),
  (121, i_iload 123 5),
  (123, i_iload 124 3),
  (124, i_ast 125 20 lnC id),
  (125, i_aload 126 0),
  (126, i_getR 129 6 20 (fun _ => 162)),
  (129, i_iload 131 5),
  (131, i_iload 133 6),
  (133, i_ast 134 20 lnC id),
  (134, i_aload 135 0),
  (135, i_getR 138 6 20 (fun _ => 162)),
  (138, i_iload 140 5),
  (140, i_ald 141 20 lnC),
  (141, i_aload 142 0),
  (142, i_getR 145 6 20 (fun _ => 161)),
  (145, i_iload 147 5),
  (147, i_ald 148 20 lnC),
  (148, i_bin 149 (fun x y => wr (x - y))),
  (149, i_iload 151 6),
  (151, i_iload 152 3),
  (152, i_bin 153 (fun x y => wr (x - y))),
  (153, i_cmpne 156 160),
  (156, i_push 157 (.inl 1)),
  (157, i_goto 161),
  (160, i_push 161 (.inl 0)),
  (161, i_istore 163 8),
  (163, i_iload 165 8),
  (165, i_ifeq 168 196),
  (168, i_aload 169 0),
  (169, i_getM 172 6 2 8),
  (172, i_iload 173 3),
  (173, i_iload 175 6),
  (175, i_aload 176 0),
  (176, i_getM 179 6 2 8),
  (179, i_aload 180 0),
  (180, i_getR 183 6 20 (fun _ => 161)),
  (183, i_iload 185 5),
  (185, i_ald 186 20 lnC),
  (186, i_callI 189 5 (rcv 8) f_X8_samePart),
  (189, i_ifeq 192 196),
  (192, i_push 193 (.inl 1)),
  (193, i_goto 197),
  (196, i_push 197 (.inl 0)),
  (197, i_istore 199 7),
  (199, i_iload 201 7),
  (201, i_ifne 204 206),
  (204, i_push 205 (.inl 0)),
  (205, i_zret),
  (206, i_iload 208 6),
  (208, i_istore 209 3),
  (209, i_iinc 212 4 (1)),
  (212, i_goto 26),
  (215, i_iload 216 3),
  (216, i_aload 217 0),
  (217, i_iload 218 2),
  (218, i_callI 221 2 (rcv 6) f_X6_endAt),
  (221, i_cmpne 224 228),
  (224, i_push 225 (.inl 1)),
  (225, i_goto 229),
  (228, i_push 229 (.inl 0)),
  (229, i_zret)]
noncomputable def kc_X6_fits : Nat → Option Ins := lkp k_X6_fits
noncomputable def f_X6_fits : List AV → Mem → Option Rs := den 9 kc_X6_fits
abbrev rm_X6_fits : Room := { frames := 1, cells := 0, slots := 0, locals := 25 }
set_option maxRecDepth 100000 in
theorem kt_X6_fits : TriC kc_X6_fits := lkp_tri (fa1 (tri_push 1 (.inl 0)) (fa1 (tri_istore 2 3) (fa1 (tri_iload 3 3) (fa1 (tri_push 4 (.inl 3)) (fa1 (tri_cmpge 7 21) (fa1 (tri_aload 8 0) (fa1 (tri_getR 11 6 20 (fun _ => 161)) (fa1 (tri_iload 12 3) (fa1 (tri_push 14 (.inl (-4))) (fa1 (tri_ast 15 20 lnC id) (fa1 (tri_iinc 18 3 (1)) (fa1 (tri_goto 2) (fa1 (tri_iload 22 2) (fa1 (tri_istore 23 3) (fa1 (tri_push 24 (.inl 0)) (fa1 (tri_istore 26 4) (fa1 (tri_iload 28 4) (fa1 (tri_aload 29 1) (fa1 (tri_getI 32 8 1) (fa1 (tri_cmpge 35 215) (fa1 (tri_iload 36 3) (fa1 (tri_aload 37 0) (fa1 (tri_getM 40 6 2 8) (fa1 (tri_getI 43 8 1) (fa1 (tri_cmpge 46 215) (fa1 (tri_aload 47 1) (fa1 (tri_iload 49 4) (fa1 (tri_callI 52 2 (rcv 8) f_X8_at) (fa1 (tri_push 54 (.inl 23)) (fa1 (tri_bin 55 (fun x y => wr (x - y))) (fa1 (tri_istore 57 5) (fa1 (tri_iload 58 3) (fa1 (tri_push 59 (.inl 1)) (fa1 (tri_bin 60 (fun x y => wr (x + y))) (fa1 (tri_istore 62 6) (fa1 (tri_iload 64 5) (fa1 (tri_iflt 67 73) (fa1 (tri_iload 69 5) (fa1 (tri_push 70 (.inl 3)) (fa1 (tri_cmplt 73 100) (fa1 (tri_aload 74 1) (fa1 (tri_iload 76 4) (fa1 (tri_callI 79 2 (rcv 8) f_X8_at) (fa1 (tri_aload 80 0) (fa1 (tri_getM 83 6 2 8) (fa1 (tri_iload 84 3) (fa1 (tri_callI 87 2 (rcv 8) f_X8_at) (fa1 (tri_cmpne 90 94) (fa1 (tri_push 91 (.inl 1)) (fa1 (tri_goto 95) (fa1 (tri_push 95 (.inl 0)) (fa1 (tri_istore 97 7) (fa1 (tri_goto 199) (fa1 (tri_aload 101 0) (fa1 (tri_iload 102 3) (fa1 (tri_callI 105 2 (rcv 6) f_X6_endAt) (fa1 (tri_istore 107 6) (fa1 (tri_aload 108 0) (fa1 (tri_getR 111 6 20 (fun _ => 161)) (fa1 (tri_iload 113 5) (fa1 (tri_ald 114 20 lnC) (fa1 (tri_ifge 117 134) (fa1 (tri_aload 118 0) (fa1 (tri_getR 121 6 20 (fun _ => 161)) (fa1 (tri_iload 123 5) (fa1 (tri_iload 124 3) (fa1 (tri_ast 125 20 lnC id) (fa1 (tri_aload 126 0) (fa1 (tri_getR 129 6 20 (fun _ => 162)) (fa1 (tri_iload 131 5) (fa1 (tri_iload 133 6) (fa1 (tri_ast 134 20 lnC id) (fa1 (tri_aload 135 0) (fa1 (tri_getR 138 6 20 (fun _ => 162)) (fa1 (tri_iload 140 5) (fa1 (tri_ald 141 20 lnC) (fa1 (tri_aload 142 0) (fa1 (tri_getR 145 6 20 (fun _ => 161)) (fa1 (tri_iload 147 5) (fa1 (tri_ald 148 20 lnC) (fa1 (tri_bin 149 (fun x y => wr (x - y))) (fa1 (tri_iload 151 6) (fa1 (tri_iload 152 3) (fa1 (tri_bin 153 (fun x y => wr (x - y))) (fa1 (tri_cmpne 156 160) (fa1 (tri_push 157 (.inl 1)) (fa1 (tri_goto 161) (fa1 (tri_push 161 (.inl 0)) (fa1 (tri_istore 163 8) (fa1 (tri_iload 165 8) (fa1 (tri_ifeq 168 196) (fa1 (tri_aload 169 0) (fa1 (tri_getM 172 6 2 8) (fa1 (tri_iload 173 3) (fa1 (tri_iload 175 6) (fa1 (tri_aload 176 0) (fa1 (tri_getM 179 6 2 8) (fa1 (tri_aload 180 0) (fa1 (tri_getR 183 6 20 (fun _ => 161)) (fa1 (tri_iload 185 5) (fa1 (tri_ald 186 20 lnC) (fa1 (tri_callI 189 5 (rcv 8) f_X8_samePart) (fa1 (tri_ifeq 192 196) (fa1 (tri_push 193 (.inl 1)) (fa1 (tri_goto 197) (fa1 (tri_push 197 (.inl 0)) (fa1 (tri_istore 199 7) (fa1 (tri_iload 201 7) (fa1 (tri_ifne 204 206) (fa1 (tri_push 205 (.inl 0)) (fa1 (tri_zret) (fa1 (tri_iload 208 6) (fa1 (tri_istore 209 3) (fa1 (tri_iinc 212 4 (1)) (fa1 (tri_goto 26) (fa1 (tri_iload 216 3) (fa1 (tri_aload 217 0) (fa1 (tri_iload 218 2) (fa1 (tri_callI 221 2 (rcv 6) f_X6_endAt) (fa1 (tri_cmpne 224 228) (fa1 (tri_push 225 (.inl 1)) (fa1 (tri_goto 229) (fa1 (tri_push 229 (.inl 0)) (fa1 (tri_zret) (fa0)))))))))))))))))))))))))))))))))))))))))))))))))))))))))))))))))))))))))))))))))))))))))))))))))))))))))))))))))))))))))))))
set_option maxRecDepth 100000 in
set_option maxHeartbeats 4000000 in
theorem ks_X6_fits (G : Wp) (l : Launch) : ∀ e ∈ k_X6_fits, Snd loC G l RX6 cX6_fits 9 (some .boolean) rm_X6_fits e.1 e.2 :=
  fa1 (s_iconst (n := 0) (v := 0) (by decide +kernel) (by decide +kernel) (p32 rfl)) <|
  fa1 (s_istore_n (kf := 3) (j := 3) (by decide +kernel) rfl (by decide)) <|
  fa1 (s_iload_n (kf := 3) (j := 3) (by decide +kernel) rfl) <|
  fa1 (s_iconst (n := 3) (v := 3) (by decide +kernel) (by decide +kernel) (p32 rfl)) <|
  fa1 (s_cmpge (off := 17) (by decide +kernel) (by decide)) <|
  fa1 (s_aload_n (kf := 0) (j := 0) (by decide +kernel) rfl) <|
  fa1 (s_getR (t2 := 20) (g := (fun _ => 161)) (ci := 6) (f := 4) (idx := 24) (C := RX6) (T := TX6) (NF := 7) (by decide +kernel) rfl (by decide) inG_X6 (by decide) w_343 lr_X6_4 (by decide)) <|
  fa1 (s_iload_n (kf := 3) (j := 3) (by decide +kernel) rfl) <|
  fa1 (s_bipush (n := -4) (v := -4) (by decide +kernel) (by decide +kernel) (p32 rfl)) <|
  fa1 (s_iast (by decide +kernel) lt_loC_20) <|
  fa1 (s_iinc (j := 3) (d := 1) (by decide +kernel) (by decide)) <|
  fa1 (s_goto (off := -16) (by decide +kernel) (by decide)) <|
  fa1 (s_iload_n (kf := 2) (j := 2) (by decide +kernel) rfl) <|
  fa1 (s_istore_n (kf := 3) (j := 3) (by decide +kernel) rfl (by decide)) <|
  fa1 (s_iconst (n := 0) (v := 0) (by decide +kernel) (by decide +kernel) (p32 rfl)) <|
  fa1 (s_istore (j := 4) (by decide +kernel) (by decide)) <|
  fa1 (s_iload (j := 4) (by decide +kernel)) <|
  fa1 (s_aload_n (kf := 1) (j := 1) (by decide +kernel) rfl) <|
  fa1 (s_getI (ci := 8) (f := 1) (idx := 38) (C := RX8) (T := TX8) (NF := 2) (by decide +kernel) rfl (by decide) inG_X8 (by decide) w_141 li_X8_1) <|
  fa1 (s_cmpge (off := 183) (by decide +kernel) (by decide)) <|
  fa1 (s_iload_n (kf := 3) (j := 3) (by decide +kernel) rfl) <|
  fa1 (s_aload_n (kf := 0) (j := 0) (by decide +kernel) rfl) <|
  fa1 (s_getM (ci := 6) (f := 2) (idx := 14) (C := RX6) (T := TX6) (NF := 7) (by decide +kernel) rfl (by decide) inG_X6 (by decide) w_341 lm_X6_2) <|
  fa1 (s_getI (ci := 8) (f := 1) (idx := 38) (C := RX8) (T := TX8) (NF := 2) (by decide +kernel) rfl (by decide) inG_X8 (by decide) w_141 li_X8_1) <|
  fa1 (s_cmpge (off := 172) (by decide +kernel) (by decide)) <|
  fa1 (s_aload_n (kf := 1) (j := 1) (by decide +kernel) rfl) <|
  fa1 (s_iload (j := 4) (by decide +kernel)) <|
  fa1 (s_vcallI (n := 1) (ci := 8) (C := RX8) (T := TX8) (NF := 2) (idx := 48) (y := yX8_at) (by decide +kernel) (gg_X8_at) rfl (by decide) yv_X8_at (all5 w_827 w_667 w_668 w_102 w_669) rfl rfl ⟨by decide, by decide⟩) <|
  fa1 (s_bipush (n := 23) (v := 23) (by decide +kernel) (by decide +kernel) (p32 rfl)) <|
  fa1 (s_isub (by decide +kernel)) <|
  fa1 (s_istore (j := 5) (by decide +kernel) (by decide)) <|
  fa1 (s_iload_n (kf := 3) (j := 3) (by decide +kernel) rfl) <|
  fa1 (s_iconst (n := 1) (v := 1) (by decide +kernel) (by decide +kernel) (p32 rfl)) <|
  fa1 (s_iadd (by decide +kernel)) <|
  fa1 (s_istore (j := 6) (by decide +kernel) (by decide)) <|
  fa1 (s_iload (j := 5) (by decide +kernel)) <|
  fa1 (s_iflt (off := 9) (by decide +kernel) (by decide)) <|
  fa1 (s_iload (j := 5) (by decide +kernel)) <|
  fa1 (s_iconst (n := 3) (v := 3) (by decide +kernel) (by decide +kernel) (p32 rfl)) <|
  fa1 (s_cmplt (off := 30) (by decide +kernel) (by decide)) <|
  fa1 (s_aload_n (kf := 1) (j := 1) (by decide +kernel) rfl) <|
  fa1 (s_iload (j := 4) (by decide +kernel)) <|
  fa1 (s_vcallI (n := 1) (ci := 8) (C := RX8) (T := TX8) (NF := 2) (idx := 48) (y := yX8_at) (by decide +kernel) (gg_X8_at) rfl (by decide) yv_X8_at (all5 w_827 w_667 w_668 w_102 w_669) rfl rfl ⟨by decide, by decide⟩) <|
  fa1 (s_aload_n (kf := 0) (j := 0) (by decide +kernel) rfl) <|
  fa1 (s_getM (ci := 6) (f := 2) (idx := 14) (C := RX6) (T := TX6) (NF := 7) (by decide +kernel) rfl (by decide) inG_X6 (by decide) w_341 lm_X6_2) <|
  fa1 (s_iload_n (kf := 3) (j := 3) (by decide +kernel) rfl) <|
  fa1 (s_vcallI (n := 1) (ci := 8) (C := RX8) (T := TX8) (NF := 2) (idx := 48) (y := yX8_at) (by decide +kernel) (gg_X8_at) rfl (by decide) yv_X8_at (all5 w_827 w_667 w_668 w_102 w_669) rfl rfl ⟨by decide, by decide⟩) <|
  fa1 (s_cmpne (off := 7) (by decide +kernel) (by decide)) <|
  fa1 (s_iconst (n := 1) (v := 1) (by decide +kernel) (by decide +kernel) (p32 rfl)) <|
  fa1 (s_goto (off := 4) (by decide +kernel) (by decide)) <|
  fa1 (s_iconst (n := 0) (v := 0) (by decide +kernel) (by decide +kernel) (p32 rfl)) <|
  fa1 (s_istore (j := 7) (by decide +kernel) (by decide)) <|
  fa1 (s_goto (off := 102) (by decide +kernel) (by decide)) <|
  fa1 (s_aload_n (kf := 0) (j := 0) (by decide +kernel) rfl) <|
  fa1 (s_iload_n (kf := 3) (j := 3) (by decide +kernel) rfl) <|
  fa1 (s_vcallI (n := 1) (ci := 6) (C := RX6) (T := TX6) (NF := 7) (idx := 57) (y := yX6_endAt) (by decide +kernel) (gg_X6_endAt) rfl (by decide) yv_X6_endAt (all5 w_829 w_831 w_13 w_107 w_832) rfl rfl ⟨by decide, by decide⟩) <|
  fa1 (s_istore (j := 6) (by decide +kernel) (by decide)) <|
  fa1 (s_aload_n (kf := 0) (j := 0) (by decide +kernel) rfl) <|
  fa1 (s_getR (t2 := 20) (g := (fun _ => 161)) (ci := 6) (f := 4) (idx := 24) (C := RX6) (T := TX6) (NF := 7) (by decide +kernel) rfl (by decide) inG_X6 (by decide) w_343 lr_X6_4 (by decide)) <|
  fa1 (s_iload (j := 5) (by decide +kernel)) <|
  fa1 (s_iald (by decide +kernel)) <|
  fa1 (s_ifge (off := 20) (by decide +kernel) (by decide)) <|
  fa1 (s_aload_n (kf := 0) (j := 0) (by decide +kernel) rfl) <|
  fa1 (s_getR (t2 := 20) (g := (fun _ => 161)) (ci := 6) (f := 4) (idx := 24) (C := RX6) (T := TX6) (NF := 7) (by decide +kernel) rfl (by decide) inG_X6 (by decide) w_343 lr_X6_4 (by decide)) <|
  fa1 (s_iload (j := 5) (by decide +kernel)) <|
  fa1 (s_iload_n (kf := 3) (j := 3) (by decide +kernel) rfl) <|
  fa1 (s_iast (by decide +kernel) lt_loC_20) <|
  fa1 (s_aload_n (kf := 0) (j := 0) (by decide +kernel) rfl) <|
  fa1 (s_getR (t2 := 20) (g := (fun _ => 162)) (ci := 6) (f := 5) (idx := 27) (C := RX6) (T := TX6) (NF := 7) (by decide +kernel) rfl (by decide) inG_X6 (by decide) w_344 lr_X6_5 (by decide)) <|
  fa1 (s_iload (j := 5) (by decide +kernel)) <|
  fa1 (s_iload (j := 6) (by decide +kernel)) <|
  fa1 (s_iast (by decide +kernel) lt_loC_20) <|
  fa1 (s_aload_n (kf := 0) (j := 0) (by decide +kernel) rfl) <|
  fa1 (s_getR (t2 := 20) (g := (fun _ => 162)) (ci := 6) (f := 5) (idx := 27) (C := RX6) (T := TX6) (NF := 7) (by decide +kernel) rfl (by decide) inG_X6 (by decide) w_344 lr_X6_5 (by decide)) <|
  fa1 (s_iload (j := 5) (by decide +kernel)) <|
  fa1 (s_iald (by decide +kernel)) <|
  fa1 (s_aload_n (kf := 0) (j := 0) (by decide +kernel) rfl) <|
  fa1 (s_getR (t2 := 20) (g := (fun _ => 161)) (ci := 6) (f := 4) (idx := 24) (C := RX6) (T := TX6) (NF := 7) (by decide +kernel) rfl (by decide) inG_X6 (by decide) w_343 lr_X6_4 (by decide)) <|
  fa1 (s_iload (j := 5) (by decide +kernel)) <|
  fa1 (s_iald (by decide +kernel)) <|
  fa1 (s_isub (by decide +kernel)) <|
  fa1 (s_iload (j := 6) (by decide +kernel)) <|
  fa1 (s_iload_n (kf := 3) (j := 3) (by decide +kernel) rfl) <|
  fa1 (s_isub (by decide +kernel)) <|
  fa1 (s_cmpne (off := 7) (by decide +kernel) (by decide)) <|
  fa1 (s_iconst (n := 1) (v := 1) (by decide +kernel) (by decide +kernel) (p32 rfl)) <|
  fa1 (s_goto (off := 4) (by decide +kernel) (by decide)) <|
  fa1 (s_iconst (n := 0) (v := 0) (by decide +kernel) (by decide +kernel) (p32 rfl)) <|
  fa1 (s_istore (j := 8) (by decide +kernel) (by decide)) <|
  fa1 (s_iload (j := 8) (by decide +kernel)) <|
  fa1 (s_ifeq (off := 31) (by decide +kernel) (by decide)) <|
  fa1 (s_aload_n (kf := 0) (j := 0) (by decide +kernel) rfl) <|
  fa1 (s_getM (ci := 6) (f := 2) (idx := 14) (C := RX6) (T := TX6) (NF := 7) (by decide +kernel) rfl (by decide) inG_X6 (by decide) w_341 lm_X6_2) <|
  fa1 (s_iload_n (kf := 3) (j := 3) (by decide +kernel) rfl) <|
  fa1 (s_iload (j := 6) (by decide +kernel)) <|
  fa1 (s_aload_n (kf := 0) (j := 0) (by decide +kernel) rfl) <|
  fa1 (s_getM (ci := 6) (f := 2) (idx := 14) (C := RX6) (T := TX6) (NF := 7) (by decide +kernel) rfl (by decide) inG_X6 (by decide) w_341 lm_X6_2) <|
  fa1 (s_aload_n (kf := 0) (j := 0) (by decide +kernel) rfl) <|
  fa1 (s_getR (t2 := 20) (g := (fun _ => 161)) (ci := 6) (f := 4) (idx := 24) (C := RX6) (T := TX6) (NF := 7) (by decide +kernel) rfl (by decide) inG_X6 (by decide) w_343 lr_X6_4 (by decide)) <|
  fa1 (s_iload (j := 5) (by decide +kernel)) <|
  fa1 (s_iald (by decide +kernel)) <|
  fa1 (s_vcallI (n := 4) (ci := 8) (C := RX8) (T := TX8) (NF := 2) (idx := 99) (y := yX8_samePart) (by decide +kernel) (gg_X8_samePart) rfl (by decide) yv_X8_samePart (all5 w_852 w_853 w_854 w_102 w_855) rfl rfl ⟨by decide, by decide⟩) <|
  fa1 (s_ifeq (off := 7) (by decide +kernel) (by decide)) <|
  fa1 (s_iconst (n := 1) (v := 1) (by decide +kernel) (by decide +kernel) (p32 rfl)) <|
  fa1 (s_goto (off := 4) (by decide +kernel) (by decide)) <|
  fa1 (s_iconst (n := 0) (v := 0) (by decide +kernel) (by decide +kernel) (p32 rfl)) <|
  fa1 (s_istore (j := 7) (by decide +kernel) (by decide)) <|
  fa1 (s_iload (j := 7) (by decide +kernel)) <|
  fa1 (s_ifne (off := 5) (by decide +kernel) (by decide)) <|
  fa1 (s_iconst (n := 0) (v := 0) (by decide +kernel) (by decide +kernel) (p32 rfl)) <|
  fa1 (s_zret (by decide +kernel) rfl) <|
  fa1 (s_iload (j := 6) (by decide +kernel)) <|
  fa1 (s_istore_n (kf := 3) (j := 3) (by decide +kernel) rfl (by decide)) <|
  fa1 (s_iinc (j := 4) (d := 1) (by decide +kernel) (by decide)) <|
  fa1 (s_goto (off := -186) (by decide +kernel) (by decide)) <|
  fa1 (s_iload_n (kf := 3) (j := 3) (by decide +kernel) rfl) <|
  fa1 (s_aload_n (kf := 0) (j := 0) (by decide +kernel) rfl) <|
  fa1 (s_iload_n (kf := 2) (j := 2) (by decide +kernel) rfl) <|
  fa1 (s_vcallI (n := 1) (ci := 6) (C := RX6) (T := TX6) (NF := 7) (idx := 57) (y := yX6_endAt) (by decide +kernel) (gg_X6_endAt) rfl (by decide) yv_X6_endAt (all5 w_829 w_831 w_13 w_107 w_832) rfl rfl ⟨by decide, by decide⟩) <|
  fa1 (s_cmpne (off := 7) (by decide +kernel) (by decide)) <|
  fa1 (s_iconst (n := 1) (v := 1) (by decide +kernel) (by decide +kernel) (p32 rfl)) <|
  fa1 (s_goto (off := 4) (by decide +kernel) (by decide)) <|
  fa1 (s_iconst (n := 0) (v := 0) (by decide +kernel) (by decide +kernel) (p32 rfl)) <|
  fa1 (s_zret (by decide +kernel) rfl) <| fa0
theorem gg_X6_fits {G : Wp} {l : Launch} : GoodM loC G l yX6_fits cX6_fits 9 (some .boolean) rm_X6_fits f_X6_fits := met_of kt_X6_fits (lkp_snd (ks_X6_fits G l)) (by decide +kernel) rfl (by decide)
noncomputable def k_X9_faceOf : List (Nat × Ins) := [
  (0, i_iload 1 1),
  (1, i_iflt 4 21),
  (4, i_iload 5 1),
  (5, i_aload 6 0),
  (6, i_getI 9 9 5),
  (9, i_cmpge 12 21),
  (12, i_aload 13 0),
  (13, i_getR 16 9 27 (fun _ => 5)),
  (16, i_iload 17 1),
  (17, i_aldR 18 27 8 lnC (fun _ i => 7 + 4 * i)),
  (18, i_goto 22),
  (21, i_push 22 (.inr (.inr none))),
  (22, i_aret)]
noncomputable def kc_X9_faceOf : Nat → Option Ins := lkp k_X9_faceOf
noncomputable def f_X9_faceOf : List AV → Mem → Option Rs := den 2 kc_X9_faceOf
abbrev rm_X9_faceOf : Room := { frames := 0, cells := 0, slots := 0, locals := 0 }
set_option maxRecDepth 100000 in
theorem kt_X9_faceOf : TriC kc_X9_faceOf := lkp_tri (fa1 (tri_iload 1 1) (fa1 (tri_iflt 4 21) (fa1 (tri_iload 5 1) (fa1 (tri_aload 6 0) (fa1 (tri_getI 9 9 5) (fa1 (tri_cmpge 12 21) (fa1 (tri_aload 13 0) (fa1 (tri_getR 16 9 27 (fun _ => 5)) (fa1 (tri_iload 17 1) (fa1 (tri_aldR 18 27 8 lnC (fun _ i => 7 + 4 * i)) (fa1 (tri_goto 22) (fa1 (tri_push 22 (.inr (.inr none))) (fa1 (tri_aret) (fa0))))))))))))))
set_option maxRecDepth 100000 in
set_option maxHeartbeats 4000000 in
theorem ks_X9_faceOf (G : Wp) (l : Launch) : ∀ e ∈ k_X9_faceOf, Snd loC G l RX9 cX9_faceOf 2 (some (.object "ShownLibrary$Term")) rm_X9_faceOf e.1 e.2 :=
  fa1 (s_iload_n (kf := 1) (j := 1) (by decide +kernel) rfl) <|
  fa1 (s_iflt (off := 20) (by decide +kernel) (by decide)) <|
  fa1 (s_iload_n (kf := 1) (j := 1) (by decide +kernel) rfl) <|
  fa1 (s_aload_n (kf := 0) (j := 0) (by decide +kernel) rfl) <|
  fa1 (s_getI (ci := 9) (f := 5) (idx := 33) (C := RX9) (T := TX9) (NF := 6) (by decide +kernel) rfl (by decide) inG_X9 (by decide) w_160 li_X9_5) <|
  fa1 (s_cmpge (off := 12) (by decide +kernel) (by decide)) <|
  fa1 (s_aload_n (kf := 0) (j := 0) (by decide +kernel) rfl) <|
  fa1 (s_getR (t2 := 27) (g := (fun _ => 5)) (ci := 9) (f := 3) (idx := 23) (C := RX9) (T := TX9) (NF := 6) (by decide +kernel) rfl (by decide) inG_X9 (by decide) w_158 lr_X9_3 (by decide)) <|
  fa1 (s_iload_n (kf := 1) (j := 1) (by decide +kernel) rfl) <|
  fa1 (s_aldR (t := 27) (t2 := 8) (g := (fun _ i => 7 + 4 * i)) (by decide +kernel) (by decide) (by decide) rfl (by decide) le_27) <|
  fa1 (s_goto (off := 4) (by decide +kernel) (by decide)) <|
  fa1 (s_null (by decide +kernel)) <|
  fa1 (s_aret (by decide +kernel) rfl (Or.inl ⟨_, rfl⟩)) <| fa0
theorem gg_X9_faceOf {G : Wp} {l : Launch} : GoodM loC G l yX9_faceOf cX9_faceOf 2 (some (.object "ShownLibrary$Term")) rm_X9_faceOf f_X9_faceOf := met_of kt_X9_faceOf (lkp_snd (ks_X9_faceOf G l)) (by decide +kernel) rfl (by decide)
noncomputable def k_X6_go : List (Nat × Ins) := [
  (0, i_aload 1 0),
  (1, i_push 3 (.inl (-4))),
  (3, i_putI 6 6 6),
  (6, i_iload 7 3),
  (7, i_iflt 10 21),
  (10, i_iload 11 3),
  (11, i_aload 12 0),
  (12, i_getM 15 6 2 8),
  (15, i_getI 18 8 1),
  (18, i_cmplt 21 24),
  (21, i_push 23 (.inl (-20))),
  (23, i_iret),
  (24, i_iload 25 1),
  (25, i_ifeq 28 33),
  (28, i_iload 29 1),
  (29, i_push 30 (.inl 1)),
  (30, i_cmpne 33 110),
  (33, i_iload 34 2),
  (34, i_iload 36 4),
  (36, i_cmpne 39 43),
  (39, i_push 40 (.inr (.inr none))),
  (40, i_goto 51),
  (43, i_aload 44 0),
  (44, i_getR 47 6 3 (fun _ => 23)),
  (47, i_iload 48 2),
  (48, i_callR 51 2 2 (rcv 3) f_X3_get),
  (51, i_astore 53 8),
  (53, i_aload 55 8),
  (55, i_ifnull 58 66),
  (58, i_aload 60 8),
  (60, i_callI 63 1 (rcv 2) f_X2_isUsable),
  (63, i_ifne 66 69),
  (66, i_push 68 (.inl (-21))),
  (68, i_iret),
  (69, i_iload 70 1),
  (70, i_ifne 73 81),
  (73, i_aload 75 8),
  (75, i_getR 78 2 8 (fun c => c + 1)),
  (78, i_goto 86),
  (81, i_aload 83 8),
  (83, i_getR 86 2 8 (fun c => c + 3)),
  (86, i_astore 88 6),
  (88, i_iload 89 1),
  (89, i_ifne 92 100),
  (92, i_aload 94 8),
  (94, i_getR 97 2 8 (fun c => c + 3)),
  (97, i_goto 105),
  (100, i_aload 102 8),
  (102, i_getR 105 2 8 (fun c => c + 1)),
  (105, i_astore 107 7),
  (107, i_goto 215),
  (110, i_aload 111 0),
  (111, i_iload 112 1),
  (112, i_push 113 (.inl 2)),
  (113, i_cmpne 116 134),
  (116, i_aload 117 0),
  (117, i_getR 120 6 9 (fun _ => 1)),
  (120, i_aload 121 0),
  (121, i_getM 124 6 2 8),
  (124, i_iload 125 3),
  (125, i_callI 128 2 (rcv 8) f_X8_at),
  (128, i_callI 131 2 (rcv 9) f_X9_numberOf),
  (131, i_goto 135),
  (134, i_iload 135 2),
  (135, i_putI 138 6 6),
  (138, i_iload 139 1),
  (139, i_push 140 (.inl 2)),
  (140, i_cmpne 143 157),
  (143, i_aload 144 0),
  (144, i_getR 147 6 9 (fun _ => 1)),
  (147, i_aload 148 0),
  (148, i_getI 151 6 6),
  (151, i_callR 154 2 8 (rcv 9) f_X9_faceOf),
  (154, i_goto 168),
  (157, i_aload 158 0),
  (158, i_getR 161 6 9 (fun _ => 1)),
  (161, i_aload 162 0),
  (162, i_getI 165 6 6),
  (165, i_callR 168 2 8 (rcv 9) f_X9_meaningOf),
  (168, i_astore 170 6),
  (170, i_iload 171 1),
  (171, i_push 172 (.inl 2)),
  (172, i_cmpne 175 189),
  (175, i_aload 176 0),
  (176, i_getR 179 6 9 (fun _ => 1)),
  (179, i_aload 180 0),
  (180, i_getI 183 6 6),
  (183, i_callR 186 2 8 (rcv 9) f_X9_meaningOf),
  (186, i_goto 200),
  (189, i_aload 190 0),
  (190, i_getR 193 6 9 (fun _ => 1)),
  (193, i_aload 194 0),
  (194, i_getI 197 6 6),
  (197, i_callR 200 2 8 (rcv 9) f_X9_faceOf),
  (200, i_astore 202 7),
  (202, i_aload 204 6),
  (204, i_ifnull 207 212),
  (207, i_aload 209 7),
  (209, i_ifnonnull 212 215),
  (212, i_push 214 (.inl (-21))),
  (214, i_iret),
  (215, i_aload 216 0),
  (216, i_aload 218 6),
  (218, i_iload 219 3),
  (219, i_callI 222 3 (rcv 6) f_X6_fits),
  (222, i_ifeq 225 237),
  (225, i_aload 226 0),
  (226, i_aload 228 7),
  (228, i_iload 229 3),
  (229, i_aload 231 5),
  (231, i_callI 234 4 (rcv 6) f_X6_becomes),
  (234, i_goto 239),
  (237, i_push 239 (.inl (-22))),
  (239, i_iret)]
noncomputable def kc_X6_go : Nat → Option Ins := lkp k_X6_go
noncomputable def f_X6_go : List AV → Mem → Option Rs := den 9 kc_X6_go
abbrev rm_X6_go : Room := { frames := 2, cells := 0, slots := 0, locals := 53 }
set_option maxRecDepth 100000 in
theorem kt_X6_go : TriC kc_X6_go := lkp_tri (fa1 (tri_aload 1 0) (fa1 (tri_push 3 (.inl (-4))) (fa1 (tri_putI 6 6 6) (fa1 (tri_iload 7 3) (fa1 (tri_iflt 10 21) (fa1 (tri_iload 11 3) (fa1 (tri_aload 12 0) (fa1 (tri_getM 15 6 2 8) (fa1 (tri_getI 18 8 1) (fa1 (tri_cmplt 21 24) (fa1 (tri_push 23 (.inl (-20))) (fa1 (tri_iret) (fa1 (tri_iload 25 1) (fa1 (tri_ifeq 28 33) (fa1 (tri_iload 29 1) (fa1 (tri_push 30 (.inl 1)) (fa1 (tri_cmpne 33 110) (fa1 (tri_iload 34 2) (fa1 (tri_iload 36 4) (fa1 (tri_cmpne 39 43) (fa1 (tri_push 40 (.inr (.inr none))) (fa1 (tri_goto 51) (fa1 (tri_aload 44 0) (fa1 (tri_getR 47 6 3 (fun _ => 23)) (fa1 (tri_iload 48 2) (fa1 (tri_callR 51 2 2 (rcv 3) f_X3_get) (fa1 (tri_astore 53 8) (fa1 (tri_aload 55 8) (fa1 (tri_ifnull 58 66) (fa1 (tri_aload 60 8) (fa1 (tri_callI 63 1 (rcv 2) f_X2_isUsable) (fa1 (tri_ifne 66 69) (fa1 (tri_push 68 (.inl (-21))) (fa1 (tri_iret) (fa1 (tri_iload 70 1) (fa1 (tri_ifne 73 81) (fa1 (tri_aload 75 8) (fa1 (tri_getR 78 2 8 (fun c => c + 1)) (fa1 (tri_goto 86) (fa1 (tri_aload 83 8) (fa1 (tri_getR 86 2 8 (fun c => c + 3)) (fa1 (tri_astore 88 6) (fa1 (tri_iload 89 1) (fa1 (tri_ifne 92 100) (fa1 (tri_aload 94 8) (fa1 (tri_getR 97 2 8 (fun c => c + 3)) (fa1 (tri_goto 105) (fa1 (tri_aload 102 8) (fa1 (tri_getR 105 2 8 (fun c => c + 1)) (fa1 (tri_astore 107 7) (fa1 (tri_goto 215) (fa1 (tri_aload 111 0) (fa1 (tri_iload 112 1) (fa1 (tri_push 113 (.inl 2)) (fa1 (tri_cmpne 116 134) (fa1 (tri_aload 117 0) (fa1 (tri_getR 120 6 9 (fun _ => 1)) (fa1 (tri_aload 121 0) (fa1 (tri_getM 124 6 2 8) (fa1 (tri_iload 125 3) (fa1 (tri_callI 128 2 (rcv 8) f_X8_at) (fa1 (tri_callI 131 2 (rcv 9) f_X9_numberOf) (fa1 (tri_goto 135) (fa1 (tri_iload 135 2) (fa1 (tri_putI 138 6 6) (fa1 (tri_iload 139 1) (fa1 (tri_push 140 (.inl 2)) (fa1 (tri_cmpne 143 157) (fa1 (tri_aload 144 0) (fa1 (tri_getR 147 6 9 (fun _ => 1)) (fa1 (tri_aload 148 0) (fa1 (tri_getI 151 6 6) (fa1 (tri_callR 154 2 8 (rcv 9) f_X9_faceOf) (fa1 (tri_goto 168) (fa1 (tri_aload 158 0) (fa1 (tri_getR 161 6 9 (fun _ => 1)) (fa1 (tri_aload 162 0) (fa1 (tri_getI 165 6 6) (fa1 (tri_callR 168 2 8 (rcv 9) f_X9_meaningOf) (fa1 (tri_astore 170 6) (fa1 (tri_iload 171 1) (fa1 (tri_push 172 (.inl 2)) (fa1 (tri_cmpne 175 189) (fa1 (tri_aload 176 0) (fa1 (tri_getR 179 6 9 (fun _ => 1)) (fa1 (tri_aload 180 0) (fa1 (tri_getI 183 6 6) (fa1 (tri_callR 186 2 8 (rcv 9) f_X9_meaningOf) (fa1 (tri_goto 200) (fa1 (tri_aload 190 0) (fa1 (tri_getR 193 6 9 (fun _ => 1)) (fa1 (tri_aload 194 0) (fa1 (tri_getI 197 6 6) (fa1 (tri_callR 200 2 8 (rcv 9) f_X9_faceOf) (fa1 (tri_astore 202 7) (fa1 (tri_aload 204 6) (fa1 (tri_ifnull 207 212) (fa1 (tri_aload 209 7) (fa1 (tri_ifnonnull 212 215) (fa1 (tri_push 214 (.inl (-21))) (fa1 (tri_iret) (fa1 (tri_aload 216 0) (fa1 (tri_aload 218 6) (fa1 (tri_iload 219 3) (fa1 (tri_callI 222 3 (rcv 6) f_X6_fits) (fa1 (tri_ifeq 225 237) (fa1 (tri_aload 226 0) (fa1 (tri_aload 228 7) (fa1 (tri_iload 229 3) (fa1 (tri_aload 231 5) (fa1 (tri_callI 234 4 (rcv 6) f_X6_becomes) (fa1 (tri_goto 239) (fa1 (tri_push 239 (.inl (-22))) (fa1 (tri_iret) (fa0)))))))))))))))))))))))))))))))))))))))))))))))))))))))))))))))))))))))))))))))))))))))))))))))))))))))))))))))))))
set_option maxRecDepth 100000 in
set_option maxHeartbeats 4000000 in
theorem ks_X6_go (G : Wp) (l : Launch) : ∀ e ∈ k_X6_go, Snd loC G l RX6 cX6_go 9 (some .int) rm_X6_go e.1 e.2 :=
  fa1 (s_aload_n (kf := 0) (j := 0) (by decide +kernel) rfl) <|
  fa1 (s_bipush (n := -4) (v := -4) (by decide +kernel) (by decide +kernel) (p32 rfl)) <|
  fa1 (s_putI (ci := 6) (f := 6) (idx := 60) (C := RX6) (T := TX6) (NF := 7) (by decide +kernel) rfl (by decide) inG_X6 (by decide) w_345 tyX6 tyX6_ok nmX6 rfl (by decide +kernel) li_X6_6) <|
  fa1 (s_iload_n (kf := 3) (j := 3) (by decide +kernel) rfl) <|
  fa1 (s_iflt (off := 14) (by decide +kernel) (by decide)) <|
  fa1 (s_iload_n (kf := 3) (j := 3) (by decide +kernel) rfl) <|
  fa1 (s_aload_n (kf := 0) (j := 0) (by decide +kernel) rfl) <|
  fa1 (s_getM (ci := 6) (f := 2) (idx := 14) (C := RX6) (T := TX6) (NF := 7) (by decide +kernel) rfl (by decide) inG_X6 (by decide) w_341 lm_X6_2) <|
  fa1 (s_getI (ci := 8) (f := 1) (idx := 38) (C := RX8) (T := TX8) (NF := 2) (by decide +kernel) rfl (by decide) inG_X8 (by decide) w_141 li_X8_1) <|
  fa1 (s_cmplt (off := 6) (by decide +kernel) (by decide)) <|
  fa1 (s_bipush (n := -20) (v := -20) (by decide +kernel) (by decide +kernel) (p32 rfl)) <|
  fa1 (s_iret (by decide +kernel) rfl) <|
  fa1 (s_iload_n (kf := 1) (j := 1) (by decide +kernel) rfl) <|
  fa1 (s_ifeq (off := 8) (by decide +kernel) (by decide)) <|
  fa1 (s_iload_n (kf := 1) (j := 1) (by decide +kernel) rfl) <|
  fa1 (s_iconst (n := 1) (v := 1) (by decide +kernel) (by decide +kernel) (p32 rfl)) <|
  fa1 (s_cmpne (off := 80) (by decide +kernel) (by decide)) <|
  fa1 (s_iload_n (kf := 2) (j := 2) (by decide +kernel) rfl) <|
  fa1 (s_iload (j := 4) (by decide +kernel)) <|
  fa1 (s_cmpne (off := 7) (by decide +kernel) (by decide)) <|
  fa1 (s_null (by decide +kernel)) <|
  fa1 (s_goto (off := 11) (by decide +kernel) (by decide)) <|
  fa1 (s_aload_n (kf := 0) (j := 0) (by decide +kernel) rfl) <|
  fa1 (s_getR (t2 := 3) (g := (fun _ => 23)) (ci := 6) (f := 1) (idx := 34) (C := RX6) (T := TX6) (NF := 7) (by decide +kernel) rfl (by decide) inG_X6 (by decide) w_340 lr_X6_1 (by decide)) <|
  fa1 (s_iload_n (kf := 2) (j := 2) (by decide +kernel) rfl) <|
  fa1 (s_vcallR (t := 2) (n := 1) (ci := 3) (C := RX3) (T := TX3) (NF := 11) (idx := 63) (y := yX3_get) (by decide +kernel) (gg_X3_get) rfl (by decide) yv_X3_get (all5 w_837 w_736 w_737 w_104 w_738) rfl rfl ⟨by decide, by decide⟩) <|
  fa1 (s_astore (j := 8) (by decide +kernel) (by decide)) <|
  fa1 (s_aload (j := 8) (by decide +kernel)) <|
  fa1 (s_ifnull (off := 11) (by decide +kernel) (by decide)) <|
  fa1 (s_aload (j := 8) (by decide +kernel)) <|
  fa1 (s_vcallI (n := 0) (ci := 2) (C := RX2) (T := TX2) (NF := 11) (idx := 69) (y := yX2_isUsable) (by decide +kernel) (gg_X2_isUsable) rfl (by decide) yv_X2_isUsable (all5 w_838 w_839 w_840 w_105 w_841) rfl rfl ⟨by decide, by decide⟩) <|
  fa1 (s_ifne (off := 6) (by decide +kernel) (by decide)) <|
  fa1 (s_bipush (n := -21) (v := -21) (by decide +kernel) (by decide +kernel) (p32 rfl)) <|
  fa1 (s_iret (by decide +kernel) rfl) <|
  fa1 (s_iload_n (kf := 1) (j := 1) (by decide +kernel) rfl) <|
  fa1 (s_ifne (off := 11) (by decide +kernel) (by decide)) <|
  fa1 (s_aload (j := 8) (by decide +kernel)) <|
  fa1 (s_getR (t2 := 8) (g := (fun c => c + 1)) (ci := 2) (f := 0) (idx := 75) (C := RX2) (T := TX2) (NF := 11) (by decide +kernel) rfl (by decide) inG_X2 (by decide) w_197 lr_X2_0 (by decide)) <|
  fa1 (s_goto (off := 8) (by decide +kernel) (by decide)) <|
  fa1 (s_aload (j := 8) (by decide +kernel)) <|
  fa1 (s_getR (t2 := 8) (g := (fun c => c + 3)) (ci := 2) (f := 1) (idx := 78) (C := RX2) (T := TX2) (NF := 11) (by decide +kernel) rfl (by decide) inG_X2 (by decide) w_204 lr_X2_1 (by decide)) <|
  fa1 (s_astore (j := 6) (by decide +kernel) (by decide)) <|
  fa1 (s_iload_n (kf := 1) (j := 1) (by decide +kernel) rfl) <|
  fa1 (s_ifne (off := 11) (by decide +kernel) (by decide)) <|
  fa1 (s_aload (j := 8) (by decide +kernel)) <|
  fa1 (s_getR (t2 := 8) (g := (fun c => c + 3)) (ci := 2) (f := 1) (idx := 78) (C := RX2) (T := TX2) (NF := 11) (by decide +kernel) rfl (by decide) inG_X2 (by decide) w_204 lr_X2_1 (by decide)) <|
  fa1 (s_goto (off := 8) (by decide +kernel) (by decide)) <|
  fa1 (s_aload (j := 8) (by decide +kernel)) <|
  fa1 (s_getR (t2 := 8) (g := (fun c => c + 1)) (ci := 2) (f := 0) (idx := 75) (C := RX2) (T := TX2) (NF := 11) (by decide +kernel) rfl (by decide) inG_X2 (by decide) w_197 lr_X2_0 (by decide)) <|
  fa1 (s_astore (j := 7) (by decide +kernel) (by decide)) <|
  fa1 (s_goto (off := 108) (by decide +kernel) (by decide)) <|
  fa1 (s_aload_n (kf := 0) (j := 0) (by decide +kernel) rfl) <|
  fa1 (s_iload_n (kf := 1) (j := 1) (by decide +kernel) rfl) <|
  fa1 (s_iconst (n := 2) (v := 2) (by decide +kernel) (by decide +kernel) (p32 rfl)) <|
  fa1 (s_cmpne (off := 21) (by decide +kernel) (by decide)) <|
  fa1 (s_aload_n (kf := 0) (j := 0) (by decide +kernel) rfl) <|
  fa1 (s_getR (t2 := 9) (g := (fun _ => 1)) (ci := 6) (f := 0) (idx := 30) (C := RX6) (T := TX6) (NF := 7) (by decide +kernel) rfl (by decide) inG_X6 (by decide) w_339 lr_X6_0 (by decide)) <|
  fa1 (s_aload_n (kf := 0) (j := 0) (by decide +kernel) rfl) <|
  fa1 (s_getM (ci := 6) (f := 2) (idx := 14) (C := RX6) (T := TX6) (NF := 7) (by decide +kernel) rfl (by decide) inG_X6 (by decide) w_341 lm_X6_2) <|
  fa1 (s_iload_n (kf := 3) (j := 3) (by decide +kernel) rfl) <|
  fa1 (s_vcallI (n := 1) (ci := 8) (C := RX8) (T := TX8) (NF := 2) (idx := 48) (y := yX8_at) (by decide +kernel) (gg_X8_at) rfl (by decide) yv_X8_at (all5 w_827 w_667 w_668 w_102 w_669) rfl rfl ⟨by decide, by decide⟩) <|
  fa1 (s_vcallI (n := 1) (ci := 9) (C := RX9) (T := TX9) (NF := 6) (idx := 81) (y := yX9_numberOf) (by decide +kernel) (gg_X9_numberOf) rfl (by decide) yv_X9_numberOf (all5 w_842 w_651 w_652 w_101 w_653) rfl rfl ⟨by decide, by decide⟩) <|
  fa1 (s_goto (off := 4) (by decide +kernel) (by decide)) <|
  fa1 (s_iload_n (kf := 2) (j := 2) (by decide +kernel) rfl) <|
  fa1 (s_putI (ci := 6) (f := 6) (idx := 60) (C := RX6) (T := TX6) (NF := 7) (by decide +kernel) rfl (by decide) inG_X6 (by decide) w_345 tyX6 tyX6_ok nmX6 rfl (by decide +kernel) li_X6_6) <|
  fa1 (s_iload_n (kf := 1) (j := 1) (by decide +kernel) rfl) <|
  fa1 (s_iconst (n := 2) (v := 2) (by decide +kernel) (by decide +kernel) (p32 rfl)) <|
  fa1 (s_cmpne (off := 17) (by decide +kernel) (by decide)) <|
  fa1 (s_aload_n (kf := 0) (j := 0) (by decide +kernel) rfl) <|
  fa1 (s_getR (t2 := 9) (g := (fun _ => 1)) (ci := 6) (f := 0) (idx := 30) (C := RX6) (T := TX6) (NF := 7) (by decide +kernel) rfl (by decide) inG_X6 (by decide) w_339 lr_X6_0 (by decide)) <|
  fa1 (s_aload_n (kf := 0) (j := 0) (by decide +kernel) rfl) <|
  fa1 (s_getI (ci := 6) (f := 6) (idx := 60) (C := RX6) (T := TX6) (NF := 7) (by decide +kernel) rfl (by decide) inG_X6 (by decide) w_345 li_X6_6) <|
  fa1 (s_vcallR (t := 8) (n := 1) (ci := 9) (C := RX9) (T := TX9) (NF := 6) (idx := 84) (y := yX9_faceOf) (by decide +kernel) (gg_X9_faceOf) rfl (by decide) yv_X9_faceOf (all5 w_843 w_844 w_845 w_101 w_846) rfl rfl ⟨by decide, by decide⟩) <|
  fa1 (s_goto (off := 14) (by decide +kernel) (by decide)) <|
  fa1 (s_aload_n (kf := 0) (j := 0) (by decide +kernel) rfl) <|
  fa1 (s_getR (t2 := 9) (g := (fun _ => 1)) (ci := 6) (f := 0) (idx := 30) (C := RX6) (T := TX6) (NF := 7) (by decide +kernel) rfl (by decide) inG_X6 (by decide) w_339 lr_X6_0 (by decide)) <|
  fa1 (s_aload_n (kf := 0) (j := 0) (by decide +kernel) rfl) <|
  fa1 (s_getI (ci := 6) (f := 6) (idx := 60) (C := RX6) (T := TX6) (NF := 7) (by decide +kernel) rfl (by decide) inG_X6 (by decide) w_345 li_X6_6) <|
  fa1 (s_vcallR (t := 8) (n := 1) (ci := 9) (C := RX9) (T := TX9) (NF := 6) (idx := 88) (y := yX9_meaningOf) (by decide +kernel) (gg_X9_meaningOf) rfl (by decide) yv_X9_meaningOf (all5 w_847 w_765 w_766 w_101 w_767) rfl rfl ⟨by decide, by decide⟩) <|
  fa1 (s_astore (j := 6) (by decide +kernel) (by decide)) <|
  fa1 (s_iload_n (kf := 1) (j := 1) (by decide +kernel) rfl) <|
  fa1 (s_iconst (n := 2) (v := 2) (by decide +kernel) (by decide +kernel) (p32 rfl)) <|
  fa1 (s_cmpne (off := 17) (by decide +kernel) (by decide)) <|
  fa1 (s_aload_n (kf := 0) (j := 0) (by decide +kernel) rfl) <|
  fa1 (s_getR (t2 := 9) (g := (fun _ => 1)) (ci := 6) (f := 0) (idx := 30) (C := RX6) (T := TX6) (NF := 7) (by decide +kernel) rfl (by decide) inG_X6 (by decide) w_339 lr_X6_0 (by decide)) <|
  fa1 (s_aload_n (kf := 0) (j := 0) (by decide +kernel) rfl) <|
  fa1 (s_getI (ci := 6) (f := 6) (idx := 60) (C := RX6) (T := TX6) (NF := 7) (by decide +kernel) rfl (by decide) inG_X6 (by decide) w_345 li_X6_6) <|
  fa1 (s_vcallR (t := 8) (n := 1) (ci := 9) (C := RX9) (T := TX9) (NF := 6) (idx := 88) (y := yX9_meaningOf) (by decide +kernel) (gg_X9_meaningOf) rfl (by decide) yv_X9_meaningOf (all5 w_847 w_765 w_766 w_101 w_767) rfl rfl ⟨by decide, by decide⟩) <|
  fa1 (s_goto (off := 14) (by decide +kernel) (by decide)) <|
  fa1 (s_aload_n (kf := 0) (j := 0) (by decide +kernel) rfl) <|
  fa1 (s_getR (t2 := 9) (g := (fun _ => 1)) (ci := 6) (f := 0) (idx := 30) (C := RX6) (T := TX6) (NF := 7) (by decide +kernel) rfl (by decide) inG_X6 (by decide) w_339 lr_X6_0 (by decide)) <|
  fa1 (s_aload_n (kf := 0) (j := 0) (by decide +kernel) rfl) <|
  fa1 (s_getI (ci := 6) (f := 6) (idx := 60) (C := RX6) (T := TX6) (NF := 7) (by decide +kernel) rfl (by decide) inG_X6 (by decide) w_345 li_X6_6) <|
  fa1 (s_vcallR (t := 8) (n := 1) (ci := 9) (C := RX9) (T := TX9) (NF := 6) (idx := 84) (y := yX9_faceOf) (by decide +kernel) (gg_X9_faceOf) rfl (by decide) yv_X9_faceOf (all5 w_843 w_844 w_845 w_101 w_846) rfl rfl ⟨by decide, by decide⟩) <|
  fa1 (s_astore (j := 7) (by decide +kernel) (by decide)) <|
  fa1 (s_aload (j := 6) (by decide +kernel)) <|
  fa1 (s_ifnull (off := 8) (by decide +kernel) (by decide)) <|
  fa1 (s_aload (j := 7) (by decide +kernel)) <|
  fa1 (s_ifnonnull (off := 6) (by decide +kernel) (by decide)) <|
  fa1 (s_bipush (n := -21) (v := -21) (by decide +kernel) (by decide +kernel) (p32 rfl)) <|
  fa1 (s_iret (by decide +kernel) rfl) <|
  fa1 (s_aload_n (kf := 0) (j := 0) (by decide +kernel) rfl) <|
  fa1 (s_aload (j := 6) (by decide +kernel)) <|
  fa1 (s_iload_n (kf := 3) (j := 3) (by decide +kernel) rfl) <|
  fa1 (s_vcallI (n := 2) (ci := 6) (C := RX6) (T := TX6) (NF := 7) (idx := 91) (y := yX6_fits) (by decide +kernel) (gg_X6_fits) rfl (by decide) yv_X6_fits (all5 w_848 w_850 w_14 w_107 w_851) rfl rfl ⟨by decide, by decide⟩) <|
  fa1 (s_ifeq (off := 15) (by decide +kernel) (by decide)) <|
  fa1 (s_aload_n (kf := 0) (j := 0) (by decide +kernel) rfl) <|
  fa1 (s_aload (j := 7) (by decide +kernel)) <|
  fa1 (s_iload_n (kf := 3) (j := 3) (by decide +kernel) rfl) <|
  fa1 (s_aload (j := 5) (by decide +kernel)) <|
  fa1 (s_vcallI (n := 3) (ci := 6) (C := RX6) (T := TX6) (NF := 7) (idx := 95) (y := yX6_becomes) (by decide +kernel) (gg_X6_becomes) rfl (by decide) yv_X6_becomes (all5 w_856 w_858 w_15 w_107 w_859) rfl rfl ⟨by decide, by decide⟩) <|
  fa1 (s_goto (off := 5) (by decide +kernel) (by decide)) <|
  fa1 (s_bipush (n := -22) (v := -22) (by decide +kernel) (by decide +kernel) (p32 rfl)) <|
  fa1 (s_iret (by decide +kernel) rfl) <| fa0
theorem gg_X6_go {G : Wp} {l : Launch} : GoodM loC G l yX6_go cX6_go 9 (some .int) rm_X6_go f_X6_go := met_of kt_X6_go (lkp_snd (ks_X6_go G l)) (by decide +kernel) rfl (by decide)
noncomputable def k_X6_look : List (Nat × Ins) := [
  (0, i_aload 1 0),
  (1, i_aload 2 1),
  (2, i_putM 5 6 2 8),
  (5, i_aload 6 1),
  (6, i_getI 9 8 1),
  (9, i_push 11 (.inl 20)),
  (11, i_mm 14 mMin),
  (14, i_push 15 (.inl 1)),
  (15, i_bin 16 (fun x y => wr (x - y))),
  (16, i_istore 17 2),
  (17, i_iload 18 2),
  (18, i_iflt 21 76),
  (21, i_aload 22 0),
  (22, i_getR 25 6 9 (fun _ => 1)),
  (25, i_aload 26 1),
  (26, i_iload 27 2),
  (27, i_callI 30 2 (rcv 8) f_X8_at),
  (30, i_callI 33 2 (rcv 9) f_X9_behind),
  (33, i_istore 34 3),
  (34, i_iload 35 2),
  (35, i_push 36 (.inl 1)),
  (36, i_bin 37 (fun x y => wr (x + y))),
  (37, i_istore 39 4),
  (39, i_push 40 (.inl 0)),
  (40, i_istore 42 5),
  (42, i_iload 44 5),
  (44, i_iload 45 3),
  (45, i_cmpge 48 62),
  (48, i_aload 49 0),
  (49, i_iload 51 4),
  (51, i_callI 54 2 (rcv 6) f_X6_endAt),
  (54, i_istore 56 4),
  (56, i_iinc 59 5 (1)),
  (59, i_goto 42),
  (62, i_aload 63 0),
  (63, i_getR 66 6 20 (fun _ => 160)),
  (66, i_iload 67 2),
  (67, i_iload 69 4),
  (69, i_ast 70 20 lnC id),
  (70, i_iinc 73 2 (-1)),
  (73, i_goto 17),
  (76, i_vret)]
noncomputable def kc_X6_look : Nat → Option Ins := lkp k_X6_look
noncomputable def f_X6_look : List AV → Mem → Option Rs := den 6 kc_X6_look
abbrev rm_X6_look : Room := { frames := 1, cells := 0, slots := 0, locals := 22 }
set_option maxRecDepth 100000 in
theorem kt_X6_look : TriC kc_X6_look := lkp_tri (fa1 (tri_aload 1 0) (fa1 (tri_aload 2 1) (fa1 (tri_putM 5 6 2 8) (fa1 (tri_aload 6 1) (fa1 (tri_getI 9 8 1) (fa1 (tri_push 11 (.inl 20)) (fa1 (tri_mm 14 mMin) (fa1 (tri_push 15 (.inl 1)) (fa1 (tri_bin 16 (fun x y => wr (x - y))) (fa1 (tri_istore 17 2) (fa1 (tri_iload 18 2) (fa1 (tri_iflt 21 76) (fa1 (tri_aload 22 0) (fa1 (tri_getR 25 6 9 (fun _ => 1)) (fa1 (tri_aload 26 1) (fa1 (tri_iload 27 2) (fa1 (tri_callI 30 2 (rcv 8) f_X8_at) (fa1 (tri_callI 33 2 (rcv 9) f_X9_behind) (fa1 (tri_istore 34 3) (fa1 (tri_iload 35 2) (fa1 (tri_push 36 (.inl 1)) (fa1 (tri_bin 37 (fun x y => wr (x + y))) (fa1 (tri_istore 39 4) (fa1 (tri_push 40 (.inl 0)) (fa1 (tri_istore 42 5) (fa1 (tri_iload 44 5) (fa1 (tri_iload 45 3) (fa1 (tri_cmpge 48 62) (fa1 (tri_aload 49 0) (fa1 (tri_iload 51 4) (fa1 (tri_callI 54 2 (rcv 6) f_X6_endAt) (fa1 (tri_istore 56 4) (fa1 (tri_iinc 59 5 (1)) (fa1 (tri_goto 42) (fa1 (tri_aload 63 0) (fa1 (tri_getR 66 6 20 (fun _ => 160)) (fa1 (tri_iload 67 2) (fa1 (tri_iload 69 4) (fa1 (tri_ast 70 20 lnC id) (fa1 (tri_iinc 73 2 (-1)) (fa1 (tri_goto 17) (fa1 (tri_vret) (fa0)))))))))))))))))))))))))))))))))))))))))))
set_option maxRecDepth 100000 in
set_option maxHeartbeats 4000000 in
theorem ks_X6_look (G : Wp) (l : Launch) : ∀ e ∈ k_X6_look, Snd loC G l RX6 cX6_look 6 none rm_X6_look e.1 e.2 :=
  fa1 (s_aload_n (kf := 0) (j := 0) (by decide +kernel) rfl) <|
  fa1 (s_aload_n (kf := 1) (j := 1) (by decide +kernel) rfl) <|
  fa1 (s_putM (tn := "ShownLibrary$Term") (ci := 6) (f := 2) (idx := 14) (C := RX6) (T := TX6) (NF := 7) (by decide +kernel) rfl (by decide) inG_X6 (by decide) w_341 tyX6 tyX6_ok nmX6 rfl (by decide +kernel) lm_X6_2) <|
  fa1 (s_aload_n (kf := 1) (j := 1) (by decide +kernel) rfl) <|
  fa1 (s_getI (ci := 8) (f := 1) (idx := 38) (C := RX8) (T := TX8) (NF := 2) (by decide +kernel) rfl (by decide) inG_X8 (by decide) w_141 li_X8_1) <|
  fa1 (s_bipush (n := 20) (v := 20) (by decide +kernel) (by decide +kernel) (p32 rfl)) <|
  fa1 (s_mmin (idx := 42) (by decide +kernel) w_826 w_711 w_103 w_712 (by decide) (by decide)) <|
  fa1 (s_iconst (n := 1) (v := 1) (by decide +kernel) (by decide +kernel) (p32 rfl)) <|
  fa1 (s_isub (by decide +kernel)) <|
  fa1 (s_istore_n (kf := 2) (j := 2) (by decide +kernel) rfl (by decide)) <|
  fa1 (s_iload_n (kf := 2) (j := 2) (by decide +kernel) rfl) <|
  fa1 (s_iflt (off := 58) (by decide +kernel) (by decide)) <|
  fa1 (s_aload_n (kf := 0) (j := 0) (by decide +kernel) rfl) <|
  fa1 (s_getR (t2 := 9) (g := (fun _ => 1)) (ci := 6) (f := 0) (idx := 30) (C := RX6) (T := TX6) (NF := 7) (by decide +kernel) rfl (by decide) inG_X6 (by decide) w_339 lr_X6_0 (by decide)) <|
  fa1 (s_aload_n (kf := 1) (j := 1) (by decide +kernel) rfl) <|
  fa1 (s_iload_n (kf := 2) (j := 2) (by decide +kernel) rfl) <|
  fa1 (s_vcallI (n := 1) (ci := 8) (C := RX8) (T := TX8) (NF := 2) (idx := 48) (y := yX8_at) (by decide +kernel) (gg_X8_at) rfl (by decide) yv_X8_at (all5 w_827 w_667 w_668 w_102 w_669) rfl rfl ⟨by decide, by decide⟩) <|
  fa1 (s_vcallI (n := 1) (ci := 9) (C := RX9) (T := TX9) (NF := 6) (idx := 52) (y := yX9_behind) (by decide +kernel) (gg_X9_behind) rfl (by decide) yv_X9_behind (all5 w_828 w_676 w_677 w_101 w_678) rfl rfl ⟨by decide, by decide⟩) <|
  fa1 (s_istore_n (kf := 3) (j := 3) (by decide +kernel) rfl (by decide)) <|
  fa1 (s_iload_n (kf := 2) (j := 2) (by decide +kernel) rfl) <|
  fa1 (s_iconst (n := 1) (v := 1) (by decide +kernel) (by decide +kernel) (p32 rfl)) <|
  fa1 (s_iadd (by decide +kernel)) <|
  fa1 (s_istore (j := 4) (by decide +kernel) (by decide)) <|
  fa1 (s_iconst (n := 0) (v := 0) (by decide +kernel) (by decide +kernel) (p32 rfl)) <|
  fa1 (s_istore (j := 5) (by decide +kernel) (by decide)) <|
  fa1 (s_iload (j := 5) (by decide +kernel)) <|
  fa1 (s_iload_n (kf := 3) (j := 3) (by decide +kernel) rfl) <|
  fa1 (s_cmpge (off := 17) (by decide +kernel) (by decide)) <|
  fa1 (s_aload_n (kf := 0) (j := 0) (by decide +kernel) rfl) <|
  fa1 (s_iload (j := 4) (by decide +kernel)) <|
  fa1 (s_vcallI (n := 1) (ci := 6) (C := RX6) (T := TX6) (NF := 7) (idx := 57) (y := yX6_endAt) (by decide +kernel) (gg_X6_endAt) rfl (by decide) yv_X6_endAt (all5 w_829 w_831 w_13 w_107 w_832) rfl rfl ⟨by decide, by decide⟩) <|
  fa1 (s_istore (j := 4) (by decide +kernel) (by decide)) <|
  fa1 (s_iinc (j := 5) (d := 1) (by decide +kernel) (by decide)) <|
  fa1 (s_goto (off := -17) (by decide +kernel) (by decide)) <|
  fa1 (s_aload_n (kf := 0) (j := 0) (by decide +kernel) rfl) <|
  fa1 (s_getR (t2 := 20) (g := (fun _ => 160)) (ci := 6) (f := 3) (idx := 20) (C := RX6) (T := TX6) (NF := 7) (by decide +kernel) rfl (by decide) inG_X6 (by decide) w_342 lr_X6_3 (by decide)) <|
  fa1 (s_iload_n (kf := 2) (j := 2) (by decide +kernel) rfl) <|
  fa1 (s_iload (j := 4) (by decide +kernel)) <|
  fa1 (s_iast (by decide +kernel) lt_loC_20) <|
  fa1 (s_iinc (j := 2) (d := -1) (by decide +kernel) (by decide)) <|
  fa1 (s_goto (off := -56) (by decide +kernel) (by decide)) <|
  fa1 (s_vret (by decide +kernel) rfl) <| fa0
theorem gg_X6_look {G : Wp} {l : Launch} : GoodM loC G l yX6_look cX6_look 6 none rm_X6_look f_X6_look := met_of kt_X6_look (lkp_snd (ks_X6_look G l)) (by decide +kernel) rfl (by decide)
noncomputable def k_X1_go : List (Nat × Ins) := [
  (0, i_aload 1 0),
  (1, i_getI 4 1 8),
  (4, i_push 6 (.inl 20)),
  (6, i_cmplt 9 12),
  (9, i_push 11 (.inl (-3))),
  (11, i_iret),
  (12, i_aload 13 0),
  (13, i_getR 16 1 6 (fun _ => 157)),
  (16, i_aload 17 0),
  (17, i_getR 20 1 24 (fun c => c + 5)),
  (20, i_aload 21 0),
  (21, i_getI 24 1 8),
  (24, i_aldR 25 24 8 lnC (fun c i => c + 1 + 2 * i)),
  (25, i_callV 28 2 (rcv 6) f_X6_look),
  (28, i_aload 29 0),
  (29, i_getR 32 1 6 (fun _ => 157)),
  (32, i_iload 33 1),
  (33, i_iload 34 2),
  (34, i_iload 35 3),
  (35, i_aload 36 0),
  (36, i_getI 39 1 7),
  (39, i_aload 40 0),
  (40, i_getR 43 1 24 (fun c => c + 5)),
  (43, i_aload 44 0),
  (44, i_getI 47 1 8),
  (47, i_push 48 (.inl 1)),
  (48, i_bin 49 (fun x y => wr (x + y))),
  (49, i_aldR 50 24 8 lnC (fun c i => c + 1 + 2 * i)),
  (50, i_callI 53 6 (rcv 6) f_X6_go),
  (53, i_istore 55 4),
  (55, i_iload 57 4),
  (57, i_ifge 60 63),
  (60, i_iload 62 4),
  (62, i_iret),
  (63, i_aload 64 0),
  (64, i_getR 67 1 20 (fun c => c + 1)),
  (67, i_aload 68 0),
  (68, i_getI 71 1 8),
  (71, i_iload 72 1),
  (72, i_ast 73 20 lnC id),
  (73, i_aload 74 0),
  (74, i_getR 77 1 20 (fun c => c + 2)),
  (77, i_aload 78 0),
  (78, i_getI 81 1 8),
  (81, i_iload 82 1),
  (82, i_push 83 (.inl 2)),
  (83, i_cmpne 86 91),
  (86, i_push 88 (.inl (-4))),
  (88, i_goto 92),
  (91, i_iload 92 2),
  (92, i_ast 93 20 lnC id),
  (93, i_aload 94 0),
  (94, i_getR 97 1 20 (fun c => c + 3)),
  (97, i_aload 98 0),
  (98, i_getI 101 1 8),
  (101, i_iload 102 3),
  (102, i_ast 103 20 lnC id),
  (103, i_aload 104 0),
  (104, i_getR 107 1 20 (fun c => c + 4)),
  (107, i_aload 108 0),
  (108, i_getI 111 1 8),
  (111, i_aload 112 0),
  (112, i_getR 115 1 6 (fun _ => 157)),
  (115, i_getI 118 6 6),
  (118, i_ast 119 20 lnC id),
  (119, i_aload 120 0),
  (120, i_dup 121),
  (121, i_getI 124 1 8),
  (124, i_push 125 (.inl 1)),
  (125, i_bin 126 (fun x y => wr (x + y))),
  (126, i_putI 129 1 8),
  (129, i_iload 131 4),
  (131, i_iret)]
noncomputable def kc_X1_go : Nat → Option Ins := lkp k_X1_go
noncomputable def f_X1_go : List AV → Mem → Option Rs := den 5 kc_X1_go
abbrev rm_X1_go : Room := { frames := 3, cells := 0, slots := 0, locals := 81 }
set_option maxRecDepth 100000 in
theorem kt_X1_go : TriC kc_X1_go := lkp_tri (fa1 (tri_aload 1 0) (fa1 (tri_getI 4 1 8) (fa1 (tri_push 6 (.inl 20)) (fa1 (tri_cmplt 9 12) (fa1 (tri_push 11 (.inl (-3))) (fa1 (tri_iret) (fa1 (tri_aload 13 0) (fa1 (tri_getR 16 1 6 (fun _ => 157)) (fa1 (tri_aload 17 0) (fa1 (tri_getR 20 1 24 (fun c => c + 5)) (fa1 (tri_aload 21 0) (fa1 (tri_getI 24 1 8) (fa1 (tri_aldR 25 24 8 lnC (fun c i => c + 1 + 2 * i)) (fa1 (tri_callV 28 2 (rcv 6) f_X6_look) (fa1 (tri_aload 29 0) (fa1 (tri_getR 32 1 6 (fun _ => 157)) (fa1 (tri_iload 33 1) (fa1 (tri_iload 34 2) (fa1 (tri_iload 35 3) (fa1 (tri_aload 36 0) (fa1 (tri_getI 39 1 7) (fa1 (tri_aload 40 0) (fa1 (tri_getR 43 1 24 (fun c => c + 5)) (fa1 (tri_aload 44 0) (fa1 (tri_getI 47 1 8) (fa1 (tri_push 48 (.inl 1)) (fa1 (tri_bin 49 (fun x y => wr (x + y))) (fa1 (tri_aldR 50 24 8 lnC (fun c i => c + 1 + 2 * i)) (fa1 (tri_callI 53 6 (rcv 6) f_X6_go) (fa1 (tri_istore 55 4) (fa1 (tri_iload 57 4) (fa1 (tri_ifge 60 63) (fa1 (tri_iload 62 4) (fa1 (tri_iret) (fa1 (tri_aload 64 0) (fa1 (tri_getR 67 1 20 (fun c => c + 1)) (fa1 (tri_aload 68 0) (fa1 (tri_getI 71 1 8) (fa1 (tri_iload 72 1) (fa1 (tri_ast 73 20 lnC id) (fa1 (tri_aload 74 0) (fa1 (tri_getR 77 1 20 (fun c => c + 2)) (fa1 (tri_aload 78 0) (fa1 (tri_getI 81 1 8) (fa1 (tri_iload 82 1) (fa1 (tri_push 83 (.inl 2)) (fa1 (tri_cmpne 86 91) (fa1 (tri_push 88 (.inl (-4))) (fa1 (tri_goto 92) (fa1 (tri_iload 92 2) (fa1 (tri_ast 93 20 lnC id) (fa1 (tri_aload 94 0) (fa1 (tri_getR 97 1 20 (fun c => c + 3)) (fa1 (tri_aload 98 0) (fa1 (tri_getI 101 1 8) (fa1 (tri_iload 102 3) (fa1 (tri_ast 103 20 lnC id) (fa1 (tri_aload 104 0) (fa1 (tri_getR 107 1 20 (fun c => c + 4)) (fa1 (tri_aload 108 0) (fa1 (tri_getI 111 1 8) (fa1 (tri_aload 112 0) (fa1 (tri_getR 115 1 6 (fun _ => 157)) (fa1 (tri_getI 118 6 6) (fa1 (tri_ast 119 20 lnC id) (fa1 (tri_aload 120 0) (fa1 (tri_dup 121) (fa1 (tri_getI 124 1 8) (fa1 (tri_push 125 (.inl 1)) (fa1 (tri_bin 126 (fun x y => wr (x + y))) (fa1 (tri_putI 129 1 8) (fa1 (tri_iload 131 4) (fa1 (tri_iret) (fa0))))))))))))))))))))))))))))))))))))))))))))))))))))))))))))))))))))))))))
set_option maxRecDepth 100000 in
set_option maxHeartbeats 4000000 in
theorem ks_X1_go (G : Wp) (l : Launch) : ∀ e ∈ k_X1_go, Snd loC G l RX1 cX1_go 5 (some .int) rm_X1_go e.1 e.2 :=
  fa1 (s_aload_n (kf := 0) (j := 0) (by decide +kernel) rfl) <|
  fa1 (s_getI (ci := 1) (f := 8) (idx := 45) (C := RX1) (T := TX1) (NF := 9) (by decide +kernel) rfl (by decide) inG_X1 (by decide) w_380 li_X1_8) <|
  fa1 (s_bipush (n := 20) (v := 20) (by decide +kernel) (by decide +kernel) (p32 rfl)) <|
  fa1 (s_cmplt (off := 6) (by decide +kernel) (by decide)) <|
  fa1 (s_bipush (n := -3) (v := -3) (by decide +kernel) (by decide +kernel) (p32 rfl)) <|
  fa1 (s_iret (by decide +kernel) rfl) <|
  fa1 (s_aload_n (kf := 0) (j := 0) (by decide +kernel) rfl) <|
  fa1 (s_getR (t2 := 6) (g := (fun _ => 157)) (ci := 1) (f := 0) (idx := 30) (C := RX1) (T := TX1) (NF := 9) (by decide +kernel) rfl (by decide) inG_X1 (by decide) w_370 lr_X1_0 (by decide)) <|
  fa1 (s_aload_n (kf := 0) (j := 0) (by decide +kernel) rfl) <|
  fa1 (s_getR (t2 := 24) (g := (fun c => c + 5)) (ci := 1) (f := 6) (idx := 26) (C := RX1) (T := TX1) (NF := 9) (by decide +kernel) rfl (by decide) inG_X1 (by decide) w_376 lr_X1_6 (by decide)) <|
  fa1 (s_aload_n (kf := 0) (j := 0) (by decide +kernel) rfl) <|
  fa1 (s_getI (ci := 1) (f := 8) (idx := 45) (C := RX1) (T := TX1) (NF := 9) (by decide +kernel) rfl (by decide) inG_X1 (by decide) w_380 li_X1_8) <|
  fa1 (s_aldR (t := 24) (t2 := 8) (g := (fun c i => c + 1 + 2 * i)) (by decide +kernel) (by decide) (by decide) rfl (by decide) le_24) <|
  fa1 (s_vcallV (n := 1) (ci := 6) (C := RX6) (T := TX6) (NF := 7) (idx := 75) (y := yX6_look) (by decide +kernel) (gg_X6_look) rfl (by decide) yv_X6_look (all5 w_822 w_823 w_824 w_107 w_825) rfl rfl ⟨by decide, by decide⟩) <|
  fa1 (s_aload_n (kf := 0) (j := 0) (by decide +kernel) rfl) <|
  fa1 (s_getR (t2 := 6) (g := (fun _ => 157)) (ci := 1) (f := 0) (idx := 30) (C := RX1) (T := TX1) (NF := 9) (by decide +kernel) rfl (by decide) inG_X1 (by decide) w_370 lr_X1_0 (by decide)) <|
  fa1 (s_iload_n (kf := 1) (j := 1) (by decide +kernel) rfl) <|
  fa1 (s_iload_n (kf := 2) (j := 2) (by decide +kernel) rfl) <|
  fa1 (s_iload_n (kf := 3) (j := 3) (by decide +kernel) rfl) <|
  fa1 (s_aload_n (kf := 0) (j := 0) (by decide +kernel) rfl) <|
  fa1 (s_getI (ci := 1) (f := 7) (idx := 41) (C := RX1) (T := TX1) (NF := 9) (by decide +kernel) rfl (by decide) inG_X1 (by decide) w_377 li_X1_7) <|
  fa1 (s_aload_n (kf := 0) (j := 0) (by decide +kernel) rfl) <|
  fa1 (s_getR (t2 := 24) (g := (fun c => c + 5)) (ci := 1) (f := 6) (idx := 26) (C := RX1) (T := TX1) (NF := 9) (by decide +kernel) rfl (by decide) inG_X1 (by decide) w_376 lr_X1_6 (by decide)) <|
  fa1 (s_aload_n (kf := 0) (j := 0) (by decide +kernel) rfl) <|
  fa1 (s_getI (ci := 1) (f := 8) (idx := 45) (C := RX1) (T := TX1) (NF := 9) (by decide +kernel) rfl (by decide) inG_X1 (by decide) w_380 li_X1_8) <|
  fa1 (s_iconst (n := 1) (v := 1) (by decide +kernel) (by decide +kernel) (p32 rfl)) <|
  fa1 (s_iadd (by decide +kernel)) <|
  fa1 (s_aldR (t := 24) (t2 := 8) (g := (fun c i => c + 1 + 2 * i)) (by decide +kernel) (by decide) (by decide) rfl (by decide) le_24) <|
  fa1 (s_vcallI (n := 5) (ci := 6) (C := RX6) (T := TX6) (NF := 7) (idx := 80) (y := yX6_go) (by decide +kernel) (gg_X6_go) rfl (by decide) yv_X6_go (all5 w_833 w_834 w_835 w_107 w_836) rfl rfl ⟨by decide, by decide⟩) <|
  fa1 (s_istore (j := 4) (by decide +kernel) (by decide)) <|
  fa1 (s_iload (j := 4) (by decide +kernel)) <|
  fa1 (s_ifge (off := 6) (by decide +kernel) (by decide)) <|
  fa1 (s_iload (j := 4) (by decide +kernel)) <|
  fa1 (s_iret (by decide +kernel) rfl) <|
  fa1 (s_aload_n (kf := 0) (j := 0) (by decide +kernel) rfl) <|
  fa1 (s_getR (t2 := 20) (g := (fun c => c + 1)) (ci := 1) (f := 2) (idx := 9) (C := RX1) (T := TX1) (NF := 9) (by decide +kernel) rfl (by decide) inG_X1 (by decide) w_372 lr_X1_2 (by decide)) <|
  fa1 (s_aload_n (kf := 0) (j := 0) (by decide +kernel) rfl) <|
  fa1 (s_getI (ci := 1) (f := 8) (idx := 45) (C := RX1) (T := TX1) (NF := 9) (by decide +kernel) rfl (by decide) inG_X1 (by decide) w_380 li_X1_8) <|
  fa1 (s_iload_n (kf := 1) (j := 1) (by decide +kernel) rfl) <|
  fa1 (s_iast (by decide +kernel) lt_loC_20) <|
  fa1 (s_aload_n (kf := 0) (j := 0) (by decide +kernel) rfl) <|
  fa1 (s_getR (t2 := 20) (g := (fun c => c + 2)) (ci := 1) (f := 3) (idx := 15) (C := RX1) (T := TX1) (NF := 9) (by decide +kernel) rfl (by decide) inG_X1 (by decide) w_373 lr_X1_3 (by decide)) <|
  fa1 (s_aload_n (kf := 0) (j := 0) (by decide +kernel) rfl) <|
  fa1 (s_getI (ci := 1) (f := 8) (idx := 45) (C := RX1) (T := TX1) (NF := 9) (by decide +kernel) rfl (by decide) inG_X1 (by decide) w_380 li_X1_8) <|
  fa1 (s_iload_n (kf := 1) (j := 1) (by decide +kernel) rfl) <|
  fa1 (s_iconst (n := 2) (v := 2) (by decide +kernel) (by decide +kernel) (p32 rfl)) <|
  fa1 (s_cmpne (off := 8) (by decide +kernel) (by decide)) <|
  fa1 (s_bipush (n := -4) (v := -4) (by decide +kernel) (by decide +kernel) (p32 rfl)) <|
  fa1 (s_goto (off := 4) (by decide +kernel) (by decide)) <|
  fa1 (s_iload_n (kf := 2) (j := 2) (by decide +kernel) rfl) <|
  fa1 (s_iast (by decide +kernel) lt_loC_20) <|
  fa1 (s_aload_n (kf := 0) (j := 0) (by decide +kernel) rfl) <|
  fa1 (s_getR (t2 := 20) (g := (fun c => c + 3)) (ci := 1) (f := 4) (idx := 18) (C := RX1) (T := TX1) (NF := 9) (by decide +kernel) rfl (by decide) inG_X1 (by decide) w_374 lr_X1_4 (by decide)) <|
  fa1 (s_aload_n (kf := 0) (j := 0) (by decide +kernel) rfl) <|
  fa1 (s_getI (ci := 1) (f := 8) (idx := 45) (C := RX1) (T := TX1) (NF := 9) (by decide +kernel) rfl (by decide) inG_X1 (by decide) w_380 li_X1_8) <|
  fa1 (s_iload_n (kf := 3) (j := 3) (by decide +kernel) rfl) <|
  fa1 (s_iast (by decide +kernel) lt_loC_20) <|
  fa1 (s_aload_n (kf := 0) (j := 0) (by decide +kernel) rfl) <|
  fa1 (s_getR (t2 := 20) (g := (fun c => c + 4)) (ci := 1) (f := 5) (idx := 21) (C := RX1) (T := TX1) (NF := 9) (by decide +kernel) rfl (by decide) inG_X1 (by decide) w_375 lr_X1_5 (by decide)) <|
  fa1 (s_aload_n (kf := 0) (j := 0) (by decide +kernel) rfl) <|
  fa1 (s_getI (ci := 1) (f := 8) (idx := 45) (C := RX1) (T := TX1) (NF := 9) (by decide +kernel) rfl (by decide) inG_X1 (by decide) w_380 li_X1_8) <|
  fa1 (s_aload_n (kf := 0) (j := 0) (by decide +kernel) rfl) <|
  fa1 (s_getR (t2 := 6) (g := (fun _ => 157)) (ci := 1) (f := 0) (idx := 30) (C := RX1) (T := TX1) (NF := 9) (by decide +kernel) rfl (by decide) inG_X1 (by decide) w_370 lr_X1_0 (by decide)) <|
  fa1 (s_getI (ci := 6) (f := 6) (idx := 84) (C := RX6) (T := TX6) (NF := 7) (by decide +kernel) rfl (by decide) inG_X6 (by decide) w_346 li_X6_6) <|
  fa1 (s_iast (by decide +kernel) lt_loC_20) <|
  fa1 (s_aload_n (kf := 0) (j := 0) (by decide +kernel) rfl) <|
  fa1 (s_dup (by decide +kernel)) <|
  fa1 (s_getI (ci := 1) (f := 8) (idx := 45) (C := RX1) (T := TX1) (NF := 9) (by decide +kernel) rfl (by decide) inG_X1 (by decide) w_380 li_X1_8) <|
  fa1 (s_iconst (n := 1) (v := 1) (by decide +kernel) (by decide +kernel) (p32 rfl)) <|
  fa1 (s_iadd (by decide +kernel)) <|
  fa1 (s_putI (ci := 1) (f := 8) (idx := 45) (C := RX1) (T := TX1) (NF := 9) (by decide +kernel) rfl (by decide) inG_X1 (by decide) w_380 tyX1 tyX1_ok nmX1 rfl (by decide +kernel) li_X1_8) <|
  fa1 (s_iload (j := 4) (by decide +kernel)) <|
  fa1 (s_iret (by decide +kernel) rfl) <| fa0
theorem gg_X1_go {G : Wp} {l : Launch} : GoodM loC G l yX1_go cX1_go 5 (some .int) rm_X1_go f_X1_go := met_of kt_X1_go (lkp_snd (ks_X1_go G l)) (by decide +kernel) rfl (by decide)
noncomputable def k_X1_goBack : List (Nat × Ins) := [
  (0, i_aload 1 0),
  (1, i_getI 4 1 8),
  (4, i_ifne 7 10),
  (7, i_push 9 (.inl (-4))),
  (9, i_iret),
  (10, i_aload 11 0),
  (11, i_dup 12),
  (12, i_getI 15 1 8),
  (15, i_push 16 (.inl 1)),
  (16, i_bin 17 (fun x y => wr (x - y))),
  (17, i_putI 20 1 8),
  (20, i_aload 21 0),
  (21, i_getI 24 1 8),
  (24, i_iret)]
noncomputable def kc_X1_goBack : Nat → Option Ins := lkp k_X1_goBack
noncomputable def f_X1_goBack : List AV → Mem → Option Rs := den 1 kc_X1_goBack
abbrev rm_X1_goBack : Room := { frames := 0, cells := 0, slots := 0, locals := 0 }
set_option maxRecDepth 100000 in
theorem kt_X1_goBack : TriC kc_X1_goBack := lkp_tri (fa1 (tri_aload 1 0) (fa1 (tri_getI 4 1 8) (fa1 (tri_ifne 7 10) (fa1 (tri_push 9 (.inl (-4))) (fa1 (tri_iret) (fa1 (tri_aload 11 0) (fa1 (tri_dup 12) (fa1 (tri_getI 15 1 8) (fa1 (tri_push 16 (.inl 1)) (fa1 (tri_bin 17 (fun x y => wr (x - y))) (fa1 (tri_putI 20 1 8) (fa1 (tri_aload 21 0) (fa1 (tri_getI 24 1 8) (fa1 (tri_iret) (fa0)))))))))))))))
set_option maxRecDepth 100000 in
set_option maxHeartbeats 4000000 in
theorem ks_X1_goBack (G : Wp) (l : Launch) : ∀ e ∈ k_X1_goBack, Snd loC G l RX1 cX1_goBack 1 (some .int) rm_X1_goBack e.1 e.2 :=
  fa1 (s_aload_n (kf := 0) (j := 0) (by decide +kernel) rfl) <|
  fa1 (s_getI (ci := 1) (f := 8) (idx := 45) (C := RX1) (T := TX1) (NF := 9) (by decide +kernel) rfl (by decide) inG_X1 (by decide) w_380 li_X1_8) <|
  fa1 (s_ifne (off := 6) (by decide +kernel) (by decide)) <|
  fa1 (s_bipush (n := -4) (v := -4) (by decide +kernel) (by decide +kernel) (p32 rfl)) <|
  fa1 (s_iret (by decide +kernel) rfl) <|
  fa1 (s_aload_n (kf := 0) (j := 0) (by decide +kernel) rfl) <|
  fa1 (s_dup (by decide +kernel)) <|
  fa1 (s_getI (ci := 1) (f := 8) (idx := 45) (C := RX1) (T := TX1) (NF := 9) (by decide +kernel) rfl (by decide) inG_X1 (by decide) w_380 li_X1_8) <|
  fa1 (s_iconst (n := 1) (v := 1) (by decide +kernel) (by decide +kernel) (p32 rfl)) <|
  fa1 (s_isub (by decide +kernel)) <|
  fa1 (s_putI (ci := 1) (f := 8) (idx := 45) (C := RX1) (T := TX1) (NF := 9) (by decide +kernel) rfl (by decide) inG_X1 (by decide) w_380 tyX1 tyX1_ok nmX1 rfl (by decide +kernel) li_X1_8) <|
  fa1 (s_aload_n (kf := 0) (j := 0) (by decide +kernel) rfl) <|
  fa1 (s_getI (ci := 1) (f := 8) (idx := 45) (C := RX1) (T := TX1) (NF := 9) (by decide +kernel) rfl (by decide) inG_X1 (by decide) w_380 li_X1_8) <|
  fa1 (s_iret (by decide +kernel) rfl) <| fa0
theorem gg_X1_goBack {G : Wp} {l : Launch} : GoodM loC G l yX1_goBack cX1_goBack 1 (some .int) rm_X1_goBack f_X1_goBack := met_of kt_X1_goBack (lkp_snd (ks_X1_goBack G l)) (by decide +kernel) rfl (by decide)
noncomputable def k_X1_kindAt : List (Nat × Ins) := [
  (0, i_iload 1 1),
  (1, i_iflt 4 21),
  (4, i_iload 5 1),
  (5, i_aload 6 0),
  (6, i_getI 9 1 8),
  (9, i_cmpge 12 21),
  (12, i_aload 13 0),
  (13, i_getR 16 1 20 (fun c => c + 1)),
  (16, i_iload 17 1),
  (17, i_ald 18 20 lnC),
  (18, i_goto 23),
  (21, i_push 23 (.inl (-4))),
  (23, i_iret)]
noncomputable def kc_X1_kindAt : Nat → Option Ins := lkp k_X1_kindAt
noncomputable def f_X1_kindAt : List AV → Mem → Option Rs := den 2 kc_X1_kindAt
abbrev rm_X1_kindAt : Room := { frames := 0, cells := 0, slots := 0, locals := 0 }
set_option maxRecDepth 100000 in
theorem kt_X1_kindAt : TriC kc_X1_kindAt := lkp_tri (fa1 (tri_iload 1 1) (fa1 (tri_iflt 4 21) (fa1 (tri_iload 5 1) (fa1 (tri_aload 6 0) (fa1 (tri_getI 9 1 8) (fa1 (tri_cmpge 12 21) (fa1 (tri_aload 13 0) (fa1 (tri_getR 16 1 20 (fun c => c + 1)) (fa1 (tri_iload 17 1) (fa1 (tri_ald 18 20 lnC) (fa1 (tri_goto 23) (fa1 (tri_push 23 (.inl (-4))) (fa1 (tri_iret) (fa0))))))))))))))
set_option maxRecDepth 100000 in
set_option maxHeartbeats 4000000 in
theorem ks_X1_kindAt (G : Wp) (l : Launch) : ∀ e ∈ k_X1_kindAt, Snd loC G l RX1 cX1_kindAt 2 (some .int) rm_X1_kindAt e.1 e.2 :=
  fa1 (s_iload_n (kf := 1) (j := 1) (by decide +kernel) rfl) <|
  fa1 (s_iflt (off := 20) (by decide +kernel) (by decide)) <|
  fa1 (s_iload_n (kf := 1) (j := 1) (by decide +kernel) rfl) <|
  fa1 (s_aload_n (kf := 0) (j := 0) (by decide +kernel) rfl) <|
  fa1 (s_getI (ci := 1) (f := 8) (idx := 45) (C := RX1) (T := TX1) (NF := 9) (by decide +kernel) rfl (by decide) inG_X1 (by decide) w_380 li_X1_8) <|
  fa1 (s_cmpge (off := 12) (by decide +kernel) (by decide)) <|
  fa1 (s_aload_n (kf := 0) (j := 0) (by decide +kernel) rfl) <|
  fa1 (s_getR (t2 := 20) (g := (fun c => c + 1)) (ci := 1) (f := 2) (idx := 9) (C := RX1) (T := TX1) (NF := 9) (by decide +kernel) rfl (by decide) inG_X1 (by decide) w_372 lr_X1_2 (by decide)) <|
  fa1 (s_iload_n (kf := 1) (j := 1) (by decide +kernel) rfl) <|
  fa1 (s_iald (by decide +kernel)) <|
  fa1 (s_goto (off := 5) (by decide +kernel) (by decide)) <|
  fa1 (s_bipush (n := -4) (v := -4) (by decide +kernel) (by decide +kernel) (p32 rfl)) <|
  fa1 (s_iret (by decide +kernel) rfl) <| fa0
theorem gg_X1_kindAt {G : Wp} {l : Launch} : GoodM loC G l yX1_kindAt cX1_kindAt 2 (some .int) rm_X1_kindAt f_X1_kindAt := met_of kt_X1_kindAt (lkp_snd (ks_X1_kindAt G l)) (by decide +kernel) rfl (by decide)
noncomputable def k_X1_whichAt : List (Nat × Ins) := [
  (0, i_iload 1 1),
  (1, i_iflt 4 21),
  (4, i_iload 5 1),
  (5, i_aload 6 0),
  (6, i_getI 9 1 8),
  (9, i_cmpge 12 21),
  (12, i_aload 13 0),
  (13, i_getR 16 1 20 (fun c => c + 2)),
  (16, i_iload 17 1),
  (17, i_ald 18 20 lnC),
  (18, i_goto 23),
  (21, i_push 23 (.inl (-4))),
  (23, i_iret)]
noncomputable def kc_X1_whichAt : Nat → Option Ins := lkp k_X1_whichAt
noncomputable def f_X1_whichAt : List AV → Mem → Option Rs := den 2 kc_X1_whichAt
abbrev rm_X1_whichAt : Room := { frames := 0, cells := 0, slots := 0, locals := 0 }
set_option maxRecDepth 100000 in
theorem kt_X1_whichAt : TriC kc_X1_whichAt := lkp_tri (fa1 (tri_iload 1 1) (fa1 (tri_iflt 4 21) (fa1 (tri_iload 5 1) (fa1 (tri_aload 6 0) (fa1 (tri_getI 9 1 8) (fa1 (tri_cmpge 12 21) (fa1 (tri_aload 13 0) (fa1 (tri_getR 16 1 20 (fun c => c + 2)) (fa1 (tri_iload 17 1) (fa1 (tri_ald 18 20 lnC) (fa1 (tri_goto 23) (fa1 (tri_push 23 (.inl (-4))) (fa1 (tri_iret) (fa0))))))))))))))
set_option maxRecDepth 100000 in
set_option maxHeartbeats 4000000 in
theorem ks_X1_whichAt (G : Wp) (l : Launch) : ∀ e ∈ k_X1_whichAt, Snd loC G l RX1 cX1_whichAt 2 (some .int) rm_X1_whichAt e.1 e.2 :=
  fa1 (s_iload_n (kf := 1) (j := 1) (by decide +kernel) rfl) <|
  fa1 (s_iflt (off := 20) (by decide +kernel) (by decide)) <|
  fa1 (s_iload_n (kf := 1) (j := 1) (by decide +kernel) rfl) <|
  fa1 (s_aload_n (kf := 0) (j := 0) (by decide +kernel) rfl) <|
  fa1 (s_getI (ci := 1) (f := 8) (idx := 45) (C := RX1) (T := TX1) (NF := 9) (by decide +kernel) rfl (by decide) inG_X1 (by decide) w_380 li_X1_8) <|
  fa1 (s_cmpge (off := 12) (by decide +kernel) (by decide)) <|
  fa1 (s_aload_n (kf := 0) (j := 0) (by decide +kernel) rfl) <|
  fa1 (s_getR (t2 := 20) (g := (fun c => c + 2)) (ci := 1) (f := 3) (idx := 15) (C := RX1) (T := TX1) (NF := 9) (by decide +kernel) rfl (by decide) inG_X1 (by decide) w_373 lr_X1_3 (by decide)) <|
  fa1 (s_iload_n (kf := 1) (j := 1) (by decide +kernel) rfl) <|
  fa1 (s_iald (by decide +kernel)) <|
  fa1 (s_goto (off := 5) (by decide +kernel) (by decide)) <|
  fa1 (s_bipush (n := -4) (v := -4) (by decide +kernel) (by decide +kernel) (p32 rfl)) <|
  fa1 (s_iret (by decide +kernel) rfl) <| fa0
theorem gg_X1_whichAt {G : Wp} {l : Launch} : GoodM loC G l yX1_whichAt cX1_whichAt 2 (some .int) rm_X1_whichAt f_X1_whichAt := met_of kt_X1_whichAt (lkp_snd (ks_X1_whichAt G l)) (by decide +kernel) rfl (by decide)
noncomputable def k_X1_placeAt : List (Nat × Ins) := [
  (0, i_iload 1 1),
  (1, i_iflt 4 21),
  (4, i_iload 5 1),
  (5, i_aload 6 0),
  (6, i_getI 9 1 8),
  (9, i_cmpge 12 21),
  (12, i_aload 13 0),
  (13, i_getR 16 1 20 (fun c => c + 3)),
  (16, i_iload 17 1),
  (17, i_ald 18 20 lnC),
  (18, i_goto 23),
  (21, i_push 23 (.inl (-4))),
  (23, i_iret)]
noncomputable def kc_X1_placeAt : Nat → Option Ins := lkp k_X1_placeAt
noncomputable def f_X1_placeAt : List AV → Mem → Option Rs := den 2 kc_X1_placeAt
abbrev rm_X1_placeAt : Room := { frames := 0, cells := 0, slots := 0, locals := 0 }
set_option maxRecDepth 100000 in
theorem kt_X1_placeAt : TriC kc_X1_placeAt := lkp_tri (fa1 (tri_iload 1 1) (fa1 (tri_iflt 4 21) (fa1 (tri_iload 5 1) (fa1 (tri_aload 6 0) (fa1 (tri_getI 9 1 8) (fa1 (tri_cmpge 12 21) (fa1 (tri_aload 13 0) (fa1 (tri_getR 16 1 20 (fun c => c + 3)) (fa1 (tri_iload 17 1) (fa1 (tri_ald 18 20 lnC) (fa1 (tri_goto 23) (fa1 (tri_push 23 (.inl (-4))) (fa1 (tri_iret) (fa0))))))))))))))
set_option maxRecDepth 100000 in
set_option maxHeartbeats 4000000 in
theorem ks_X1_placeAt (G : Wp) (l : Launch) : ∀ e ∈ k_X1_placeAt, Snd loC G l RX1 cX1_placeAt 2 (some .int) rm_X1_placeAt e.1 e.2 :=
  fa1 (s_iload_n (kf := 1) (j := 1) (by decide +kernel) rfl) <|
  fa1 (s_iflt (off := 20) (by decide +kernel) (by decide)) <|
  fa1 (s_iload_n (kf := 1) (j := 1) (by decide +kernel) rfl) <|
  fa1 (s_aload_n (kf := 0) (j := 0) (by decide +kernel) rfl) <|
  fa1 (s_getI (ci := 1) (f := 8) (idx := 45) (C := RX1) (T := TX1) (NF := 9) (by decide +kernel) rfl (by decide) inG_X1 (by decide) w_380 li_X1_8) <|
  fa1 (s_cmpge (off := 12) (by decide +kernel) (by decide)) <|
  fa1 (s_aload_n (kf := 0) (j := 0) (by decide +kernel) rfl) <|
  fa1 (s_getR (t2 := 20) (g := (fun c => c + 3)) (ci := 1) (f := 4) (idx := 18) (C := RX1) (T := TX1) (NF := 9) (by decide +kernel) rfl (by decide) inG_X1 (by decide) w_374 lr_X1_4 (by decide)) <|
  fa1 (s_iload_n (kf := 1) (j := 1) (by decide +kernel) rfl) <|
  fa1 (s_iald (by decide +kernel)) <|
  fa1 (s_goto (off := 5) (by decide +kernel) (by decide)) <|
  fa1 (s_bipush (n := -4) (v := -4) (by decide +kernel) (by decide +kernel) (p32 rfl)) <|
  fa1 (s_iret (by decide +kernel) rfl) <| fa0
theorem gg_X1_placeAt {G : Wp} {l : Launch} : GoodM loC G l yX1_placeAt cX1_placeAt 2 (some .int) rm_X1_placeAt f_X1_placeAt := met_of kt_X1_placeAt (lkp_snd (ks_X1_placeAt G l)) (by decide +kernel) rfl (by decide)
noncomputable def k_X1_using : List (Nat × Ins) := [
  (0, i_push 1 (.inl 0)),
  (1, i_istore 2 1),
  (2, i_push 3 (.inl 0)),
  (3, i_istore 4 2),
  (4, i_iload 5 2),
  (5, i_aload 6 0),
  (6, i_getI 9 1 8),
  (9, i_cmpge 12 48),
  (12, i_aload 13 0),
  (13, i_getR 16 1 20 (fun c => c + 1)),
  (16, i_iload 17 2),
  (17, i_ald 18 20 lnC),
  (18, i_ifeq 21 31),
  (21, i_aload 22 0),
  (22, i_getR 25 1 20 (fun c => c + 1)),
  (25, i_iload 26 2),
  (26, i_ald 27 20 lnC),
  (27, i_push 28 (.inl 1)),
  (28, i_cmpne 31 42),
  (31, i_iload 32 1),
  (32, i_push 33 (.inl 1)),
  (33, i_aload 34 0),
  (34, i_getR 37 1 20 (fun c => c + 2)),
  (37, i_iload 38 2),
  (38, i_ald 39 20 lnC),
  (39, i_bin 40 bShl),
  (40, i_bin 41 bOr),
  (41, i_istore 42 1),
  (42, i_iinc 45 2 (1)),
  (45, i_goto 4),
  (48, i_iload 49 1),
  (49, i_iret)]
noncomputable def kc_X1_using : Nat → Option Ins := lkp k_X1_using
noncomputable def f_X1_using : List AV → Mem → Option Rs := den 3 kc_X1_using
abbrev rm_X1_using : Room := { frames := 0, cells := 0, slots := 0, locals := 0 }
set_option maxRecDepth 100000 in
theorem kt_X1_using : TriC kc_X1_using := lkp_tri (fa1 (tri_push 1 (.inl 0)) (fa1 (tri_istore 2 1) (fa1 (tri_push 3 (.inl 0)) (fa1 (tri_istore 4 2) (fa1 (tri_iload 5 2) (fa1 (tri_aload 6 0) (fa1 (tri_getI 9 1 8) (fa1 (tri_cmpge 12 48) (fa1 (tri_aload 13 0) (fa1 (tri_getR 16 1 20 (fun c => c + 1)) (fa1 (tri_iload 17 2) (fa1 (tri_ald 18 20 lnC) (fa1 (tri_ifeq 21 31) (fa1 (tri_aload 22 0) (fa1 (tri_getR 25 1 20 (fun c => c + 1)) (fa1 (tri_iload 26 2) (fa1 (tri_ald 27 20 lnC) (fa1 (tri_push 28 (.inl 1)) (fa1 (tri_cmpne 31 42) (fa1 (tri_iload 32 1) (fa1 (tri_push 33 (.inl 1)) (fa1 (tri_aload 34 0) (fa1 (tri_getR 37 1 20 (fun c => c + 2)) (fa1 (tri_iload 38 2) (fa1 (tri_ald 39 20 lnC) (fa1 (tri_bin 40 bShl) (fa1 (tri_bin 41 bOr) (fa1 (tri_istore 42 1) (fa1 (tri_iinc 45 2 (1)) (fa1 (tri_goto 4) (fa1 (tri_iload 49 1) (fa1 (tri_iret) (fa0)))))))))))))))))))))))))))))))))
set_option maxRecDepth 100000 in
set_option maxHeartbeats 4000000 in
theorem ks_X1_using (G : Wp) (l : Launch) : ∀ e ∈ k_X1_using, Snd loC G l RX1 cX1_using 3 (some .int) rm_X1_using e.1 e.2 :=
  fa1 (s_iconst (n := 0) (v := 0) (by decide +kernel) (by decide +kernel) (p32 rfl)) <|
  fa1 (s_istore_n (kf := 1) (j := 1) (by decide +kernel) rfl (by decide)) <|
  fa1 (s_iconst (n := 0) (v := 0) (by decide +kernel) (by decide +kernel) (p32 rfl)) <|
  fa1 (s_istore_n (kf := 2) (j := 2) (by decide +kernel) rfl (by decide)) <|
  fa1 (s_iload_n (kf := 2) (j := 2) (by decide +kernel) rfl) <|
  fa1 (s_aload_n (kf := 0) (j := 0) (by decide +kernel) rfl) <|
  fa1 (s_getI (ci := 1) (f := 8) (idx := 45) (C := RX1) (T := TX1) (NF := 9) (by decide +kernel) rfl (by decide) inG_X1 (by decide) w_380 li_X1_8) <|
  fa1 (s_cmpge (off := 39) (by decide +kernel) (by decide)) <|
  fa1 (s_aload_n (kf := 0) (j := 0) (by decide +kernel) rfl) <|
  fa1 (s_getR (t2 := 20) (g := (fun c => c + 1)) (ci := 1) (f := 2) (idx := 9) (C := RX1) (T := TX1) (NF := 9) (by decide +kernel) rfl (by decide) inG_X1 (by decide) w_372 lr_X1_2 (by decide)) <|
  fa1 (s_iload_n (kf := 2) (j := 2) (by decide +kernel) rfl) <|
  fa1 (s_iald (by decide +kernel)) <|
  fa1 (s_ifeq (off := 13) (by decide +kernel) (by decide)) <|
  fa1 (s_aload_n (kf := 0) (j := 0) (by decide +kernel) rfl) <|
  fa1 (s_getR (t2 := 20) (g := (fun c => c + 1)) (ci := 1) (f := 2) (idx := 9) (C := RX1) (T := TX1) (NF := 9) (by decide +kernel) rfl (by decide) inG_X1 (by decide) w_372 lr_X1_2 (by decide)) <|
  fa1 (s_iload_n (kf := 2) (j := 2) (by decide +kernel) rfl) <|
  fa1 (s_iald (by decide +kernel)) <|
  fa1 (s_iconst (n := 1) (v := 1) (by decide +kernel) (by decide +kernel) (p32 rfl)) <|
  fa1 (s_cmpne (off := 14) (by decide +kernel) (by decide)) <|
  fa1 (s_iload_n (kf := 1) (j := 1) (by decide +kernel) rfl) <|
  fa1 (s_iconst (n := 1) (v := 1) (by decide +kernel) (by decide +kernel) (p32 rfl)) <|
  fa1 (s_aload_n (kf := 0) (j := 0) (by decide +kernel) rfl) <|
  fa1 (s_getR (t2 := 20) (g := (fun c => c + 2)) (ci := 1) (f := 3) (idx := 15) (C := RX1) (T := TX1) (NF := 9) (by decide +kernel) rfl (by decide) inG_X1 (by decide) w_373 lr_X1_3 (by decide)) <|
  fa1 (s_iload_n (kf := 2) (j := 2) (by decide +kernel) rfl) <|
  fa1 (s_iald (by decide +kernel)) <|
  fa1 (s_ishl (by decide +kernel)) <|
  fa1 (s_ior (by decide +kernel)) <|
  fa1 (s_istore_n (kf := 1) (j := 1) (by decide +kernel) rfl (by decide)) <|
  fa1 (s_iinc (j := 2) (d := 1) (by decide +kernel) (by decide)) <|
  fa1 (s_goto (off := -41) (by decide +kernel) (by decide)) <|
  fa1 (s_iload_n (kf := 1) (j := 1) (by decide +kernel) rfl) <|
  fa1 (s_iret (by decide +kernel) rfl) <| fa0
theorem gg_X1_using {G : Wp} {l : Launch} : GoodM loC G l yX1_using cX1_using 3 (some .int) rm_X1_using f_X1_using := met_of kt_X1_using (lkp_snd (ks_X1_using G l)) (by decide +kernel) rfl (by decide)
