noncomputable def k_X12_show : List (Nat × Ins) := [
  (0, i_aload 1 0),
  (1, i_getI 4 12 45),
  (4, i_push 6 (.inl (-4))),
  (6, i_cmpne 9 12),
  (9, i_push 11 (.inl (-2))),
  (11, i_iret),
  (12, i_aload 13 0),
  (13, i_callV 16 1 (rcv 12) f_X12_findTerm),
  (16, i_aload 17 0),
  (17, i_aload 18 0),
  (18, i_getI 21 12 45),
  (21, i_callI 24 2 (rcv 12) f_X12_isAtRight),
  (24, i_ifne 27 30),
  (27, i_push 29 (.inl (-2))),
  (29, i_iret),
  (30, i_aload 31 0),
  (31, i_getI 34 12 16),
  (34, i_aload 35 0),
  (35, i_getI 38 12 46),
  (38, i_bin 39 (fun x y => wr (x + y))),
  (39, i_push 42 (.inl 200)),
  (42, i_cmple 45 48),
  (45, i_push 47 (.inl (-3))),
  (47, i_iret),
  (48, i_aload 49 0),
  (49, i_aload 50 0),
  (50, i_getI 53 12 45),
  (53, i_callV 56 2 (rcv 12) f_X12_shows),
  (56, i_aload 57 0),
  (57, i_push 59 (.inl (-4))),
  (59, i_putI 62 12 45),
  (62, i_aload 63 0),
  (63, i_getI 66 12 46),
  (66, i_iret)]
noncomputable def kc_X12_show : Nat → Option Ins := lkp k_X12_show
noncomputable def f_X12_show : List AV → Mem → Option Rs := den 1 kc_X12_show
abbrev rm_X12_show : Room := { frames := 6, cells := 0, slots := 0, locals := 143 }
set_option maxRecDepth 100000 in
theorem kt_X12_show : TriC kc_X12_show := lkp_tri (fa1 (tri_aload 1 0) (fa1 (tri_getI 4 12 45) (fa1 (tri_push 6 (.inl (-4))) (fa1 (tri_cmpne 9 12) (fa1 (tri_push 11 (.inl (-2))) (fa1 (tri_iret) (fa1 (tri_aload 13 0) (fa1 (tri_callV 16 1 (rcv 12) f_X12_findTerm) (fa1 (tri_aload 17 0) (fa1 (tri_aload 18 0) (fa1 (tri_getI 21 12 45) (fa1 (tri_callI 24 2 (rcv 12) f_X12_isAtRight) (fa1 (tri_ifne 27 30) (fa1 (tri_push 29 (.inl (-2))) (fa1 (tri_iret) (fa1 (tri_aload 31 0) (fa1 (tri_getI 34 12 16) (fa1 (tri_aload 35 0) (fa1 (tri_getI 38 12 46) (fa1 (tri_bin 39 (fun x y => wr (x + y))) (fa1 (tri_push 42 (.inl 200)) (fa1 (tri_cmple 45 48) (fa1 (tri_push 47 (.inl (-3))) (fa1 (tri_iret) (fa1 (tri_aload 49 0) (fa1 (tri_aload 50 0) (fa1 (tri_getI 53 12 45) (fa1 (tri_callV 56 2 (rcv 12) f_X12_shows) (fa1 (tri_aload 57 0) (fa1 (tri_push 59 (.inl (-4))) (fa1 (tri_putI 62 12 45) (fa1 (tri_aload 63 0) (fa1 (tri_getI 66 12 46) (fa1 (tri_iret) (fa0)))))))))))))))))))))))))))))))))))
set_option maxRecDepth 100000 in
set_option maxHeartbeats 4000000 in
theorem ks_X12_show (G : Wp) (l : Launch) : ∀ e ∈ k_X12_show, Snd loR G l RX12 cX12_show 1 (some .int) rm_X12_show e.1 e.2 :=
  fa1 (s_aload_n (kf := 0) (j := 0) (by decide +kernel) rfl) <|
  fa1 (s_getI (ci := 12) (f := 45) (idx := 85) (C := RX12) (T := TX12) (NF := 83) (by decide +kernel) rfl (by decide) inG_X12 (by decide) w_1283 li_X12_45) <|
  fa1 (s_bipush (n := -4) (v := -4) (by decide +kernel) (by decide +kernel) (p32 rfl)) <|
  fa1 (s_cmpne (off := 6) (by decide +kernel) (by decide)) <|
  fa1 (s_bipush (n := -2) (v := -2) (by decide +kernel) (by decide +kernel) (p32 rfl)) <|
  fa1 (s_iret (by decide +kernel) rfl) <|
  fa1 (s_aload_n (kf := 0) (j := 0) (by decide +kernel) rfl) <|
  fa1 (s_vcallV (n := 0) (ci := 12) (C := RX12) (T := TX12) (NF := 83) (idx := 366) (y := yX12_findTerm) (by decide +kernel) (gg_X12_findTerm) rfl (by decide) yv_X12_findTerm (all5 w_1675 w_1677 w_72 w_113 w_1678) rfl rfl ⟨by decide, by decide⟩) <|
  fa1 (s_aload_n (kf := 0) (j := 0) (by decide +kernel) rfl) <|
  fa1 (s_aload_n (kf := 0) (j := 0) (by decide +kernel) rfl) <|
  fa1 (s_getI (ci := 12) (f := 45) (idx := 85) (C := RX12) (T := TX12) (NF := 83) (by decide +kernel) rfl (by decide) inG_X12 (by decide) w_1283 li_X12_45) <|
  fa1 (s_vcallI (n := 1) (ci := 12) (C := RX12) (T := TX12) (NF := 83) (idx := 369) (y := yX12_isAtRight) (by decide +kernel) (gg_X12_isAtRight) rfl (by decide) yv_X12_isAtRight (all5 w_1687 w_1689 w_73 w_113 w_1690) rfl rfl ⟨by decide, by decide⟩) <|
  fa1 (s_ifne (off := 6) (by decide +kernel) (by decide)) <|
  fa1 (s_bipush (n := -2) (v := -2) (by decide +kernel) (by decide +kernel) (p32 rfl)) <|
  fa1 (s_iret (by decide +kernel) rfl) <|
  fa1 (s_aload_n (kf := 0) (j := 0) (by decide +kernel) rfl) <|
  fa1 (s_getI (ci := 12) (f := 16) (idx := 372) (C := RX12) (T := TX12) (NF := 83) (by decide +kernel) rfl (by decide) inG_X12 (by decide) w_1254 li_X12_16) <|
  fa1 (s_aload_n (kf := 0) (j := 0) (by decide +kernel) rfl) <|
  fa1 (s_getI (ci := 12) (f := 46) (idx := 358) (C := RX12) (T := TX12) (NF := 83) (by decide +kernel) rfl (by decide) inG_X12 (by decide) w_1284 li_X12_46) <|
  fa1 (s_iadd (by decide +kernel)) <|
  fa1 (s_sipush (n := 200) (v := 200) (by decide +kernel) (by decide +kernel) (p32 rfl)) <|
  fa1 (s_cmple (off := 6) (by decide +kernel) (by decide)) <|
  fa1 (s_bipush (n := -3) (v := -3) (by decide +kernel) (by decide +kernel) (p32 rfl)) <|
  fa1 (s_iret (by decide +kernel) rfl) <|
  fa1 (s_aload_n (kf := 0) (j := 0) (by decide +kernel) rfl) <|
  fa1 (s_aload_n (kf := 0) (j := 0) (by decide +kernel) rfl) <|
  fa1 (s_getI (ci := 12) (f := 45) (idx := 85) (C := RX12) (T := TX12) (NF := 83) (by decide +kernel) rfl (by decide) inG_X12 (by decide) w_1283 li_X12_45) <|
  fa1 (s_vcallV (n := 1) (ci := 12) (C := RX12) (T := TX12) (NF := 83) (idx := 381) (y := yX12_shows) (by decide +kernel) (gg_X12_shows) rfl (by decide) yv_X12_shows (all5 w_1695 w_1697 w_74 w_113 w_1698) rfl rfl ⟨by decide, by decide⟩) <|
  fa1 (s_aload_n (kf := 0) (j := 0) (by decide +kernel) rfl) <|
  fa1 (s_bipush (n := -4) (v := -4) (by decide +kernel) (by decide +kernel) (p32 rfl)) <|
  fa1 (s_putI (ci := 12) (f := 45) (idx := 85) (C := RX12) (T := TX12) (NF := 83) (by decide +kernel) rfl (by decide) inG_X12 (by decide) w_1283 tyX12 tyX12_ok nmX12 rfl (by decide +kernel) li_X12_45) <|
  fa1 (s_aload_n (kf := 0) (j := 0) (by decide +kernel) rfl) <|
  fa1 (s_getI (ci := 12) (f := 46) (idx := 358) (C := RX12) (T := TX12) (NF := 83) (by decide +kernel) rfl (by decide) inG_X12 (by decide) w_1284 li_X12_46) <|
  fa1 (s_iret (by decide +kernel) rfl) <| fa0
theorem gg_X12_show {G : Wp} {l : Launch} : GoodM loR G l yX12_show cX12_show 1 (some .int) rm_X12_show f_X12_show := met_of kt_X12_show (lkp_snd (ks_X12_show G l)) (by decide +kernel) rfl (by decide)
noncomputable def k_X12_stepOf : List (Nat × Ins) := [
  (0, i_aload 1 0),
  (1, i_iload 2 1),
  (2, i_callI 5 2 (rcv 12) f_X12_isSaying),
  (5, i_ifeq 8 24),
  (8, i_iload 9 3),
  (9, i_i2l 10),
  (10, i_push 11 (.inr (.inl 0))),
  (11, i_push 14 (.inr (.inl (2)))),
  (14, i_callI 17 3 anyv f_X12_in),
  (17, i_ifeq 20 24),
  (20, i_iload 21 2),
  (21, i_ifge 24 26),
  (24, i_push 25 (.inl (-1))),
  (25, i_iret),
  (26, i_aload 27 0),
  (27, i_getR 30 12 20 (fun _ => 10)),
  (30, i_iload 31 1),
  (31, i_ald 32 20 lnR),
  (32, i_push 34 (.inl (-4))),
  (34, i_cmpne 37 40),
  (37, i_push 39 (.inl (-4))),
  (39, i_iret),
  (40, i_iload 41 2),
  (41, i_aload 42 0),
  (42, i_getR 45 12 20 (fun _ => 11)),
  (45, i_iload 46 1),
  (46, i_ald 47 20 lnR),
  (47, i_cmplt 50 52),
  (50, i_push 51 (.inl (-1))),
  (51, i_iret),
  (52, i_aload 53 0),
  (53, i_getR 56 12 20 (fun _ => 10)),
  (56, i_iload 57 1),
  (57, i_ald 58 20 lnR),
  (58, i_iload 59 2),
  (59, i_bin 60 (fun x y => wr (x + y))),
  (60, i_istore 62 4),
  (62, i_iload 63 3),
  (63, i_ifne 66 76),
  (66, i_aload 67 0),
  (67, i_getR 70 12 20 (fun _ => 14)),
  (70, i_iload 72 4),
  (72, i_ald 73 20 lnR),
  (73, i_goto 98),
  (76, i_iload 77 3),
  (77, i_push 78 (.inl 1)),
  (78, i_cmpne 81 91),
  (81, i_aload 82 0),
  (82, i_getR 85 12 20 (fun _ => 15)),
  (85, i_iload 87 4),
  (87, i_ald 88 20 lnR),
  (88, i_goto 98),
  (91, i_aload 92 0),
  (92, i_getR 95 12 20 (fun _ => 16)),
  (95, i_iload 97 4),
  (97, i_ald 98 20 lnR),
  (98, i_iret)]
noncomputable def kc_X12_stepOf : Nat → Option Ins := lkp k_X12_stepOf
noncomputable def f_X12_stepOf : List AV → Mem → Option Rs := den 5 kc_X12_stepOf
abbrev rm_X12_stepOf : Room := { frames := 2, cells := 0, slots := 0, locals := 46 }
set_option maxRecDepth 100000 in
theorem kt_X12_stepOf : TriC kc_X12_stepOf := lkp_tri (fa1 (tri_aload 1 0) (fa1 (tri_iload 2 1) (fa1 (tri_callI 5 2 (rcv 12) f_X12_isSaying) (fa1 (tri_ifeq 8 24) (fa1 (tri_iload 9 3) (fa1 (tri_i2l 10) (fa1 (tri_push 11 (.inr (.inl 0))) (fa1 (tri_push 14 (.inr (.inl (2)))) (fa1 (tri_callI 17 3 anyv f_X12_in) (fa1 (tri_ifeq 20 24) (fa1 (tri_iload 21 2) (fa1 (tri_ifge 24 26) (fa1 (tri_push 25 (.inl (-1))) (fa1 (tri_iret) (fa1 (tri_aload 27 0) (fa1 (tri_getR 30 12 20 (fun _ => 10)) (fa1 (tri_iload 31 1) (fa1 (tri_ald 32 20 lnR) (fa1 (tri_push 34 (.inl (-4))) (fa1 (tri_cmpne 37 40) (fa1 (tri_push 39 (.inl (-4))) (fa1 (tri_iret) (fa1 (tri_iload 41 2) (fa1 (tri_aload 42 0) (fa1 (tri_getR 45 12 20 (fun _ => 11)) (fa1 (tri_iload 46 1) (fa1 (tri_ald 47 20 lnR) (fa1 (tri_cmplt 50 52) (fa1 (tri_push 51 (.inl (-1))) (fa1 (tri_iret) (fa1 (tri_aload 53 0) (fa1 (tri_getR 56 12 20 (fun _ => 10)) (fa1 (tri_iload 57 1) (fa1 (tri_ald 58 20 lnR) (fa1 (tri_iload 59 2) (fa1 (tri_bin 60 (fun x y => wr (x + y))) (fa1 (tri_istore 62 4) (fa1 (tri_iload 63 3) (fa1 (tri_ifne 66 76) (fa1 (tri_aload 67 0) (fa1 (tri_getR 70 12 20 (fun _ => 14)) (fa1 (tri_iload 72 4) (fa1 (tri_ald 73 20 lnR) (fa1 (tri_goto 98) (fa1 (tri_iload 77 3) (fa1 (tri_push 78 (.inl 1)) (fa1 (tri_cmpne 81 91) (fa1 (tri_aload 82 0) (fa1 (tri_getR 85 12 20 (fun _ => 15)) (fa1 (tri_iload 87 4) (fa1 (tri_ald 88 20 lnR) (fa1 (tri_goto 98) (fa1 (tri_aload 92 0) (fa1 (tri_getR 95 12 20 (fun _ => 16)) (fa1 (tri_iload 97 4) (fa1 (tri_ald 98 20 lnR) (fa1 (tri_iret) (fa0))))))))))))))))))))))))))))))))))))))))))))))))))))))))))
set_option maxRecDepth 100000 in
set_option maxHeartbeats 4000000 in
theorem ks_X12_stepOf (G : Wp) (l : Launch) : ∀ e ∈ k_X12_stepOf, Snd loR G l RX12 cX12_stepOf 5 (some .int) rm_X12_stepOf e.1 e.2 :=
  fa1 (s_aload_n (kf := 0) (j := 0) (by decide +kernel) rfl) <|
  fa1 (s_iload_n (kf := 1) (j := 1) (by decide +kernel) rfl) <|
  fa1 (s_vcallI (n := 1) (ci := 12) (C := RX12) (T := TX12) (NF := 83) (idx := 287) (y := yX12_isSaying) (by decide +kernel) (gg_X12_isSaying) rfl (by decide) yv_X12_isSaying (all5 w_1581 w_1583 w_56 w_113 w_1584) rfl rfl ⟨by decide, by decide⟩) <|
  fa1 (s_ifeq (off := 19) (by decide +kernel) (by decide)) <|
  fa1 (s_iload_n (kf := 3) (j := 3) (by decide +kernel) rfl) <|
  fa1 (s_i2l (by decide +kernel)) <|
  fa1 (s_lconst (n := 0) (v := 0) (by decide +kernel) (by decide +kernel) (p64 rfl)) <|
  fa1 (s_ldc2 (idx := 244) (v := 2) (by decide +kernel) w_1534 (p64 rfl)) <|
  fa1 (s_scallI (n := 3) (idx := 187) (y := yX12_in) (by decide +kernel) (gg_X12_in) yv_X12_in (all4 w_1498 w_1499 w_113 w_1500) rfl rfl ⟨by decide, by decide⟩) <|
  fa1 (s_ifeq (off := 7) (by decide +kernel) (by decide)) <|
  fa1 (s_iload_n (kf := 2) (j := 2) (by decide +kernel) rfl) <|
  fa1 (s_ifge (off := 5) (by decide +kernel) (by decide)) <|
  fa1 (s_iconst (n := -1) (v := -1) (by decide +kernel) (by decide +kernel) (p32 rfl)) <|
  fa1 (s_iret (by decide +kernel) rfl) <|
  fa1 (s_aload_n (kf := 0) (j := 0) (by decide +kernel) rfl) <|
  fa1 (s_getR (t2 := 20) (g := (fun _ => 10)) (ci := 12) (f := 11) (idx := 37) (C := RX12) (T := TX12) (NF := 83) (by decide +kernel) rfl (by decide) inG_X12 (by decide) w_1249 lr_X12_11 (by decide)) <|
  fa1 (s_iload_n (kf := 1) (j := 1) (by decide +kernel) rfl) <|
  fa1 (s_iald (by decide +kernel)) <|
  fa1 (s_bipush (n := -4) (v := -4) (by decide +kernel) (by decide +kernel) (p32 rfl)) <|
  fa1 (s_cmpne (off := 6) (by decide +kernel) (by decide)) <|
  fa1 (s_bipush (n := -4) (v := -4) (by decide +kernel) (by decide +kernel) (p32 rfl)) <|
  fa1 (s_iret (by decide +kernel) rfl) <|
  fa1 (s_iload_n (kf := 2) (j := 2) (by decide +kernel) rfl) <|
  fa1 (s_aload_n (kf := 0) (j := 0) (by decide +kernel) rfl) <|
  fa1 (s_getR (t2 := 20) (g := (fun _ => 11)) (ci := 12) (f := 12) (idx := 40) (C := RX12) (T := TX12) (NF := 83) (by decide +kernel) rfl (by decide) inG_X12 (by decide) w_1250 lr_X12_12 (by decide)) <|
  fa1 (s_iload_n (kf := 1) (j := 1) (by decide +kernel) rfl) <|
  fa1 (s_iald (by decide +kernel)) <|
  fa1 (s_cmplt (off := 5) (by decide +kernel) (by decide)) <|
  fa1 (s_iconst (n := -1) (v := -1) (by decide +kernel) (by decide +kernel) (p32 rfl)) <|
  fa1 (s_iret (by decide +kernel) rfl) <|
  fa1 (s_aload_n (kf := 0) (j := 0) (by decide +kernel) rfl) <|
  fa1 (s_getR (t2 := 20) (g := (fun _ => 10)) (ci := 12) (f := 11) (idx := 37) (C := RX12) (T := TX12) (NF := 83) (by decide +kernel) rfl (by decide) inG_X12 (by decide) w_1249 lr_X12_11 (by decide)) <|
  fa1 (s_iload_n (kf := 1) (j := 1) (by decide +kernel) rfl) <|
  fa1 (s_iald (by decide +kernel)) <|
  fa1 (s_iload_n (kf := 2) (j := 2) (by decide +kernel) rfl) <|
  fa1 (s_iadd (by decide +kernel)) <|
  fa1 (s_istore (j := 4) (by decide +kernel) (by decide)) <|
  fa1 (s_iload_n (kf := 3) (j := 3) (by decide +kernel) rfl) <|
  fa1 (s_ifne (off := 13) (by decide +kernel) (by decide)) <|
  fa1 (s_aload_n (kf := 0) (j := 0) (by decide +kernel) rfl) <|
  fa1 (s_getR (t2 := 20) (g := (fun _ => 14)) (ci := 12) (f := 17) (idx := 49) (C := RX12) (T := TX12) (NF := 83) (by decide +kernel) rfl (by decide) inG_X12 (by decide) w_1255 lr_X12_17 (by decide)) <|
  fa1 (s_iload (j := 4) (by decide +kernel)) <|
  fa1 (s_iald (by decide +kernel)) <|
  fa1 (s_goto (off := 25) (by decide +kernel) (by decide)) <|
  fa1 (s_iload_n (kf := 3) (j := 3) (by decide +kernel) rfl) <|
  fa1 (s_iconst (n := 1) (v := 1) (by decide +kernel) (by decide +kernel) (p32 rfl)) <|
  fa1 (s_cmpne (off := 13) (by decide +kernel) (by decide)) <|
  fa1 (s_aload_n (kf := 0) (j := 0) (by decide +kernel) rfl) <|
  fa1 (s_getR (t2 := 20) (g := (fun _ => 15)) (ci := 12) (f := 18) (idx := 52) (C := RX12) (T := TX12) (NF := 83) (by decide +kernel) rfl (by decide) inG_X12 (by decide) w_1256 lr_X12_18 (by decide)) <|
  fa1 (s_iload (j := 4) (by decide +kernel)) <|
  fa1 (s_iald (by decide +kernel)) <|
  fa1 (s_goto (off := 10) (by decide +kernel) (by decide)) <|
  fa1 (s_aload_n (kf := 0) (j := 0) (by decide +kernel) rfl) <|
  fa1 (s_getR (t2 := 20) (g := (fun _ => 16)) (ci := 12) (f := 19) (idx := 55) (C := RX12) (T := TX12) (NF := 83) (by decide +kernel) rfl (by decide) inG_X12 (by decide) w_1257 lr_X12_19 (by decide)) <|
  fa1 (s_iload (j := 4) (by decide +kernel)) <|
  fa1 (s_iald (by decide +kernel)) <|
  fa1 (s_iret (by decide +kernel) rfl) <| fa0
theorem gg_X12_stepOf {G : Wp} {l : Launch} : GoodM loR G l yX12_stepOf cX12_stepOf 5 (some .int) rm_X12_stepOf f_X12_stepOf := met_of kt_X12_stepOf (lkp_snd (ks_X12_stepOf G l)) (by decide +kernel) rfl (by decide)
noncomputable def k_X12_change : List (Nat × Ins) := [
  (0, i_aload 1 0),
  (1, i_iload 2 1),
  (2, i_callI 5 2 (rcv 12) f_X12_isWord),
  (5, i_ifne 8 10),
  (8, i_push 9 (.inl (-1))),
  (9, i_iret),
  (10, i_aload 11 0),
  (11, i_push 12 (.inl 0)),
  (12, i_putI 15 12 30),
  (15, i_aload 16 0),
  (16, i_push 17 (.inl 0)),
  (17, i_putI 20 12 26),
  (20, i_aload 21 0),
  (21, i_callV 24 1 (rcv 12) f_X12_next),
  (24, i_aload 25 0),
  (25, i_getI 28 12 30),
  (28, i_ifne 31 42),
  (31, i_aload 32 0),
  (32, i_aload 33 0),
  (33, i_getR 36 12 20 (fun _ => 2)),
  (36, i_iload 37 1),
  (37, i_ald 38 20 lnR),
  (38, i_iload 39 1),
  (39, i_callV 42 3 (rcv 12) f_X12_readTerm),
  (42, i_aload 43 0),
  (43, i_getI 46 12 30),
  (46, i_ifne 49 66),
  (49, i_aload 50 0),
  (50, i_aload 51 0),
  (51, i_getI 54 12 28),
  (54, i_ifne 57 61),
  (57, i_push 58 (.inl 1)),
  (58, i_goto 62),
  (61, i_push 62 (.inl 0)),
  (62, i_push 63 (.inl 2)),
  (63, i_callV 66 3 (rcv 12) f_X12_wants),
  (66, i_aload 67 0),
  (67, i_push 68 (.inl 0)),
  (68, i_putI 71 12 25),
  (71, i_aload 72 0),
  (72, i_getI 75 12 30),
  (75, i_ifle 78 86),
  (78, i_push 80 (.inl (-10))),
  (80, i_aload 81 0),
  (81, i_getI 84 12 31),
  (84, i_bin 85 (fun x y => wr (x - y))),
  (85, i_iret),
  (86, i_push 87 (.inl 0)),
  (87, i_istore 88 2),
  (88, i_iload 89 2),
  (89, i_aload 90 0),
  (90, i_getI 93 12 5),
  (93, i_cmpge 96 132),
  (96, i_aload 97 0),
  (97, i_getR 100 12 23 (fun _ => 29)),
  (100, i_iload 101 2),
  (101, i_aload 102 0),
  (102, i_getR 105 12 20 (fun _ => 7)),
  (105, i_iload 106 2),
  (106, i_ald 107 20 lnR),
  (107, i_push 108 (.inl 2)),
  (108, i_cmpne 111 124),
  (111, i_aload 112 0),
  (112, i_iload 113 2),
  (113, i_iload 114 1),
  (114, i_callI 117 3 (rcv 12) f_X12_putsWord),
  (117, i_ifeq 120 124),
  (120, i_push 121 (.inl 1)),
  (121, i_goto 125),
  (124, i_push 125 (.inl 0)),
  (125, i_ast 126 23 lnR wZ),
  (126, i_iinc 129 2 (1)),
  (129, i_goto 88),
  (132, i_aload 133 0),
  (133, i_iload 134 1),
  (134, i_callV 137 2 (rcv 12) f_X12_keepsMeaning),
  (137, i_aload 138 0),
  (138, i_push 139 (.inl 0)),
  (139, i_putZ 142 12 68),
  (142, i_aload 143 0),
  (143, i_push 145 (.inl (-4))),
  (145, i_putI 148 12 45),
  (148, i_push 149 (.inl 0)),
  (149, i_istore 150 2),
  (150, i_push 151 (.inl 0)),
  (151, i_istore 152 3),
  (152, i_iload 153 3),
  (153, i_aload 154 0),
  (154, i_getI 157 12 15),
  (157, i_cmpge 160 279),
  (160, i_push 161 (.inl 0)),
  (161, i_istore 163 4),
  (163, i_iload 165 4),
  (165, i_aload 166 0),
  (166, i_getI 169 12 5),
  (169, i_cmpge 172 273),
  (172, i_aload 173 0),
  (173, i_getR 176 12 20 (fun _ => 7)),
  (176, i_iload 178 4),
  (178, i_ald 179 20 lnR),
  (179, i_push 180 (.inl 2)),
  (180, i_cmpne 183 267),
  (183, i_aload 184 0),
  (184, i_getR 187 12 20 (fun _ => 13)),
  (187, i_iload 189 4),
  (189, i_ald 190 20 lnR),
  (190, i_iload 191 3),
  (191, i_cmpne 194 267),
  (194, i_aload 195 0),
  (195, i_getR 198 12 23 (fun _ => 29)),
  (198, i_iload 200 4),
  (200, i_ald 201 23 lnR),
  (201, i_ifne 204 215),
  (204, i_aload 205 0),
  (205, i_iload 207 4),
  (207, i_callI 210 2 (rcv 12) f_X12_usesOf),
  (210, i_iload 211 2),
  (211, i_bin 212 bAnd),
  (212, i_ifeq 215 267),
  (215, i_aload 216 0),
  (216, i_iload 218 4),
  (218, i_callI 221 2 (rcv 12) f_X12_goesThrough),
  (221, i_istore 223 5),
  (223, i_iload 225 5),
  (225, i_aload 226 0),
  (226, i_getR 229 12 20 (fun _ => 11)),
  (229, i_iload 231 4),
  (231, i_ald 232 20 lnR),
  (232, i_cmplt 235 244),
  (235, i_aload 236 0),
  (236, i_iload 238 4),
  (238, i_callI 241 2 (rcv 12) f_X12_isAtRight),
  (241, i_ifne 244 267),
  (244, i_aload 245 0),
  (245, i_getR 248 12 20 (fun _ => 12)),
  (248, i_iload 250 4),
  (250, i_iload 252 5),
  (252, i_ast 253 20 lnR id),
  (253, i_iload 254 2),
  (254, i_push 255 (.inl 1)),
  (255, i_iload 257 4),
  (257, i_bin 258 bShl),
  (258, i_bin 259 bOr),
  (259, i_istore 260 2),
  (260, i_aload 261 0),
  (261, i_iload 263 4),
  (263, i_push 264 (.inl 3)),
  (264, i_callV 267 3 (rcv 12) f_X12_becomes),
  (267, i_iinc 270 4 (1)),
  (270, i_goto 163),
  (273, i_iinc 276 3 (1)),
  (276, i_goto 152),
  (279, i_iload 280 2),
  (280, i_callI 283 1 anyv f_X12_bits),
  (283, i_iret)]
noncomputable def kc_X12_change : Nat → Option Ins := lkp k_X12_change
noncomputable def f_X12_change : List AV → Mem → Option Rs := den 6 kc_X12_change
abbrev rm_X12_change : Room := { frames := 6, cells := 0, slots := 0, locals := 147 }
set_option maxRecDepth 100000 in
theorem kt_X12_change : TriC kc_X12_change := lkp_tri (fa1 (tri_aload 1 0) (fa1 (tri_iload 2 1) (fa1 (tri_callI 5 2 (rcv 12) f_X12_isWord) (fa1 (tri_ifne 8 10) (fa1 (tri_push 9 (.inl (-1))) (fa1 (tri_iret) (fa1 (tri_aload 11 0) (fa1 (tri_push 12 (.inl 0)) (fa1 (tri_putI 15 12 30) (fa1 (tri_aload 16 0) (fa1 (tri_push 17 (.inl 0)) (fa1 (tri_putI 20 12 26) (fa1 (tri_aload 21 0) (fa1 (tri_callV 24 1 (rcv 12) f_X12_next) (fa1 (tri_aload 25 0) (fa1 (tri_getI 28 12 30) (fa1 (tri_ifne 31 42) (fa1 (tri_aload 32 0) (fa1 (tri_aload 33 0) (fa1 (tri_getR 36 12 20 (fun _ => 2)) (fa1 (tri_iload 37 1) (fa1 (tri_ald 38 20 lnR) (fa1 (tri_iload 39 1) (fa1 (tri_callV 42 3 (rcv 12) f_X12_readTerm) (fa1 (tri_aload 43 0) (fa1 (tri_getI 46 12 30) (fa1 (tri_ifne 49 66) (fa1 (tri_aload 50 0) (fa1 (tri_aload 51 0) (fa1 (tri_getI 54 12 28) (fa1 (tri_ifne 57 61) (fa1 (tri_push 58 (.inl 1)) (fa1 (tri_goto 62) (fa1 (tri_push 62 (.inl 0)) (fa1 (tri_push 63 (.inl 2)) (fa1 (tri_callV 66 3 (rcv 12) f_X12_wants) (fa1 (tri_aload 67 0) (fa1 (tri_push 68 (.inl 0)) (fa1 (tri_putI 71 12 25) (fa1 (tri_aload 72 0) (fa1 (tri_getI 75 12 30) (fa1 (tri_ifle 78 86) (fa1 (tri_push 80 (.inl (-10))) (fa1 (tri_aload 81 0) (fa1 (tri_getI 84 12 31) (fa1 (tri_bin 85 (fun x y => wr (x - y))) (fa1 (tri_iret) (fa1 (tri_push 87 (.inl 0)) (fa1 (tri_istore 88 2) (fa1 (tri_iload 89 2) (fa1 (tri_aload 90 0) (fa1 (tri_getI 93 12 5) (fa1 (tri_cmpge 96 132) (fa1 (tri_aload 97 0) (fa1 (tri_getR 100 12 23 (fun _ => 29)) (fa1 (tri_iload 101 2) (fa1 (tri_aload 102 0) (fa1 (tri_getR 105 12 20 (fun _ => 7)) (fa1 (tri_iload 106 2) (fa1 (tri_ald 107 20 lnR) (fa1 (tri_push 108 (.inl 2)) (fa1 (tri_cmpne 111 124) (fa1 (tri_aload 112 0) (fa1 (tri_iload 113 2) (fa1 (tri_iload 114 1) (fa1 (tri_callI 117 3 (rcv 12) f_X12_putsWord) (fa1 (tri_ifeq 120 124) (fa1 (tri_push 121 (.inl 1)) (fa1 (tri_goto 125) (fa1 (tri_push 125 (.inl 0)) (fa1 (tri_ast 126 23 lnR wZ) (fa1 (tri_iinc 129 2 (1)) (fa1 (tri_goto 88) (fa1 (tri_aload 133 0) (fa1 (tri_iload 134 1) (fa1 (tri_callV 137 2 (rcv 12) f_X12_keepsMeaning) (fa1 (tri_aload 138 0) (fa1 (tri_push 139 (.inl 0)) (fa1 (tri_putZ 142 12 68) (fa1 (tri_aload 143 0) (fa1 (tri_push 145 (.inl (-4))) (fa1 (tri_putI 148 12 45) (fa1 (tri_push 149 (.inl 0)) (fa1 (tri_istore 150 2) (fa1 (tri_push 151 (.inl 0)) (fa1 (tri_istore 152 3) (fa1 (tri_iload 153 3) (fa1 (tri_aload 154 0) (fa1 (tri_getI 157 12 15) (fa1 (tri_cmpge 160 279) (fa1 (tri_push 161 (.inl 0)) (fa1 (tri_istore 163 4) (fa1 (tri_iload 165 4) (fa1 (tri_aload 166 0) (fa1 (tri_getI 169 12 5) (fa1 (tri_cmpge 172 273) (fa1 (tri_aload 173 0) (fa1 (tri_getR 176 12 20 (fun _ => 7)) (fa1 (tri_iload 178 4) (fa1 (tri_ald 179 20 lnR) (fa1 (tri_push 180 (.inl 2)) (fa1 (tri_cmpne 183 267) (fa1 (tri_aload 184 0) (fa1 (tri_getR 187 12 20 (fun _ => 13)) (fa1 (tri_iload 189 4) (fa1 (tri_ald 190 20 lnR) (fa1 (tri_iload 191 3) (fa1 (tri_cmpne 194 267) (fa1 (tri_aload 195 0) (fa1 (tri_getR 198 12 23 (fun _ => 29)) (fa1 (tri_iload 200 4) (fa1 (tri_ald 201 23 lnR) (fa1 (tri_ifne 204 215) (fa1 (tri_aload 205 0) (fa1 (tri_iload 207 4) (fa1 (tri_callI 210 2 (rcv 12) f_X12_usesOf) (fa1 (tri_iload 211 2) (fa1 (tri_bin 212 bAnd) (fa1 (tri_ifeq 215 267) (fa1 (tri_aload 216 0) (fa1 (tri_iload 218 4) (fa1 (tri_callI 221 2 (rcv 12) f_X12_goesThrough) (fa1 (tri_istore 223 5) (fa1 (tri_iload 225 5) (fa1 (tri_aload 226 0) (fa1 (tri_getR 229 12 20 (fun _ => 11)) (fa1 (tri_iload 231 4) (fa1 (tri_ald 232 20 lnR) (fa1 (tri_cmplt 235 244) (fa1 (tri_aload 236 0) (fa1 (tri_iload 238 4) (fa1 (tri_callI 241 2 (rcv 12) f_X12_isAtRight) (fa1 (tri_ifne 244 267) (fa1 (tri_aload 245 0) (fa1 (tri_getR 248 12 20 (fun _ => 12)) (fa1 (tri_iload 250 4) (fa1 (tri_iload 252 5) (fa1 (tri_ast 253 20 lnR id) (fa1 (tri_iload 254 2) (fa1 (tri_push 255 (.inl 1)) (fa1 (tri_iload 257 4) (fa1 (tri_bin 258 bShl) (fa1 (tri_bin 259 bOr) (fa1 (tri_istore 260 2) (fa1 (tri_aload 261 0) (fa1 (tri_iload 263 4) (fa1 (tri_push 264 (.inl 3)) (fa1 (tri_callV 267 3 (rcv 12) f_X12_becomes) (fa1 (tri_iinc 270 4 (1)) (fa1 (tri_goto 163) (fa1 (tri_iinc 276 3 (1)) (fa1 (tri_goto 152) (fa1 (tri_iload 280 2) (fa1 (tri_callI 283 1 anyv f_X12_bits) (fa1 (tri_iret) (fa0))))))))))))))))))))))))))))))))))))))))))))))))))))))))))))))))))))))))))))))))))))))))))))))))))))))))))))))))))))))))))))))))))))))))))))))))))))))))))))
set_option maxRecDepth 100000 in
set_option maxHeartbeats 4000000 in
theorem ks_X12_change (G : Wp) (l : Launch) : ∀ e ∈ k_X12_change, Snd loR G l RX12 cX12_change 6 (some .int) rm_X12_change e.1 e.2 :=
  fa1 (s_aload_n (kf := 0) (j := 0) (by decide +kernel) rfl) <|
  fa1 (s_iload_n (kf := 1) (j := 1) (by decide +kernel) rfl) <|
  fa1 (s_vcallI (n := 1) (ci := 12) (C := RX12) (T := TX12) (NF := 83) (idx := 302) (y := yX12_isWord) (by decide +kernel) (gg_X12_isWord) rfl (by decide) yv_X12_isWord (all5 w_1609 w_1611 w_60 w_113 w_1612) rfl rfl ⟨by decide, by decide⟩) <|
  fa1 (s_ifne (off := 5) (by decide +kernel) (by decide)) <|
  fa1 (s_iconst (n := -1) (v := -1) (by decide +kernel) (by decide +kernel) (p32 rfl)) <|
  fa1 (s_iret (by decide +kernel) rfl) <|
  fa1 (s_aload_n (kf := 0) (j := 0) (by decide +kernel) rfl) <|
  fa1 (s_iconst (n := 0) (v := 0) (by decide +kernel) (by decide +kernel) (p32 rfl)) <|
  fa1 (s_putI (ci := 12) (f := 30) (idx := 199) (C := RX12) (T := TX12) (NF := 83) (by decide +kernel) rfl (by decide) inG_X12 (by decide) w_1268 tyX12 tyX12_ok nmX12 rfl (by decide +kernel) li_X12_30) <|
  fa1 (s_aload_n (kf := 0) (j := 0) (by decide +kernel) rfl) <|
  fa1 (s_iconst (n := 0) (v := 0) (by decide +kernel) (by decide +kernel) (p32 rfl)) <|
  fa1 (s_putI (ci := 12) (f := 26) (idx := 208) (C := RX12) (T := TX12) (NF := 83) (by decide +kernel) rfl (by decide) inG_X12 (by decide) w_1264 tyX12 tyX12_ok nmX12 rfl (by decide +kernel) li_X12_26) <|
  fa1 (s_aload_n (kf := 0) (j := 0) (by decide +kernel) rfl) <|
  fa1 (s_vcallV (n := 0) (ci := 12) (C := RX12) (T := TX12) (NF := 83) (idx := 232) (y := yX12_next) (by decide +kernel) (gg_X12_next) rfl (by decide) yv_X12_next (all5 w_1505 w_1507 w_43 w_113 w_1508) rfl rfl ⟨by decide, by decide⟩) <|
  fa1 (s_aload_n (kf := 0) (j := 0) (by decide +kernel) rfl) <|
  fa1 (s_getI (ci := 12) (f := 30) (idx := 199) (C := RX12) (T := TX12) (NF := 83) (by decide +kernel) rfl (by decide) inG_X12 (by decide) w_1268 li_X12_30) <|
  fa1 (s_ifne (off := 14) (by decide +kernel) (by decide)) <|
  fa1 (s_aload_n (kf := 0) (j := 0) (by decide +kernel) rfl) <|
  fa1 (s_aload_n (kf := 0) (j := 0) (by decide +kernel) rfl) <|
  fa1 (s_getR (t2 := 20) (g := (fun _ => 2)) (ci := 12) (f := 2) (idx := 13) (C := RX12) (T := TX12) (NF := 83) (by decide +kernel) rfl (by decide) inG_X12 (by decide) w_1240 lr_X12_2 (by decide)) <|
  fa1 (s_iload_n (kf := 1) (j := 1) (by decide +kernel) rfl) <|
  fa1 (s_iald (by decide +kernel)) <|
  fa1 (s_iload_n (kf := 1) (j := 1) (by decide +kernel) rfl) <|
  fa1 (s_vcallV (n := 2) (ci := 12) (C := RX12) (T := TX12) (NF := 83) (idx := 246) (y := yX12_readTerm) (by decide +kernel) (gg_X12_readTerm) rfl (by decide) yv_X12_readTerm (all5 w_1535 w_1537 w_49 w_113 w_1538) rfl rfl ⟨by decide, by decide⟩) <|
  fa1 (s_aload_n (kf := 0) (j := 0) (by decide +kernel) rfl) <|
  fa1 (s_getI (ci := 12) (f := 30) (idx := 199) (C := RX12) (T := TX12) (NF := 83) (by decide +kernel) rfl (by decide) inG_X12 (by decide) w_1268 li_X12_30) <|
  fa1 (s_ifne (off := 20) (by decide +kernel) (by decide)) <|
  fa1 (s_aload_n (kf := 0) (j := 0) (by decide +kernel) rfl) <|
  fa1 (s_aload_n (kf := 0) (j := 0) (by decide +kernel) rfl) <|
  fa1 (s_getI (ci := 12) (f := 28) (idx := 214) (C := RX12) (T := TX12) (NF := 83) (by decide +kernel) rfl (by decide) inG_X12 (by decide) w_1266 li_X12_28) <|
  fa1 (s_ifne (off := 7) (by decide +kernel) (by decide)) <|
  fa1 (s_iconst (n := 1) (v := 1) (by decide +kernel) (by decide +kernel) (p32 rfl)) <|
  fa1 (s_goto (off := 4) (by decide +kernel) (by decide)) <|
  fa1 (s_iconst (n := 0) (v := 0) (by decide +kernel) (by decide +kernel) (p32 rfl)) <|
  fa1 (s_iconst (n := 2) (v := 2) (by decide +kernel) (by decide +kernel) (p32 rfl)) <|
  fa1 (s_vcallV (n := 2) (ci := 12) (C := RX12) (T := TX12) (NF := 83) (idx := 228) (y := yX12_wants) (by decide +kernel) (gg_X12_wants) rfl (by decide) yv_X12_wants (all5 w_1517 w_1519 w_45 w_113 w_1520) rfl rfl ⟨by decide, by decide⟩) <|
  fa1 (s_aload_n (kf := 0) (j := 0) (by decide +kernel) rfl) <|
  fa1 (s_iconst (n := 0) (v := 0) (by decide +kernel) (by decide +kernel) (p32 rfl)) <|
  fa1 (s_putI (ci := 12) (f := 25) (idx := 194) (C := RX12) (T := TX12) (NF := 83) (by decide +kernel) rfl (by decide) inG_X12 (by decide) w_1263 tyX12 tyX12_ok nmX12 rfl (by decide +kernel) li_X12_25) <|
  fa1 (s_aload_n (kf := 0) (j := 0) (by decide +kernel) rfl) <|
  fa1 (s_getI (ci := 12) (f := 30) (idx := 199) (C := RX12) (T := TX12) (NF := 83) (by decide +kernel) rfl (by decide) inG_X12 (by decide) w_1268 li_X12_30) <|
  fa1 (s_ifle (off := 11) (by decide +kernel) (by decide)) <|
  fa1 (s_bipush (n := -10) (v := -10) (by decide +kernel) (by decide +kernel) (p32 rfl)) <|
  fa1 (s_aload_n (kf := 0) (j := 0) (by decide +kernel) rfl) <|
  fa1 (s_getI (ci := 12) (f := 31) (idx := 205) (C := RX12) (T := TX12) (NF := 83) (by decide +kernel) rfl (by decide) inG_X12 (by decide) w_1269 li_X12_31) <|
  fa1 (s_isub (by decide +kernel)) <|
  fa1 (s_iret (by decide +kernel) rfl) <|
  fa1 (s_iconst (n := 0) (v := 0) (by decide +kernel) (by decide +kernel) (p32 rfl)) <|
  fa1 (s_istore_n (kf := 2) (j := 2) (by decide +kernel) rfl (by decide)) <|
  fa1 (s_iload_n (kf := 2) (j := 2) (by decide +kernel) rfl) <|
  fa1 (s_aload_n (kf := 0) (j := 0) (by decide +kernel) rfl) <|
  fa1 (s_getI (ci := 12) (f := 5) (idx := 184) (C := RX12) (T := TX12) (NF := 83) (by decide +kernel) rfl (by decide) inG_X12 (by decide) w_1243 li_X12_5) <|
  fa1 (s_cmpge (off := 39) (by decide +kernel) (by decide)) <|
  fa1 (s_aload_n (kf := 0) (j := 0) (by decide +kernel) rfl) <|
  fa1 (s_getR (t2 := 23) (g := (fun _ => 29)) (ci := 12) (f := 50) (idx := 98) (C := RX12) (T := TX12) (NF := 83) (by decide +kernel) rfl (by decide) inG_X12 (by decide) w_1288 lr_X12_50 (by decide)) <|
  fa1 (s_iload_n (kf := 2) (j := 2) (by decide +kernel) rfl) <|
  fa1 (s_aload_n (kf := 0) (j := 0) (by decide +kernel) rfl) <|
  fa1 (s_getR (t2 := 20) (g := (fun _ => 7)) (ci := 12) (f := 8) (idx := 28) (C := RX12) (T := TX12) (NF := 83) (by decide +kernel) rfl (by decide) inG_X12 (by decide) w_1246 lr_X12_8 (by decide)) <|
  fa1 (s_iload_n (kf := 2) (j := 2) (by decide +kernel) rfl) <|
  fa1 (s_iald (by decide +kernel)) <|
  fa1 (s_iconst (n := 2) (v := 2) (by decide +kernel) (by decide +kernel) (p32 rfl)) <|
  fa1 (s_cmpne (off := 16) (by decide +kernel) (by decide)) <|
  fa1 (s_aload_n (kf := 0) (j := 0) (by decide +kernel) rfl) <|
  fa1 (s_iload_n (kf := 2) (j := 2) (by decide +kernel) rfl) <|
  fa1 (s_iload_n (kf := 1) (j := 1) (by decide +kernel) rfl) <|
  fa1 (s_vcallI (n := 2) (ci := 12) (C := RX12) (T := TX12) (NF := 83) (idx := 307) (y := yX12_putsWord) (by decide +kernel) (gg_X12_putsWord) rfl (by decide) yv_X12_putsWord (all5 w_1614 w_1616 w_61 w_113 w_1617) rfl rfl ⟨by decide, by decide⟩) <|
  fa1 (s_ifeq (off := 7) (by decide +kernel) (by decide)) <|
  fa1 (s_iconst (n := 1) (v := 1) (by decide +kernel) (by decide +kernel) (p32 rfl)) <|
  fa1 (s_goto (off := 4) (by decide +kernel) (by decide)) <|
  fa1 (s_iconst (n := 0) (v := 0) (by decide +kernel) (by decide +kernel) (p32 rfl)) <|
  fa1 (s_zast (by decide +kernel) lt_loR_23) <|
  fa1 (s_iinc (j := 2) (d := 1) (by decide +kernel) (by decide)) <|
  fa1 (s_goto (off := -41) (by decide +kernel) (by decide)) <|
  fa1 (s_aload_n (kf := 0) (j := 0) (by decide +kernel) rfl) <|
  fa1 (s_iload_n (kf := 1) (j := 1) (by decide +kernel) rfl) <|
  fa1 (s_vcallV (n := 1) (ci := 12) (C := RX12) (T := TX12) (NF := 83) (idx := 250) (y := yX12_keepsMeaning) (by decide +kernel) (gg_X12_keepsMeaning) rfl (by decide) yv_X12_keepsMeaning (all5 w_1547 w_1549 w_52 w_113 w_1550) rfl rfl ⟨by decide, by decide⟩) <|
  fa1 (s_aload_n (kf := 0) (j := 0) (by decide +kernel) rfl) <|
  fa1 (s_iconst (n := 0) (v := 0) (by decide +kernel) (by decide +kernel) (p32 rfl)) <|
  fa1 (s_putZ (ci := 12) (f := 68) (idx := 279) (C := RX12) (T := TX12) (NF := 83) (by decide +kernel) rfl (by decide) inG_X12 (by decide) w_1306 tyX12 tyX12_ok nmX12 rfl (by decide +kernel) li_X12_68) <|
  fa1 (s_aload_n (kf := 0) (j := 0) (by decide +kernel) rfl) <|
  fa1 (s_bipush (n := -4) (v := -4) (by decide +kernel) (by decide +kernel) (p32 rfl)) <|
  fa1 (s_putI (ci := 12) (f := 45) (idx := 85) (C := RX12) (T := TX12) (NF := 83) (by decide +kernel) rfl (by decide) inG_X12 (by decide) w_1283 tyX12 tyX12_ok nmX12 rfl (by decide +kernel) li_X12_45) <|
  fa1 (s_iconst (n := 0) (v := 0) (by decide +kernel) (by decide +kernel) (p32 rfl)) <|
  fa1 (s_istore_n (kf := 2) (j := 2) (by decide +kernel) rfl (by decide)) <|
  fa1 (s_iconst (n := 0) (v := 0) (by decide +kernel) (by decide +kernel) (p32 rfl)) <|
  fa1 (s_istore_n (kf := 3) (j := 3) (by decide +kernel) rfl (by decide)) <|
  fa1 (s_iload_n (kf := 3) (j := 3) (by decide +kernel) rfl) <|
  fa1 (s_aload_n (kf := 0) (j := 0) (by decide +kernel) rfl) <|
  fa1 (s_getI (ci := 12) (f := 15) (idx := 375) (C := RX12) (T := TX12) (NF := 83) (by decide +kernel) rfl (by decide) inG_X12 (by decide) w_1253 li_X12_15) <|
  fa1 (s_cmpge (off := 122) (by decide +kernel) (by decide)) <|
  fa1 (s_iconst (n := 0) (v := 0) (by decide +kernel) (by decide +kernel) (p32 rfl)) <|
  fa1 (s_istore (j := 4) (by decide +kernel) (by decide)) <|
  fa1 (s_iload (j := 4) (by decide +kernel)) <|
  fa1 (s_aload_n (kf := 0) (j := 0) (by decide +kernel) rfl) <|
  fa1 (s_getI (ci := 12) (f := 5) (idx := 184) (C := RX12) (T := TX12) (NF := 83) (by decide +kernel) rfl (by decide) inG_X12 (by decide) w_1243 li_X12_5) <|
  fa1 (s_cmpge (off := 104) (by decide +kernel) (by decide)) <|
  fa1 (s_aload_n (kf := 0) (j := 0) (by decide +kernel) rfl) <|
  fa1 (s_getR (t2 := 20) (g := (fun _ => 7)) (ci := 12) (f := 8) (idx := 28) (C := RX12) (T := TX12) (NF := 83) (by decide +kernel) rfl (by decide) inG_X12 (by decide) w_1246 lr_X12_8 (by decide)) <|
  fa1 (s_iload (j := 4) (by decide +kernel)) <|
  fa1 (s_iald (by decide +kernel)) <|
  fa1 (s_iconst (n := 2) (v := 2) (by decide +kernel) (by decide +kernel) (p32 rfl)) <|
  fa1 (s_cmpne (off := 87) (by decide +kernel) (by decide)) <|
  fa1 (s_aload_n (kf := 0) (j := 0) (by decide +kernel) rfl) <|
  fa1 (s_getR (t2 := 20) (g := (fun _ => 13)) (ci := 12) (f := 14) (idx := 46) (C := RX12) (T := TX12) (NF := 83) (by decide +kernel) rfl (by decide) inG_X12 (by decide) w_1252 lr_X12_14 (by decide)) <|
  fa1 (s_iload (j := 4) (by decide +kernel)) <|
  fa1 (s_iald (by decide +kernel)) <|
  fa1 (s_iload_n (kf := 3) (j := 3) (by decide +kernel) rfl) <|
  fa1 (s_cmpne (off := 76) (by decide +kernel) (by decide)) <|
  fa1 (s_aload_n (kf := 0) (j := 0) (by decide +kernel) rfl) <|
  fa1 (s_getR (t2 := 23) (g := (fun _ => 29)) (ci := 12) (f := 50) (idx := 98) (C := RX12) (T := TX12) (NF := 83) (by decide +kernel) rfl (by decide) inG_X12 (by decide) w_1288 lr_X12_50 (by decide)) <|
  fa1 (s_iload (j := 4) (by decide +kernel)) <|
  fa1 (s_zald (by decide +kernel)) <|
  fa1 (s_ifne (off := 14) (by decide +kernel) (by decide)) <|
  fa1 (s_aload_n (kf := 0) (j := 0) (by decide +kernel) rfl) <|
  fa1 (s_iload (j := 4) (by decide +kernel)) <|
  fa1 (s_vcallI (n := 1) (ci := 12) (C := RX12) (T := TX12) (NF := 83) (idx := 355) (y := yX12_usesOf) (by decide +kernel) (gg_X12_usesOf) rfl (by decide) yv_X12_usesOf (all5 w_1590 w_1592 w_58 w_113 w_1593) rfl rfl ⟨by decide, by decide⟩) <|
  fa1 (s_iload_n (kf := 2) (j := 2) (by decide +kernel) rfl) <|
  fa1 (s_iand (by decide +kernel)) <|
  fa1 (s_ifeq (off := 55) (by decide +kernel) (by decide)) <|
  fa1 (s_aload_n (kf := 0) (j := 0) (by decide +kernel) rfl) <|
  fa1 (s_iload (j := 4) (by decide +kernel)) <|
  fa1 (s_vcallI (n := 1) (ci := 12) (C := RX12) (T := TX12) (NF := 83) (idx := 384) (y := yX12_goesThrough) (by decide +kernel) (gg_X12_goesThrough) rfl (by decide) yv_X12_goesThrough (all5 w_1711 w_1713 w_76 w_113 w_1714) rfl rfl ⟨by decide, by decide⟩) <|
  fa1 (s_istore (j := 5) (by decide +kernel) (by decide)) <|
  fa1 (s_iload (j := 5) (by decide +kernel)) <|
  fa1 (s_aload_n (kf := 0) (j := 0) (by decide +kernel) rfl) <|
  fa1 (s_getR (t2 := 20) (g := (fun _ => 11)) (ci := 12) (f := 12) (idx := 40) (C := RX12) (T := TX12) (NF := 83) (by decide +kernel) rfl (by decide) inG_X12 (by decide) w_1250 lr_X12_12 (by decide)) <|
  fa1 (s_iload (j := 4) (by decide +kernel)) <|
  fa1 (s_iald (by decide +kernel)) <|
  fa1 (s_cmplt (off := 12) (by decide +kernel) (by decide)) <|
  fa1 (s_aload_n (kf := 0) (j := 0) (by decide +kernel) rfl) <|
  fa1 (s_iload (j := 4) (by decide +kernel)) <|
  fa1 (s_vcallI (n := 1) (ci := 12) (C := RX12) (T := TX12) (NF := 83) (idx := 369) (y := yX12_isAtRight) (by decide +kernel) (gg_X12_isAtRight) rfl (by decide) yv_X12_isAtRight (all5 w_1687 w_1689 w_73 w_113 w_1690) rfl rfl ⟨by decide, by decide⟩) <|
  fa1 (s_ifne (off := 26) (by decide +kernel) (by decide)) <|
  fa1 (s_aload_n (kf := 0) (j := 0) (by decide +kernel) rfl) <|
  fa1 (s_getR (t2 := 20) (g := (fun _ => 12)) (ci := 12) (f := 13) (idx := 43) (C := RX12) (T := TX12) (NF := 83) (by decide +kernel) rfl (by decide) inG_X12 (by decide) w_1251 lr_X12_13 (by decide)) <|
  fa1 (s_iload (j := 4) (by decide +kernel)) <|
  fa1 (s_iload (j := 5) (by decide +kernel)) <|
  fa1 (s_iast (by decide +kernel) lt_loR_20) <|
  fa1 (s_iload_n (kf := 2) (j := 2) (by decide +kernel) rfl) <|
  fa1 (s_iconst (n := 1) (v := 1) (by decide +kernel) (by decide +kernel) (p32 rfl)) <|
  fa1 (s_iload (j := 4) (by decide +kernel)) <|
  fa1 (s_ishl (by decide +kernel)) <|
  fa1 (s_ior (by decide +kernel)) <|
  fa1 (s_istore_n (kf := 2) (j := 2) (by decide +kernel) rfl (by decide)) <|
  fa1 (s_aload_n (kf := 0) (j := 0) (by decide +kernel) rfl) <|
  fa1 (s_iload (j := 4) (by decide +kernel)) <|
  fa1 (s_iconst (n := 3) (v := 3) (by decide +kernel) (by decide +kernel) (p32 rfl)) <|
  fa1 (s_vcallV (n := 2) (ci := 12) (C := RX12) (T := TX12) (NF := 83) (idx := 378) (y := yX12_becomes) (by decide +kernel) (gg_X12_becomes) rfl (by decide) yv_X12_becomes (all5 w_1699 w_1701 w_75 w_113 w_1702) rfl rfl ⟨by decide, by decide⟩) <|
  fa1 (s_iinc (j := 4) (d := 1) (by decide +kernel) (by decide)) <|
  fa1 (s_goto (off := -107) (by decide +kernel) (by decide)) <|
  fa1 (s_iinc (j := 3) (d := 1) (by decide +kernel) (by decide)) <|
  fa1 (s_goto (off := -124) (by decide +kernel) (by decide)) <|
  fa1 (s_iload_n (kf := 2) (j := 2) (by decide +kernel) rfl) <|
  fa1 (s_scallI (n := 1) (idx := 296) (y := yX12_bits) (by decide +kernel) (gg_X12_bits) yv_X12_bits (all4 w_1594 w_1595 w_113 w_1596) rfl rfl ⟨by decide, by decide⟩) <|
  fa1 (s_iret (by decide +kernel) rfl) <| fa0
theorem gg_X12_change {G : Wp} {l : Launch} : GoodM loR G l yX12_change cX12_change 6 (some .int) rm_X12_change f_X12_change := met_of kt_X12_change (lkp_snd (ks_X12_change G l)) (by decide +kernel) rfl (by decide)
noncomputable def k_X12_hashOf : List (Nat × Ins) := [
  (0, i_iload 1 2),
  (1, i_istore 2 3),
  (2, i_push 3 (.inl 0)),
  (3, i_istore 5 4),
  (5, i_iload 7 4),
  (7, i_iload 8 2),
  (8, i_cmpge 11 27),
  (11, i_push 13 (.inl 31)),
  (13, i_iload 14 3),
  (14, i_bin 15 (fun x y => wr (x * y))),
  (15, i_aload 16 1),
  (16, i_iload 18 4),
  (18, i_ald 19 20 lnR),
  (19, i_bin 20 (fun x y => wr (x + y))),
  (20, i_istore 21 3),
  (21, i_iinc 24 4 (1)),
  (24, i_goto 5),
  (27, i_iload 28 3),
  (28, i_iload 29 3),
  (29, i_push 31 (.inl 12)),
  (31, i_bin 32 bUshr),
  (32, i_bin 33 bXor),
  (33, i_push 36 (.inl 4095)),
  (36, i_bin 37 bAnd),
  (37, i_iret)]
noncomputable def kc_X12_hashOf : Nat → Option Ins := lkp k_X12_hashOf
noncomputable def f_X12_hashOf : List AV → Mem → Option Rs := den 5 kc_X12_hashOf
abbrev rm_X12_hashOf : Room := { frames := 0, cells := 0, slots := 0, locals := 0 }
set_option maxRecDepth 100000 in
theorem kt_X12_hashOf : TriC kc_X12_hashOf := lkp_tri (fa1 (tri_iload 1 2) (fa1 (tri_istore 2 3) (fa1 (tri_push 3 (.inl 0)) (fa1 (tri_istore 5 4) (fa1 (tri_iload 7 4) (fa1 (tri_iload 8 2) (fa1 (tri_cmpge 11 27) (fa1 (tri_push 13 (.inl 31)) (fa1 (tri_iload 14 3) (fa1 (tri_bin 15 (fun x y => wr (x * y))) (fa1 (tri_aload 16 1) (fa1 (tri_iload 18 4) (fa1 (tri_ald 19 20 lnR) (fa1 (tri_bin 20 (fun x y => wr (x + y))) (fa1 (tri_istore 21 3) (fa1 (tri_iinc 24 4 (1)) (fa1 (tri_goto 5) (fa1 (tri_iload 28 3) (fa1 (tri_iload 29 3) (fa1 (tri_push 31 (.inl 12)) (fa1 (tri_bin 32 bUshr) (fa1 (tri_bin 33 bXor) (fa1 (tri_push 36 (.inl 4095)) (fa1 (tri_bin 37 bAnd) (fa1 (tri_iret) (fa0))))))))))))))))))))))))))
set_option maxRecDepth 100000 in
set_option maxHeartbeats 4000000 in
theorem ks_X12_hashOf (G : Wp) (l : Launch) : ∀ e ∈ k_X12_hashOf, Snd loR G l RX12 cX12_hashOf 5 (some .int) rm_X12_hashOf e.1 e.2 :=
  fa1 (s_iload_n (kf := 2) (j := 2) (by decide +kernel) rfl) <|
  fa1 (s_istore_n (kf := 3) (j := 3) (by decide +kernel) rfl (by decide)) <|
  fa1 (s_iconst (n := 0) (v := 0) (by decide +kernel) (by decide +kernel) (p32 rfl)) <|
  fa1 (s_istore (j := 4) (by decide +kernel) (by decide)) <|
  fa1 (s_iload (j := 4) (by decide +kernel)) <|
  fa1 (s_iload_n (kf := 2) (j := 2) (by decide +kernel) rfl) <|
  fa1 (s_cmpge (off := 19) (by decide +kernel) (by decide)) <|
  fa1 (s_bipush (n := 31) (v := 31) (by decide +kernel) (by decide +kernel) (p32 rfl)) <|
  fa1 (s_iload_n (kf := 3) (j := 3) (by decide +kernel) rfl) <|
  fa1 (s_imul (by decide +kernel)) <|
  fa1 (s_aload_n (kf := 1) (j := 1) (by decide +kernel) rfl) <|
  fa1 (s_iload (j := 4) (by decide +kernel)) <|
  fa1 (s_iald (by decide +kernel)) <|
  fa1 (s_iadd (by decide +kernel)) <|
  fa1 (s_istore_n (kf := 3) (j := 3) (by decide +kernel) rfl (by decide)) <|
  fa1 (s_iinc (j := 4) (d := 1) (by decide +kernel) (by decide)) <|
  fa1 (s_goto (off := -19) (by decide +kernel) (by decide)) <|
  fa1 (s_iload_n (kf := 3) (j := 3) (by decide +kernel) rfl) <|
  fa1 (s_iload_n (kf := 3) (j := 3) (by decide +kernel) rfl) <|
  fa1 (s_bipush (n := 12) (v := 12) (by decide +kernel) (by decide +kernel) (p32 rfl)) <|
  fa1 (s_iushr (by decide +kernel)) <|
  fa1 (s_ixor (by decide +kernel)) <|
  fa1 (s_sipush (n := 4095) (v := 4095) (by decide +kernel) (by decide +kernel) (p32 rfl)) <|
  fa1 (s_iand (by decide +kernel)) <|
  fa1 (s_iret (by decide +kernel) rfl) <| fa0
theorem gg_X12_hashOf {G : Wp} {l : Launch} : GoodM loR G l yX12_hashOf cX12_hashOf 5 (some .int) rm_X12_hashOf f_X12_hashOf := met_of kt_X12_hashOf (lkp_snd (ks_X12_hashOf G l)) (by decide +kernel) rfl (by decide)
noncomputable def k_X12_isMet : List (Nat × Ins) := [
  (0, i_push 1 (.inl 0)),
  (1, i_istore 2 2),
  (2, i_aload 3 0),
  (3, i_getR 6 12 20 (fun _ => 38)),
  (6, i_iload 7 1),
  (7, i_ald 8 20 lnR),
  (8, i_istore 9 3),
  (9, i_iload 10 3),
  (10, i_iflt 13 96),
  (13, i_iload 14 2),
  (14, i_ifne 17 96),
  (17, i_aload 18 0),
  (18, i_getR 21 12 20 (fun _ => 31)),
  (21, i_iload 22 3),
  (22, i_ald 23 20 lnR),
  (23, i_aload 24 0),
  (24, i_getI 27 12 38),
  (27, i_cmpne 30 34),
  (30, i_push 31 (.inl 1)),
  (31, i_goto 35),
  (34, i_push 35 (.inl 0)),
  (35, i_istore 36 2),
  (36, i_push 37 (.inl 0)),
  (37, i_istore 39 4),
  (39, i_iload 41 4),
  (41, i_aload 42 0),
  (42, i_getI 45 12 38),
  (45, i_cmpge 48 86),
  (48, i_iload 49 2),
  (49, i_ifeq 52 86),
  (52, i_aload 53 0),
  (53, i_getR 56 12 20 (fun _ => 30)),
  (56, i_push 58 (.inl 20)),
  (58, i_iload 59 3),
  (59, i_bin 60 (fun x y => wr (x * y))),
  (60, i_iload 62 4),
  (62, i_bin 63 (fun x y => wr (x + y))),
  (63, i_ald 64 20 lnR),
  (64, i_aload 65 0),
  (65, i_getR 68 12 20 (fun _ => 21)),
  (68, i_iload 70 4),
  (70, i_ald 71 20 lnR),
  (71, i_cmpne 74 78),
  (74, i_push 75 (.inl 1)),
  (75, i_goto 79),
  (78, i_push 79 (.inl 0)),
  (79, i_istore 80 2),
  (80, i_iinc 83 4 (1)),
  (83, i_goto 39),
  (86, i_aload 87 0),
  (87, i_getR 90 12 20 (fun _ => 37)),
  (90, i_iload 91 3),
  (91, i_ald 92 20 lnR),
  (92, i_istore 93 3),
  (93, i_goto 9),
  (96, i_iload 97 2),
  (97, i_zret)]
noncomputable def kc_X12_isMet : Nat → Option Ins := lkp k_X12_isMet
noncomputable def f_X12_isMet : List AV → Mem → Option Rs := den 5 kc_X12_isMet
abbrev rm_X12_isMet : Room := { frames := 0, cells := 0, slots := 0, locals := 0 }
set_option maxRecDepth 100000 in
theorem kt_X12_isMet : TriC kc_X12_isMet := lkp_tri (fa1 (tri_push 1 (.inl 0)) (fa1 (tri_istore 2 2) (fa1 (tri_aload 3 0) (fa1 (tri_getR 6 12 20 (fun _ => 38)) (fa1 (tri_iload 7 1) (fa1 (tri_ald 8 20 lnR) (fa1 (tri_istore 9 3) (fa1 (tri_iload 10 3) (fa1 (tri_iflt 13 96) (fa1 (tri_iload 14 2) (fa1 (tri_ifne 17 96) (fa1 (tri_aload 18 0) (fa1 (tri_getR 21 12 20 (fun _ => 31)) (fa1 (tri_iload 22 3) (fa1 (tri_ald 23 20 lnR) (fa1 (tri_aload 24 0) (fa1 (tri_getI 27 12 38) (fa1 (tri_cmpne 30 34) (fa1 (tri_push 31 (.inl 1)) (fa1 (tri_goto 35) (fa1 (tri_push 35 (.inl 0)) (fa1 (tri_istore 36 2) (fa1 (tri_push 37 (.inl 0)) (fa1 (tri_istore 39 4) (fa1 (tri_iload 41 4) (fa1 (tri_aload 42 0) (fa1 (tri_getI 45 12 38) (fa1 (tri_cmpge 48 86) (fa1 (tri_iload 49 2) (fa1 (tri_ifeq 52 86) (fa1 (tri_aload 53 0) (fa1 (tri_getR 56 12 20 (fun _ => 30)) (fa1 (tri_push 58 (.inl 20)) (fa1 (tri_iload 59 3) (fa1 (tri_bin 60 (fun x y => wr (x * y))) (fa1 (tri_iload 62 4) (fa1 (tri_bin 63 (fun x y => wr (x + y))) (fa1 (tri_ald 64 20 lnR) (fa1 (tri_aload 65 0) (fa1 (tri_getR 68 12 20 (fun _ => 21)) (fa1 (tri_iload 70 4) (fa1 (tri_ald 71 20 lnR) (fa1 (tri_cmpne 74 78) (fa1 (tri_push 75 (.inl 1)) (fa1 (tri_goto 79) (fa1 (tri_push 79 (.inl 0)) (fa1 (tri_istore 80 2) (fa1 (tri_iinc 83 4 (1)) (fa1 (tri_goto 39) (fa1 (tri_aload 87 0) (fa1 (tri_getR 90 12 20 (fun _ => 37)) (fa1 (tri_iload 91 3) (fa1 (tri_ald 92 20 lnR) (fa1 (tri_istore 93 3) (fa1 (tri_goto 9) (fa1 (tri_iload 97 2) (fa1 (tri_zret) (fa0))))))))))))))))))))))))))))))))))))))))))))))))))))))))))
set_option maxRecDepth 100000 in
set_option maxHeartbeats 4000000 in
theorem ks_X12_isMet (G : Wp) (l : Launch) : ∀ e ∈ k_X12_isMet, Snd loR G l RX12 cX12_isMet 5 (some .boolean) rm_X12_isMet e.1 e.2 :=
  fa1 (s_iconst (n := 0) (v := 0) (by decide +kernel) (by decide +kernel) (p32 rfl)) <|
  fa1 (s_istore_n (kf := 2) (j := 2) (by decide +kernel) rfl (by decide)) <|
  fa1 (s_aload_n (kf := 0) (j := 0) (by decide +kernel) rfl) <|
  fa1 (s_getR (t2 := 20) (g := (fun _ => 38)) (ci := 12) (f := 59) (idx := 126) (C := RX12) (T := TX12) (NF := 83) (by decide +kernel) rfl (by decide) inG_X12 (by decide) w_1297 lr_X12_59 (by decide)) <|
  fa1 (s_iload_n (kf := 1) (j := 1) (by decide +kernel) rfl) <|
  fa1 (s_iald (by decide +kernel)) <|
  fa1 (s_istore_n (kf := 3) (j := 3) (by decide +kernel) rfl (by decide)) <|
  fa1 (s_iload_n (kf := 3) (j := 3) (by decide +kernel) rfl) <|
  fa1 (s_iflt (off := 86) (by decide +kernel) (by decide)) <|
  fa1 (s_iload_n (kf := 2) (j := 2) (by decide +kernel) rfl) <|
  fa1 (s_ifne (off := 82) (by decide +kernel) (by decide)) <|
  fa1 (s_aload_n (kf := 0) (j := 0) (by decide +kernel) rfl) <|
  fa1 (s_getR (t2 := 20) (g := (fun _ => 31)) (ci := 12) (f := 52) (idx := 105) (C := RX12) (T := TX12) (NF := 83) (by decide +kernel) rfl (by decide) inG_X12 (by decide) w_1290 lr_X12_52 (by decide)) <|
  fa1 (s_iload_n (kf := 3) (j := 3) (by decide +kernel) rfl) <|
  fa1 (s_iald (by decide +kernel)) <|
  fa1 (s_aload_n (kf := 0) (j := 0) (by decide +kernel) rfl) <|
  fa1 (s_getI (ci := 12) (f := 38) (idx := 324) (C := RX12) (T := TX12) (NF := 83) (by decide +kernel) rfl (by decide) inG_X12 (by decide) w_1276 li_X12_38) <|
  fa1 (s_cmpne (off := 7) (by decide +kernel) (by decide)) <|
  fa1 (s_iconst (n := 1) (v := 1) (by decide +kernel) (by decide +kernel) (p32 rfl)) <|
  fa1 (s_goto (off := 4) (by decide +kernel) (by decide)) <|
  fa1 (s_iconst (n := 0) (v := 0) (by decide +kernel) (by decide +kernel) (p32 rfl)) <|
  fa1 (s_istore_n (kf := 2) (j := 2) (by decide +kernel) rfl (by decide)) <|
  fa1 (s_iconst (n := 0) (v := 0) (by decide +kernel) (by decide +kernel) (p32 rfl)) <|
  fa1 (s_istore (j := 4) (by decide +kernel) (by decide)) <|
  fa1 (s_iload (j := 4) (by decide +kernel)) <|
  fa1 (s_aload_n (kf := 0) (j := 0) (by decide +kernel) rfl) <|
  fa1 (s_getI (ci := 12) (f := 38) (idx := 324) (C := RX12) (T := TX12) (NF := 83) (by decide +kernel) rfl (by decide) inG_X12 (by decide) w_1276 li_X12_38) <|
  fa1 (s_cmpge (off := 41) (by decide +kernel) (by decide)) <|
  fa1 (s_iload_n (kf := 2) (j := 2) (by decide +kernel) rfl) <|
  fa1 (s_ifeq (off := 37) (by decide +kernel) (by decide)) <|
  fa1 (s_aload_n (kf := 0) (j := 0) (by decide +kernel) rfl) <|
  fa1 (s_getR (t2 := 20) (g := (fun _ => 30)) (ci := 12) (f := 51) (idx := 102) (C := RX12) (T := TX12) (NF := 83) (by decide +kernel) rfl (by decide) inG_X12 (by decide) w_1289 lr_X12_51 (by decide)) <|
  fa1 (s_bipush (n := 20) (v := 20) (by decide +kernel) (by decide +kernel) (p32 rfl)) <|
  fa1 (s_iload_n (kf := 3) (j := 3) (by decide +kernel) rfl) <|
  fa1 (s_imul (by decide +kernel)) <|
  fa1 (s_iload (j := 4) (by decide +kernel)) <|
  fa1 (s_iadd (by decide +kernel)) <|
  fa1 (s_iald (by decide +kernel)) <|
  fa1 (s_aload_n (kf := 0) (j := 0) (by decide +kernel) rfl) <|
  fa1 (s_getR (t2 := 20) (g := (fun _ => 21)) (ci := 12) (f := 37) (idx := 70) (C := RX12) (T := TX12) (NF := 83) (by decide +kernel) rfl (by decide) inG_X12 (by decide) w_1275 lr_X12_37 (by decide)) <|
  fa1 (s_iload (j := 4) (by decide +kernel)) <|
  fa1 (s_iald (by decide +kernel)) <|
  fa1 (s_cmpne (off := 7) (by decide +kernel) (by decide)) <|
  fa1 (s_iconst (n := 1) (v := 1) (by decide +kernel) (by decide +kernel) (p32 rfl)) <|
  fa1 (s_goto (off := 4) (by decide +kernel) (by decide)) <|
  fa1 (s_iconst (n := 0) (v := 0) (by decide +kernel) (by decide +kernel) (p32 rfl)) <|
  fa1 (s_istore_n (kf := 2) (j := 2) (by decide +kernel) rfl (by decide)) <|
  fa1 (s_iinc (j := 4) (d := 1) (by decide +kernel) (by decide)) <|
  fa1 (s_goto (off := -44) (by decide +kernel) (by decide)) <|
  fa1 (s_aload_n (kf := 0) (j := 0) (by decide +kernel) rfl) <|
  fa1 (s_getR (t2 := 20) (g := (fun _ => 37)) (ci := 12) (f := 58) (idx := 123) (C := RX12) (T := TX12) (NF := 83) (by decide +kernel) rfl (by decide) inG_X12 (by decide) w_1296 lr_X12_58 (by decide)) <|
  fa1 (s_iload_n (kf := 3) (j := 3) (by decide +kernel) rfl) <|
  fa1 (s_iald (by decide +kernel)) <|
  fa1 (s_istore_n (kf := 3) (j := 3) (by decide +kernel) rfl (by decide)) <|
  fa1 (s_goto (off := -84) (by decide +kernel) (by decide)) <|
  fa1 (s_iload_n (kf := 2) (j := 2) (by decide +kernel) rfl) <|
  fa1 (s_zret (by decide +kernel) rfl) <| fa0
theorem gg_X12_isMet {G : Wp} {l : Launch} : GoodM loR G l yX12_isMet cX12_isMet 5 (some .boolean) rm_X12_isMet f_X12_isMet := met_of kt_X12_isMet (lkp_snd (ks_X12_isMet G l)) (by decide +kernel) rfl (by decide)
noncomputable def k_X12_meets : List (Nat × Ins) := [
  (0, i_aload 1 0),
  (1, i_getR 4 12 20 (fun _ => 31)),
  (4, i_aload 5 0),
  (5, i_getI 8 12 60),
  (8, i_aload 9 0),
  (9, i_getI 12 12 38),
  (12, i_ast 13 20 lnR id),
  (13, i_push 14 (.inl 0)),
  (14, i_istore 16 6),
  (16, i_iload 18 6),
  (18, i_aload 19 0),
  (19, i_getI 22 12 38),
  (22, i_cmpge 25 53),
  (25, i_aload 26 0),
  (26, i_getR 29 12 20 (fun _ => 30)),
  (29, i_push 31 (.inl 20)),
  (31, i_aload 32 0),
  (32, i_getI 35 12 60),
  (35, i_bin 36 (fun x y => wr (x * y))),
  (36, i_iload 38 6),
  (38, i_bin 39 (fun x y => wr (x + y))),
  (39, i_aload 40 0),
  (40, i_getR 43 12 20 (fun _ => 21)),
  (43, i_iload 45 6),
  (45, i_ald 46 20 lnR),
  (46, i_ast 47 20 lnR id),
  (47, i_iinc 50 6 (1)),
  (50, i_goto 16),
  (53, i_aload 54 0),
  (54, i_getR 57 12 20 (fun _ => 32)),
  (57, i_aload 58 0),
  (58, i_getI 61 12 60),
  (61, i_iload 62 2),
  (62, i_ast 63 20 lnR id),
  (63, i_aload 64 0),
  (64, i_getR 67 12 20 (fun _ => 33)),
  (67, i_aload 68 0),
  (68, i_getI 71 12 60),
  (71, i_iload 72 2),
  (72, i_push 74 (.inl (-4))),
  (74, i_cmpne 77 81),
  (77, i_push 78 (.inl 0)),
  (78, i_goto 89),
  (81, i_aload 82 0),
  (82, i_getR 85 12 20 (fun _ => 33)),
  (85, i_iload 86 2),
  (86, i_ald 87 20 lnR),
  (87, i_push 88 (.inl 1)),
  (88, i_bin 89 (fun x y => wr (x + y))),
  (89, i_ast 90 20 lnR id),
  (90, i_aload 91 0),
  (91, i_getR 94 12 20 (fun _ => 34)),
  (94, i_aload 95 0),
  (95, i_getI 98 12 60),
  (98, i_iload 99 3),
  (99, i_ast 100 20 lnR id),
  (100, i_aload 101 0),
  (101, i_getR 104 12 20 (fun _ => 35)),
  (104, i_aload 105 0),
  (105, i_getI 108 12 60),
  (108, i_iload 110 4),
  (110, i_ast 111 20 lnR id),
  (111, i_aload 112 0),
  (112, i_getR 115 12 20 (fun _ => 36)),
  (115, i_aload 116 0),
  (116, i_getI 119 12 60),
  (119, i_iload 121 5),
  (121, i_ast 122 20 lnR id),
  (122, i_aload 123 0),
  (123, i_getR 126 12 20 (fun _ => 37)),
  (126, i_aload 127 0),
  (127, i_getI 130 12 60),
  (130, i_aload 131 0),
  (131, i_getR 134 12 20 (fun _ => 38)),
  (134, i_iload 135 1),
  (135, i_ald 136 20 lnR),
  (136, i_ast 137 20 lnR id),
  (137, i_aload 138 0),
  (138, i_getR 141 12 20 (fun _ => 38)),
  (141, i_iload 142 1),
  (142, i_aload 143 0),
  (143, i_getI 146 12 60),
  (146, i_ast 147 20 lnR id),
  (147, i_aload 148 0),
  (148, i_dup 149),
  (149, i_getI 152 12 60),
  (152, i_push 153 (.inl 1)),
  (153, i_bin 154 (fun x y => wr (x + y))),
  (154, i_putI 157 12 60),
  (157, i_vret)]
noncomputable def kc_X12_meets : Nat → Option Ins := lkp k_X12_meets
noncomputable def f_X12_meets : List AV → Mem → Option Rs := den 7 kc_X12_meets
abbrev rm_X12_meets : Room := { frames := 0, cells := 0, slots := 0, locals := 0 }
set_option maxRecDepth 100000 in
theorem kt_X12_meets : TriC kc_X12_meets := lkp_tri (fa1 (tri_aload 1 0) (fa1 (tri_getR 4 12 20 (fun _ => 31)) (fa1 (tri_aload 5 0) (fa1 (tri_getI 8 12 60) (fa1 (tri_aload 9 0) (fa1 (tri_getI 12 12 38) (fa1 (tri_ast 13 20 lnR id) (fa1 (tri_push 14 (.inl 0)) (fa1 (tri_istore 16 6) (fa1 (tri_iload 18 6) (fa1 (tri_aload 19 0) (fa1 (tri_getI 22 12 38) (fa1 (tri_cmpge 25 53) (fa1 (tri_aload 26 0) (fa1 (tri_getR 29 12 20 (fun _ => 30)) (fa1 (tri_push 31 (.inl 20)) (fa1 (tri_aload 32 0) (fa1 (tri_getI 35 12 60) (fa1 (tri_bin 36 (fun x y => wr (x * y))) (fa1 (tri_iload 38 6) (fa1 (tri_bin 39 (fun x y => wr (x + y))) (fa1 (tri_aload 40 0) (fa1 (tri_getR 43 12 20 (fun _ => 21)) (fa1 (tri_iload 45 6) (fa1 (tri_ald 46 20 lnR) (fa1 (tri_ast 47 20 lnR id) (fa1 (tri_iinc 50 6 (1)) (fa1 (tri_goto 16) (fa1 (tri_aload 54 0) (fa1 (tri_getR 57 12 20 (fun _ => 32)) (fa1 (tri_aload 58 0) (fa1 (tri_getI 61 12 60) (fa1 (tri_iload 62 2) (fa1 (tri_ast 63 20 lnR id) (fa1 (tri_aload 64 0) (fa1 (tri_getR 67 12 20 (fun _ => 33)) (fa1 (tri_aload 68 0) (fa1 (tri_getI 71 12 60) (fa1 (tri_iload 72 2) (fa1 (tri_push 74 (.inl (-4))) (fa1 (tri_cmpne 77 81) (fa1 (tri_push 78 (.inl 0)) (fa1 (tri_goto 89) (fa1 (tri_aload 82 0) (fa1 (tri_getR 85 12 20 (fun _ => 33)) (fa1 (tri_iload 86 2) (fa1 (tri_ald 87 20 lnR) (fa1 (tri_push 88 (.inl 1)) (fa1 (tri_bin 89 (fun x y => wr (x + y))) (fa1 (tri_ast 90 20 lnR id) (fa1 (tri_aload 91 0) (fa1 (tri_getR 94 12 20 (fun _ => 34)) (fa1 (tri_aload 95 0) (fa1 (tri_getI 98 12 60) (fa1 (tri_iload 99 3) (fa1 (tri_ast 100 20 lnR id) (fa1 (tri_aload 101 0) (fa1 (tri_getR 104 12 20 (fun _ => 35)) (fa1 (tri_aload 105 0) (fa1 (tri_getI 108 12 60) (fa1 (tri_iload 110 4) (fa1 (tri_ast 111 20 lnR id) (fa1 (tri_aload 112 0) (fa1 (tri_getR 115 12 20 (fun _ => 36)) (fa1 (tri_aload 116 0) (fa1 (tri_getI 119 12 60) (fa1 (tri_iload 121 5) (fa1 (tri_ast 122 20 lnR id) (fa1 (tri_aload 123 0) (fa1 (tri_getR 126 12 20 (fun _ => 37)) (fa1 (tri_aload 127 0) (fa1 (tri_getI 130 12 60) (fa1 (tri_aload 131 0) (fa1 (tri_getR 134 12 20 (fun _ => 38)) (fa1 (tri_iload 135 1) (fa1 (tri_ald 136 20 lnR) (fa1 (tri_ast 137 20 lnR id) (fa1 (tri_aload 138 0) (fa1 (tri_getR 141 12 20 (fun _ => 38)) (fa1 (tri_iload 142 1) (fa1 (tri_aload 143 0) (fa1 (tri_getI 146 12 60) (fa1 (tri_ast 147 20 lnR id) (fa1 (tri_aload 148 0) (fa1 (tri_dup 149) (fa1 (tri_getI 152 12 60) (fa1 (tri_push 153 (.inl 1)) (fa1 (tri_bin 154 (fun x y => wr (x + y))) (fa1 (tri_putI 157 12 60) (fa1 (tri_vret) (fa0)))))))))))))))))))))))))))))))))))))))))))))))))))))))))))))))))))))))))))))))))))))))))))
set_option maxRecDepth 100000 in
set_option maxHeartbeats 4000000 in
theorem ks_X12_meets (G : Wp) (l : Launch) : ∀ e ∈ k_X12_meets, Snd loR G l RX12 cX12_meets 7 none rm_X12_meets e.1 e.2 :=
  fa1 (s_aload_n (kf := 0) (j := 0) (by decide +kernel) rfl) <|
  fa1 (s_getR (t2 := 20) (g := (fun _ => 31)) (ci := 12) (f := 52) (idx := 105) (C := RX12) (T := TX12) (NF := 83) (by decide +kernel) rfl (by decide) inG_X12 (by decide) w_1290 lr_X12_52 (by decide)) <|
  fa1 (s_aload_n (kf := 0) (j := 0) (by decide +kernel) rfl) <|
  fa1 (s_getI (ci := 12) (f := 60) (idx := 387) (C := RX12) (T := TX12) (NF := 83) (by decide +kernel) rfl (by decide) inG_X12 (by decide) w_1298 li_X12_60) <|
  fa1 (s_aload_n (kf := 0) (j := 0) (by decide +kernel) rfl) <|
  fa1 (s_getI (ci := 12) (f := 38) (idx := 324) (C := RX12) (T := TX12) (NF := 83) (by decide +kernel) rfl (by decide) inG_X12 (by decide) w_1276 li_X12_38) <|
  fa1 (s_iast (by decide +kernel) lt_loR_20) <|
  fa1 (s_iconst (n := 0) (v := 0) (by decide +kernel) (by decide +kernel) (p32 rfl)) <|
  fa1 (s_istore (j := 6) (by decide +kernel) (by decide)) <|
  fa1 (s_iload (j := 6) (by decide +kernel)) <|
  fa1 (s_aload_n (kf := 0) (j := 0) (by decide +kernel) rfl) <|
  fa1 (s_getI (ci := 12) (f := 38) (idx := 324) (C := RX12) (T := TX12) (NF := 83) (by decide +kernel) rfl (by decide) inG_X12 (by decide) w_1276 li_X12_38) <|
  fa1 (s_cmpge (off := 31) (by decide +kernel) (by decide)) <|
  fa1 (s_aload_n (kf := 0) (j := 0) (by decide +kernel) rfl) <|
  fa1 (s_getR (t2 := 20) (g := (fun _ => 30)) (ci := 12) (f := 51) (idx := 102) (C := RX12) (T := TX12) (NF := 83) (by decide +kernel) rfl (by decide) inG_X12 (by decide) w_1289 lr_X12_51 (by decide)) <|
  fa1 (s_bipush (n := 20) (v := 20) (by decide +kernel) (by decide +kernel) (p32 rfl)) <|
  fa1 (s_aload_n (kf := 0) (j := 0) (by decide +kernel) rfl) <|
  fa1 (s_getI (ci := 12) (f := 60) (idx := 387) (C := RX12) (T := TX12) (NF := 83) (by decide +kernel) rfl (by decide) inG_X12 (by decide) w_1298 li_X12_60) <|
  fa1 (s_imul (by decide +kernel)) <|
  fa1 (s_iload (j := 6) (by decide +kernel)) <|
  fa1 (s_iadd (by decide +kernel)) <|
  fa1 (s_aload_n (kf := 0) (j := 0) (by decide +kernel) rfl) <|
  fa1 (s_getR (t2 := 20) (g := (fun _ => 21)) (ci := 12) (f := 37) (idx := 70) (C := RX12) (T := TX12) (NF := 83) (by decide +kernel) rfl (by decide) inG_X12 (by decide) w_1275 lr_X12_37 (by decide)) <|
  fa1 (s_iload (j := 6) (by decide +kernel)) <|
  fa1 (s_iald (by decide +kernel)) <|
  fa1 (s_iast (by decide +kernel) lt_loR_20) <|
  fa1 (s_iinc (j := 6) (d := 1) (by decide +kernel) (by decide)) <|
  fa1 (s_goto (off := -34) (by decide +kernel) (by decide)) <|
  fa1 (s_aload_n (kf := 0) (j := 0) (by decide +kernel) rfl) <|
  fa1 (s_getR (t2 := 20) (g := (fun _ => 32)) (ci := 12) (f := 53) (idx := 108) (C := RX12) (T := TX12) (NF := 83) (by decide +kernel) rfl (by decide) inG_X12 (by decide) w_1291 lr_X12_53 (by decide)) <|
  fa1 (s_aload_n (kf := 0) (j := 0) (by decide +kernel) rfl) <|
  fa1 (s_getI (ci := 12) (f := 60) (idx := 387) (C := RX12) (T := TX12) (NF := 83) (by decide +kernel) rfl (by decide) inG_X12 (by decide) w_1298 li_X12_60) <|
  fa1 (s_iload_n (kf := 2) (j := 2) (by decide +kernel) rfl) <|
  fa1 (s_iast (by decide +kernel) lt_loR_20) <|
  fa1 (s_aload_n (kf := 0) (j := 0) (by decide +kernel) rfl) <|
  fa1 (s_getR (t2 := 20) (g := (fun _ => 33)) (ci := 12) (f := 54) (idx := 111) (C := RX12) (T := TX12) (NF := 83) (by decide +kernel) rfl (by decide) inG_X12 (by decide) w_1292 lr_X12_54 (by decide)) <|
  fa1 (s_aload_n (kf := 0) (j := 0) (by decide +kernel) rfl) <|
  fa1 (s_getI (ci := 12) (f := 60) (idx := 387) (C := RX12) (T := TX12) (NF := 83) (by decide +kernel) rfl (by decide) inG_X12 (by decide) w_1298 li_X12_60) <|
  fa1 (s_iload_n (kf := 2) (j := 2) (by decide +kernel) rfl) <|
  fa1 (s_bipush (n := -4) (v := -4) (by decide +kernel) (by decide +kernel) (p32 rfl)) <|
  fa1 (s_cmpne (off := 7) (by decide +kernel) (by decide)) <|
  fa1 (s_iconst (n := 0) (v := 0) (by decide +kernel) (by decide +kernel) (p32 rfl)) <|
  fa1 (s_goto (off := 11) (by decide +kernel) (by decide)) <|
  fa1 (s_aload_n (kf := 0) (j := 0) (by decide +kernel) rfl) <|
  fa1 (s_getR (t2 := 20) (g := (fun _ => 33)) (ci := 12) (f := 54) (idx := 111) (C := RX12) (T := TX12) (NF := 83) (by decide +kernel) rfl (by decide) inG_X12 (by decide) w_1292 lr_X12_54 (by decide)) <|
  fa1 (s_iload_n (kf := 2) (j := 2) (by decide +kernel) rfl) <|
  fa1 (s_iald (by decide +kernel)) <|
  fa1 (s_iconst (n := 1) (v := 1) (by decide +kernel) (by decide +kernel) (p32 rfl)) <|
  fa1 (s_iadd (by decide +kernel)) <|
  fa1 (s_iast (by decide +kernel) lt_loR_20) <|
  fa1 (s_aload_n (kf := 0) (j := 0) (by decide +kernel) rfl) <|
  fa1 (s_getR (t2 := 20) (g := (fun _ => 34)) (ci := 12) (f := 55) (idx := 114) (C := RX12) (T := TX12) (NF := 83) (by decide +kernel) rfl (by decide) inG_X12 (by decide) w_1293 lr_X12_55 (by decide)) <|
  fa1 (s_aload_n (kf := 0) (j := 0) (by decide +kernel) rfl) <|
  fa1 (s_getI (ci := 12) (f := 60) (idx := 387) (C := RX12) (T := TX12) (NF := 83) (by decide +kernel) rfl (by decide) inG_X12 (by decide) w_1298 li_X12_60) <|
  fa1 (s_iload_n (kf := 3) (j := 3) (by decide +kernel) rfl) <|
  fa1 (s_iast (by decide +kernel) lt_loR_20) <|
  fa1 (s_aload_n (kf := 0) (j := 0) (by decide +kernel) rfl) <|
  fa1 (s_getR (t2 := 20) (g := (fun _ => 35)) (ci := 12) (f := 56) (idx := 117) (C := RX12) (T := TX12) (NF := 83) (by decide +kernel) rfl (by decide) inG_X12 (by decide) w_1294 lr_X12_56 (by decide)) <|
  fa1 (s_aload_n (kf := 0) (j := 0) (by decide +kernel) rfl) <|
  fa1 (s_getI (ci := 12) (f := 60) (idx := 387) (C := RX12) (T := TX12) (NF := 83) (by decide +kernel) rfl (by decide) inG_X12 (by decide) w_1298 li_X12_60) <|
  fa1 (s_iload (j := 4) (by decide +kernel)) <|
  fa1 (s_iast (by decide +kernel) lt_loR_20) <|
  fa1 (s_aload_n (kf := 0) (j := 0) (by decide +kernel) rfl) <|
  fa1 (s_getR (t2 := 20) (g := (fun _ => 36)) (ci := 12) (f := 57) (idx := 120) (C := RX12) (T := TX12) (NF := 83) (by decide +kernel) rfl (by decide) inG_X12 (by decide) w_1295 lr_X12_57 (by decide)) <|
  fa1 (s_aload_n (kf := 0) (j := 0) (by decide +kernel) rfl) <|
  fa1 (s_getI (ci := 12) (f := 60) (idx := 387) (C := RX12) (T := TX12) (NF := 83) (by decide +kernel) rfl (by decide) inG_X12 (by decide) w_1298 li_X12_60) <|
  fa1 (s_iload (j := 5) (by decide +kernel)) <|
  fa1 (s_iast (by decide +kernel) lt_loR_20) <|
  fa1 (s_aload_n (kf := 0) (j := 0) (by decide +kernel) rfl) <|
  fa1 (s_getR (t2 := 20) (g := (fun _ => 37)) (ci := 12) (f := 58) (idx := 123) (C := RX12) (T := TX12) (NF := 83) (by decide +kernel) rfl (by decide) inG_X12 (by decide) w_1296 lr_X12_58 (by decide)) <|
  fa1 (s_aload_n (kf := 0) (j := 0) (by decide +kernel) rfl) <|
  fa1 (s_getI (ci := 12) (f := 60) (idx := 387) (C := RX12) (T := TX12) (NF := 83) (by decide +kernel) rfl (by decide) inG_X12 (by decide) w_1298 li_X12_60) <|
  fa1 (s_aload_n (kf := 0) (j := 0) (by decide +kernel) rfl) <|
  fa1 (s_getR (t2 := 20) (g := (fun _ => 38)) (ci := 12) (f := 59) (idx := 126) (C := RX12) (T := TX12) (NF := 83) (by decide +kernel) rfl (by decide) inG_X12 (by decide) w_1297 lr_X12_59 (by decide)) <|
  fa1 (s_iload_n (kf := 1) (j := 1) (by decide +kernel) rfl) <|
  fa1 (s_iald (by decide +kernel)) <|
  fa1 (s_iast (by decide +kernel) lt_loR_20) <|
  fa1 (s_aload_n (kf := 0) (j := 0) (by decide +kernel) rfl) <|
  fa1 (s_getR (t2 := 20) (g := (fun _ => 38)) (ci := 12) (f := 59) (idx := 126) (C := RX12) (T := TX12) (NF := 83) (by decide +kernel) rfl (by decide) inG_X12 (by decide) w_1297 lr_X12_59 (by decide)) <|
  fa1 (s_iload_n (kf := 1) (j := 1) (by decide +kernel) rfl) <|
  fa1 (s_aload_n (kf := 0) (j := 0) (by decide +kernel) rfl) <|
  fa1 (s_getI (ci := 12) (f := 60) (idx := 387) (C := RX12) (T := TX12) (NF := 83) (by decide +kernel) rfl (by decide) inG_X12 (by decide) w_1298 li_X12_60) <|
  fa1 (s_iast (by decide +kernel) lt_loR_20) <|
  fa1 (s_aload_n (kf := 0) (j := 0) (by decide +kernel) rfl) <|
  fa1 (s_dup (by decide +kernel)) <|
  fa1 (s_getI (ci := 12) (f := 60) (idx := 387) (C := RX12) (T := TX12) (NF := 83) (by decide +kernel) rfl (by decide) inG_X12 (by decide) w_1298 li_X12_60) <|
  fa1 (s_iconst (n := 1) (v := 1) (by decide +kernel) (by decide +kernel) (p32 rfl)) <|
  fa1 (s_iadd (by decide +kernel)) <|
  fa1 (s_putI (ci := 12) (f := 60) (idx := 387) (C := RX12) (T := TX12) (NF := 83) (by decide +kernel) rfl (by decide) inG_X12 (by decide) w_1298 tyX12 tyX12_ok nmX12 rfl (by decide +kernel) li_X12_60) <|
  fa1 (s_vret (by decide +kernel) rfl) <| fa0
theorem gg_X12_meets {G : Wp} {l : Launch} : GoodM loR G l yX12_meets cX12_meets 7 none rm_X12_meets f_X12_meets := met_of kt_X12_meets (lkp_snd (ks_X12_meets G l)) (by decide +kernel) rfl (by decide)
noncomputable def k_X12_isThenRight : List (Nat × Ins) := [
  (0, i_aload 1 0),
  (1, i_getI 4 12 38),
  (4, i_aload 5 0),
  (5, i_getR 8 12 20 (fun _ => 6)),
  (8, i_push 9 (.inl 2)),
  (9, i_iload 10 1),
  (10, i_bin 11 (fun x y => wr (x * y))),
  (11, i_push 12 (.inl 1)),
  (12, i_bin 13 (fun x y => wr (x + y))),
  (13, i_ald 14 20 lnR),
  (14, i_cmpne 17 21),
  (17, i_push 18 (.inl 1)),
  (18, i_goto 22),
  (21, i_push 22 (.inl 0)),
  (22, i_istore 23 2),
  (23, i_push 24 (.inl 0)),
  (24, i_istore 25 3),
  (25, i_iload 26 3),
  (26, i_aload 27 0),
  (27, i_getI 30 12 38),
  (30, i_cmpge 33 72),
  (33, i_iload 34 2),
  (34, i_ifeq 37 72),
  (37, i_aload 38 0),
  (38, i_getR 41 12 20 (fun _ => 21)),
  (41, i_iload 42 3),
  (42, i_ald 43 20 lnR),
  (43, i_aload 44 0),
  (44, i_getR 47 12 20 (fun _ => 5)),
  (47, i_push 49 (.inl 40)),
  (49, i_iload 50 1),
  (50, i_bin 51 (fun x y => wr (x * y))),
  (51, i_push 53 (.inl 20)),
  (53, i_bin 54 (fun x y => wr (x + y))),
  (54, i_iload 55 3),
  (55, i_bin 56 (fun x y => wr (x + y))),
  (56, i_ald 57 20 lnR),
  (57, i_cmpne 60 64),
  (60, i_push 61 (.inl 1)),
  (61, i_goto 65),
  (64, i_push 65 (.inl 0)),
  (65, i_istore 66 2),
  (66, i_iinc 69 3 (1)),
  (69, i_goto 25),
  (72, i_iload 73 2),
  (73, i_zret)]
noncomputable def kc_X12_isThenRight : Nat → Option Ins := lkp k_X12_isThenRight
noncomputable def f_X12_isThenRight : List AV → Mem → Option Rs := den 4 kc_X12_isThenRight
abbrev rm_X12_isThenRight : Room := { frames := 0, cells := 0, slots := 0, locals := 0 }
set_option maxRecDepth 100000 in
theorem kt_X12_isThenRight : TriC kc_X12_isThenRight := lkp_tri (fa1 (tri_aload 1 0) (fa1 (tri_getI 4 12 38) (fa1 (tri_aload 5 0) (fa1 (tri_getR 8 12 20 (fun _ => 6)) (fa1 (tri_push 9 (.inl 2)) (fa1 (tri_iload 10 1) (fa1 (tri_bin 11 (fun x y => wr (x * y))) (fa1 (tri_push 12 (.inl 1)) (fa1 (tri_bin 13 (fun x y => wr (x + y))) (fa1 (tri_ald 14 20 lnR) (fa1 (tri_cmpne 17 21) (fa1 (tri_push 18 (.inl 1)) (fa1 (tri_goto 22) (fa1 (tri_push 22 (.inl 0)) (fa1 (tri_istore 23 2) (fa1 (tri_push 24 (.inl 0)) (fa1 (tri_istore 25 3) (fa1 (tri_iload 26 3) (fa1 (tri_aload 27 0) (fa1 (tri_getI 30 12 38) (fa1 (tri_cmpge 33 72) (fa1 (tri_iload 34 2) (fa1 (tri_ifeq 37 72) (fa1 (tri_aload 38 0) (fa1 (tri_getR 41 12 20 (fun _ => 21)) (fa1 (tri_iload 42 3) (fa1 (tri_ald 43 20 lnR) (fa1 (tri_aload 44 0) (fa1 (tri_getR 47 12 20 (fun _ => 5)) (fa1 (tri_push 49 (.inl 40)) (fa1 (tri_iload 50 1) (fa1 (tri_bin 51 (fun x y => wr (x * y))) (fa1 (tri_push 53 (.inl 20)) (fa1 (tri_bin 54 (fun x y => wr (x + y))) (fa1 (tri_iload 55 3) (fa1 (tri_bin 56 (fun x y => wr (x + y))) (fa1 (tri_ald 57 20 lnR) (fa1 (tri_cmpne 60 64) (fa1 (tri_push 61 (.inl 1)) (fa1 (tri_goto 65) (fa1 (tri_push 65 (.inl 0)) (fa1 (tri_istore 66 2) (fa1 (tri_iinc 69 3 (1)) (fa1 (tri_goto 25) (fa1 (tri_iload 73 2) (fa1 (tri_zret) (fa0)))))))))))))))))))))))))))))))))))))))))))))))
set_option maxRecDepth 100000 in
set_option maxHeartbeats 4000000 in
theorem ks_X12_isThenRight (G : Wp) (l : Launch) : ∀ e ∈ k_X12_isThenRight, Snd loR G l RX12 cX12_isThenRight 4 (some .boolean) rm_X12_isThenRight e.1 e.2 :=
  fa1 (s_aload_n (kf := 0) (j := 0) (by decide +kernel) rfl) <|
  fa1 (s_getI (ci := 12) (f := 38) (idx := 324) (C := RX12) (T := TX12) (NF := 83) (by decide +kernel) rfl (by decide) inG_X12 (by decide) w_1276 li_X12_38) <|
  fa1 (s_aload_n (kf := 0) (j := 0) (by decide +kernel) rfl) <|
  fa1 (s_getR (t2 := 20) (g := (fun _ => 6)) (ci := 12) (f := 7) (idx := 25) (C := RX12) (T := TX12) (NF := 83) (by decide +kernel) rfl (by decide) inG_X12 (by decide) w_1245 lr_X12_7 (by decide)) <|
  fa1 (s_iconst (n := 2) (v := 2) (by decide +kernel) (by decide +kernel) (p32 rfl)) <|
  fa1 (s_iload_n (kf := 1) (j := 1) (by decide +kernel) rfl) <|
  fa1 (s_imul (by decide +kernel)) <|
  fa1 (s_iconst (n := 1) (v := 1) (by decide +kernel) (by decide +kernel) (p32 rfl)) <|
  fa1 (s_iadd (by decide +kernel)) <|
  fa1 (s_iald (by decide +kernel)) <|
  fa1 (s_cmpne (off := 7) (by decide +kernel) (by decide)) <|
  fa1 (s_iconst (n := 1) (v := 1) (by decide +kernel) (by decide +kernel) (p32 rfl)) <|
  fa1 (s_goto (off := 4) (by decide +kernel) (by decide)) <|
  fa1 (s_iconst (n := 0) (v := 0) (by decide +kernel) (by decide +kernel) (p32 rfl)) <|
  fa1 (s_istore_n (kf := 2) (j := 2) (by decide +kernel) rfl (by decide)) <|
  fa1 (s_iconst (n := 0) (v := 0) (by decide +kernel) (by decide +kernel) (p32 rfl)) <|
  fa1 (s_istore_n (kf := 3) (j := 3) (by decide +kernel) rfl (by decide)) <|
  fa1 (s_iload_n (kf := 3) (j := 3) (by decide +kernel) rfl) <|
  fa1 (s_aload_n (kf := 0) (j := 0) (by decide +kernel) rfl) <|
  fa1 (s_getI (ci := 12) (f := 38) (idx := 324) (C := RX12) (T := TX12) (NF := 83) (by decide +kernel) rfl (by decide) inG_X12 (by decide) w_1276 li_X12_38) <|
  fa1 (s_cmpge (off := 42) (by decide +kernel) (by decide)) <|
  fa1 (s_iload_n (kf := 2) (j := 2) (by decide +kernel) rfl) <|
  fa1 (s_ifeq (off := 38) (by decide +kernel) (by decide)) <|
  fa1 (s_aload_n (kf := 0) (j := 0) (by decide +kernel) rfl) <|
  fa1 (s_getR (t2 := 20) (g := (fun _ => 21)) (ci := 12) (f := 37) (idx := 70) (C := RX12) (T := TX12) (NF := 83) (by decide +kernel) rfl (by decide) inG_X12 (by decide) w_1275 lr_X12_37 (by decide)) <|
  fa1 (s_iload_n (kf := 3) (j := 3) (by decide +kernel) rfl) <|
  fa1 (s_iald (by decide +kernel)) <|
  fa1 (s_aload_n (kf := 0) (j := 0) (by decide +kernel) rfl) <|
  fa1 (s_getR (t2 := 20) (g := (fun _ => 5)) (ci := 12) (f := 6) (idx := 22) (C := RX12) (T := TX12) (NF := 83) (by decide +kernel) rfl (by decide) inG_X12 (by decide) w_1244 lr_X12_6 (by decide)) <|
  fa1 (s_bipush (n := 40) (v := 40) (by decide +kernel) (by decide +kernel) (p32 rfl)) <|
  fa1 (s_iload_n (kf := 1) (j := 1) (by decide +kernel) rfl) <|
  fa1 (s_imul (by decide +kernel)) <|
  fa1 (s_bipush (n := 20) (v := 20) (by decide +kernel) (by decide +kernel) (p32 rfl)) <|
  fa1 (s_iadd (by decide +kernel)) <|
  fa1 (s_iload_n (kf := 3) (j := 3) (by decide +kernel) rfl) <|
  fa1 (s_iadd (by decide +kernel)) <|
  fa1 (s_iald (by decide +kernel)) <|
  fa1 (s_cmpne (off := 7) (by decide +kernel) (by decide)) <|
  fa1 (s_iconst (n := 1) (v := 1) (by decide +kernel) (by decide +kernel) (p32 rfl)) <|
  fa1 (s_goto (off := 4) (by decide +kernel) (by decide)) <|
  fa1 (s_iconst (n := 0) (v := 0) (by decide +kernel) (by decide +kernel) (p32 rfl)) <|
  fa1 (s_istore_n (kf := 2) (j := 2) (by decide +kernel) rfl (by decide)) <|
  fa1 (s_iinc (j := 3) (d := 1) (by decide +kernel) (by decide)) <|
  fa1 (s_goto (off := -44) (by decide +kernel) (by decide)) <|
  fa1 (s_iload_n (kf := 2) (j := 2) (by decide +kernel) rfl) <|
  fa1 (s_zret (by decide +kernel) rfl) <| fa0
theorem gg_X12_isThenRight {G : Wp} {l : Launch} : GoodM loR G l yX12_isThenRight cX12_isThenRight 4 (some .boolean) rm_X12_isThenRight f_X12_isThenRight := met_of kt_X12_isThenRight (lkp_snd (ks_X12_isThenRight G l)) (by decide +kernel) rfl (by decide)
noncomputable def k_X12_seeks : List (Nat × Ins) := [
  (0, i_push 1 (.inl 0)),
  (1, i_istore 3 6),
  (3, i_iload 5 6),
  (5, i_aload 6 0),
  (6, i_getI 9 12 36),
  (9, i_cmpge 12 153),
  (12, i_aload 13 0),
  (13, i_getI 16 12 61),
  (16, i_push 18 (.inl (-4))),
  (18, i_cmpne 21 153),
  (21, i_aload 22 0),
  (22, i_getI 25 12 62),
  (25, i_ifne 28 153),
  (28, i_aload 29 0),
  (29, i_iload 31 4),
  (31, i_iload 33 5),
  (33, i_iload 35 6),
  (35, i_callI 38 4 (rcv 12) f_X12_steps),
  (38, i_ifne 41 147),
  (41, i_aload 42 0),
  (42, i_getI 45 12 38),
  (45, i_iload 46 3),
  (46, i_cmpgt 49 147),
  (49, i_aload 50 0),
  (50, i_aload 51 0),
  (51, i_getR 54 12 20 (fun _ => 21)),
  (54, i_aload 55 0),
  (55, i_getI 58 12 38),
  (58, i_callI 61 3 (rcv 12) f_X12_hashOf),
  (61, i_istore 63 7),
  (63, i_aload 64 0),
  (64, i_iload 66 7),
  (66, i_callI 69 2 (rcv 12) f_X12_isMet),
  (69, i_ifne 72 147),
  (72, i_aload 73 0),
  (73, i_aload 74 0),
  (74, i_getI 77 12 60),
  (77, i_push 80 (.inl 250)),
  (80, i_cmpne 83 87),
  (83, i_push 84 (.inl 1)),
  (84, i_goto 88),
  (87, i_push 88 (.inl 0)),
  (88, i_putZ 91 12 62),
  (91, i_aload 92 0),
  (92, i_getI 95 12 62),
  (95, i_ifne 98 147),
  (98, i_aload 99 0),
  (99, i_iload 101 7),
  (101, i_iload 102 2),
  (102, i_iload 104 4),
  (104, i_iload 106 4),
  (106, i_push 107 (.inl 2)),
  (107, i_cmpne 110 115),
  (110, i_push 112 (.inl (-4))),
  (112, i_goto 117),
  (115, i_iload 117 5),
  (117, i_iload 119 6),
  (119, i_callV 122 6 (rcv 12) f_X12_meets),
  (122, i_aload 123 0),
  (123, i_aload 124 0),
  (124, i_iload 125 1),
  (125, i_callI 128 2 (rcv 12) f_X12_isThenRight),
  (128, i_ifeq 131 140),
  (131, i_aload 132 0),
  (132, i_getI 135 12 60),
  (135, i_push 136 (.inl 1)),
  (136, i_bin 137 (fun x y => wr (x - y))),
  (137, i_goto 144),
  (140, i_aload 141 0),
  (141, i_getI 144 12 61),
  (144, i_putI 147 12 61),
  (147, i_iinc 150 6 (1)),
  (150, i_goto 3),
  (153, i_vret)]
noncomputable def kc_X12_seeks : Nat → Option Ins := lkp k_X12_seeks
noncomputable def f_X12_seeks : List AV → Mem → Option Rs := den 8 kc_X12_seeks
abbrev rm_X12_seeks : Room := { frames := 5, cells := 0, slots := 0, locals := 122 }
set_option maxRecDepth 100000 in
theorem kt_X12_seeks : TriC kc_X12_seeks := lkp_tri (fa1 (tri_push 1 (.inl 0)) (fa1 (tri_istore 3 6) (fa1 (tri_iload 5 6) (fa1 (tri_aload 6 0) (fa1 (tri_getI 9 12 36) (fa1 (tri_cmpge 12 153) (fa1 (tri_aload 13 0) (fa1 (tri_getI 16 12 61) (fa1 (tri_push 18 (.inl (-4))) (fa1 (tri_cmpne 21 153) (fa1 (tri_aload 22 0) (fa1 (tri_getI 25 12 62) (fa1 (tri_ifne 28 153) (fa1 (tri_aload 29 0) (fa1 (tri_iload 31 4) (fa1 (tri_iload 33 5) (fa1 (tri_iload 35 6) (fa1 (tri_callI 38 4 (rcv 12) f_X12_steps) (fa1 (tri_ifne 41 147) (fa1 (tri_aload 42 0) (fa1 (tri_getI 45 12 38) (fa1 (tri_iload 46 3) (fa1 (tri_cmpgt 49 147) (fa1 (tri_aload 50 0) (fa1 (tri_aload 51 0) (fa1 (tri_getR 54 12 20 (fun _ => 21)) (fa1 (tri_aload 55 0) (fa1 (tri_getI 58 12 38) (fa1 (tri_callI 61 3 (rcv 12) f_X12_hashOf) (fa1 (tri_istore 63 7) (fa1 (tri_aload 64 0) (fa1 (tri_iload 66 7) (fa1 (tri_callI 69 2 (rcv 12) f_X12_isMet) (fa1 (tri_ifne 72 147) (fa1 (tri_aload 73 0) (fa1 (tri_aload 74 0) (fa1 (tri_getI 77 12 60) (fa1 (tri_push 80 (.inl 250)) (fa1 (tri_cmpne 83 87) (fa1 (tri_push 84 (.inl 1)) (fa1 (tri_goto 88) (fa1 (tri_push 88 (.inl 0)) (fa1 (tri_putZ 91 12 62) (fa1 (tri_aload 92 0) (fa1 (tri_getI 95 12 62) (fa1 (tri_ifne 98 147) (fa1 (tri_aload 99 0) (fa1 (tri_iload 101 7) (fa1 (tri_iload 102 2) (fa1 (tri_iload 104 4) (fa1 (tri_iload 106 4) (fa1 (tri_push 107 (.inl 2)) (fa1 (tri_cmpne 110 115) (fa1 (tri_push 112 (.inl (-4))) (fa1 (tri_goto 117) (fa1 (tri_iload 117 5) (fa1 (tri_iload 119 6) (fa1 (tri_callV 122 6 (rcv 12) f_X12_meets) (fa1 (tri_aload 123 0) (fa1 (tri_aload 124 0) (fa1 (tri_iload 125 1) (fa1 (tri_callI 128 2 (rcv 12) f_X12_isThenRight) (fa1 (tri_ifeq 131 140) (fa1 (tri_aload 132 0) (fa1 (tri_getI 135 12 60) (fa1 (tri_push 136 (.inl 1)) (fa1 (tri_bin 137 (fun x y => wr (x - y))) (fa1 (tri_goto 144) (fa1 (tri_aload 141 0) (fa1 (tri_getI 144 12 61) (fa1 (tri_putI 147 12 61) (fa1 (tri_iinc 150 6 (1)) (fa1 (tri_goto 3) (fa1 (tri_vret) (fa0)))))))))))))))))))))))))))))))))))))))))))))))))))))))))))))))))))))))))))
set_option maxRecDepth 100000 in
set_option maxHeartbeats 4000000 in
theorem ks_X12_seeks (G : Wp) (l : Launch) : ∀ e ∈ k_X12_seeks, Snd loR G l RX12 cX12_seeks 8 none rm_X12_seeks e.1 e.2 :=
  fa1 (s_iconst (n := 0) (v := 0) (by decide +kernel) (by decide +kernel) (p32 rfl)) <|
  fa1 (s_istore (j := 6) (by decide +kernel) (by decide)) <|
  fa1 (s_iload (j := 6) (by decide +kernel)) <|
  fa1 (s_aload_n (kf := 0) (j := 0) (by decide +kernel) rfl) <|
  fa1 (s_getI (ci := 12) (f := 36) (idx := 311) (C := RX12) (T := TX12) (NF := 83) (by decide +kernel) rfl (by decide) inG_X12 (by decide) w_1274 li_X12_36) <|
  fa1 (s_cmpge (off := 144) (by decide +kernel) (by decide)) <|
  fa1 (s_aload_n (kf := 0) (j := 0) (by decide +kernel) rfl) <|
  fa1 (s_getI (ci := 12) (f := 61) (idx := 390) (C := RX12) (T := TX12) (NF := 83) (by decide +kernel) rfl (by decide) inG_X12 (by decide) w_1299 li_X12_61) <|
  fa1 (s_bipush (n := -4) (v := -4) (by decide +kernel) (by decide +kernel) (p32 rfl)) <|
  fa1 (s_cmpne (off := 135) (by decide +kernel) (by decide)) <|
  fa1 (s_aload_n (kf := 0) (j := 0) (by decide +kernel) rfl) <|
  fa1 (s_getI (ci := 12) (f := 62) (idx := 393) (C := RX12) (T := TX12) (NF := 83) (by decide +kernel) rfl (by decide) inG_X12 (by decide) w_1300 li_X12_62) <|
  fa1 (s_ifne (off := 128) (by decide +kernel) (by decide)) <|
  fa1 (s_aload_n (kf := 0) (j := 0) (by decide +kernel) rfl) <|
  fa1 (s_iload (j := 4) (by decide +kernel)) <|
  fa1 (s_iload (j := 5) (by decide +kernel)) <|
  fa1 (s_iload (j := 6) (by decide +kernel)) <|
  fa1 (s_vcallI (n := 3) (ci := 12) (C := RX12) (T := TX12) (NF := 83) (idx := 348) (y := yX12_steps) (by decide +kernel) (gg_X12_steps) rfl (by decide) yv_X12_steps (all5 w_1622 w_1624 w_63 w_113 w_1625) rfl rfl ⟨by decide, by decide⟩) <|
  fa1 (s_ifne (off := 109) (by decide +kernel) (by decide)) <|
  fa1 (s_aload_n (kf := 0) (j := 0) (by decide +kernel) rfl) <|
  fa1 (s_getI (ci := 12) (f := 38) (idx := 324) (C := RX12) (T := TX12) (NF := 83) (by decide +kernel) rfl (by decide) inG_X12 (by decide) w_1276 li_X12_38) <|
  fa1 (s_iload_n (kf := 3) (j := 3) (by decide +kernel) rfl) <|
  fa1 (s_cmpgt (off := 101) (by decide +kernel) (by decide)) <|
  fa1 (s_aload_n (kf := 0) (j := 0) (by decide +kernel) rfl) <|
  fa1 (s_aload_n (kf := 0) (j := 0) (by decide +kernel) rfl) <|
  fa1 (s_getR (t2 := 20) (g := (fun _ => 21)) (ci := 12) (f := 37) (idx := 70) (C := RX12) (T := TX12) (NF := 83) (by decide +kernel) rfl (by decide) inG_X12 (by decide) w_1275 lr_X12_37 (by decide)) <|
  fa1 (s_aload_n (kf := 0) (j := 0) (by decide +kernel) rfl) <|
  fa1 (s_getI (ci := 12) (f := 38) (idx := 324) (C := RX12) (T := TX12) (NF := 83) (by decide +kernel) rfl (by decide) inG_X12 (by decide) w_1276 li_X12_38) <|
  fa1 (s_vcallI (n := 2) (ci := 12) (C := RX12) (T := TX12) (NF := 83) (idx := 396) (y := yX12_hashOf) (by decide +kernel) (gg_X12_hashOf) rfl (by decide) yv_X12_hashOf (all5 w_1724 w_1726 w_78 w_113 w_1727) rfl rfl ⟨by decide, by decide⟩) <|
  fa1 (s_istore (j := 7) (by decide +kernel) (by decide)) <|
  fa1 (s_aload_n (kf := 0) (j := 0) (by decide +kernel) rfl) <|
  fa1 (s_iload (j := 7) (by decide +kernel)) <|
  fa1 (s_vcallI (n := 1) (ci := 12) (C := RX12) (T := TX12) (NF := 83) (idx := 400) (y := yX12_isMet) (by decide +kernel) (gg_X12_isMet) rfl (by decide) yv_X12_isMet (all5 w_1740 w_1742 w_82 w_113 w_1743) rfl rfl ⟨by decide, by decide⟩) <|
  fa1 (s_ifne (off := 78) (by decide +kernel) (by decide)) <|
  fa1 (s_aload_n (kf := 0) (j := 0) (by decide +kernel) rfl) <|
  fa1 (s_aload_n (kf := 0) (j := 0) (by decide +kernel) rfl) <|
  fa1 (s_getI (ci := 12) (f := 60) (idx := 387) (C := RX12) (T := TX12) (NF := 83) (by decide +kernel) rfl (by decide) inG_X12 (by decide) w_1298 li_X12_60) <|
  fa1 (s_sipush (n := 250) (v := 250) (by decide +kernel) (by decide +kernel) (p32 rfl)) <|
  fa1 (s_cmpne (off := 7) (by decide +kernel) (by decide)) <|
  fa1 (s_iconst (n := 1) (v := 1) (by decide +kernel) (by decide +kernel) (p32 rfl)) <|
  fa1 (s_goto (off := 4) (by decide +kernel) (by decide)) <|
  fa1 (s_iconst (n := 0) (v := 0) (by decide +kernel) (by decide +kernel) (p32 rfl)) <|
  fa1 (s_putZ (ci := 12) (f := 62) (idx := 393) (C := RX12) (T := TX12) (NF := 83) (by decide +kernel) rfl (by decide) inG_X12 (by decide) w_1300 tyX12 tyX12_ok nmX12 rfl (by decide +kernel) li_X12_62) <|
  fa1 (s_aload_n (kf := 0) (j := 0) (by decide +kernel) rfl) <|
  fa1 (s_getI (ci := 12) (f := 62) (idx := 393) (C := RX12) (T := TX12) (NF := 83) (by decide +kernel) rfl (by decide) inG_X12 (by decide) w_1300 li_X12_62) <|
  fa1 (s_ifne (off := 52) (by decide +kernel) (by decide)) <|
  fa1 (s_aload_n (kf := 0) (j := 0) (by decide +kernel) rfl) <|
  fa1 (s_iload (j := 7) (by decide +kernel)) <|
  fa1 (s_iload_n (kf := 2) (j := 2) (by decide +kernel) rfl) <|
  fa1 (s_iload (j := 4) (by decide +kernel)) <|
  fa1 (s_iload (j := 4) (by decide +kernel)) <|
  fa1 (s_iconst (n := 2) (v := 2) (by decide +kernel) (by decide +kernel) (p32 rfl)) <|
  fa1 (s_cmpne (off := 8) (by decide +kernel) (by decide)) <|
  fa1 (s_bipush (n := -4) (v := -4) (by decide +kernel) (by decide +kernel) (p32 rfl)) <|
  fa1 (s_goto (off := 5) (by decide +kernel) (by decide)) <|
  fa1 (s_iload (j := 5) (by decide +kernel)) <|
  fa1 (s_iload (j := 6) (by decide +kernel)) <|
  fa1 (s_vcallV (n := 5) (ci := 12) (C := RX12) (T := TX12) (NF := 83) (idx := 403) (y := yX12_meets) (by decide +kernel) (gg_X12_meets) rfl (by decide) yv_X12_meets (all5 w_1728 w_1730 w_79 w_113 w_1731) rfl rfl ⟨by decide, by decide⟩) <|
  fa1 (s_aload_n (kf := 0) (j := 0) (by decide +kernel) rfl) <|
  fa1 (s_aload_n (kf := 0) (j := 0) (by decide +kernel) rfl) <|
  fa1 (s_iload_n (kf := 1) (j := 1) (by decide +kernel) rfl) <|
  fa1 (s_vcallI (n := 1) (ci := 12) (C := RX12) (T := TX12) (NF := 83) (idx := 407) (y := yX12_isThenRight) (by decide +kernel) (gg_X12_isThenRight) rfl (by decide) yv_X12_isThenRight (all5 w_1732 w_1734 w_80 w_113 w_1735) rfl rfl ⟨by decide, by decide⟩) <|
  fa1 (s_ifeq (off := 12) (by decide +kernel) (by decide)) <|
  fa1 (s_aload_n (kf := 0) (j := 0) (by decide +kernel) rfl) <|
  fa1 (s_getI (ci := 12) (f := 60) (idx := 387) (C := RX12) (T := TX12) (NF := 83) (by decide +kernel) rfl (by decide) inG_X12 (by decide) w_1298 li_X12_60) <|
  fa1 (s_iconst (n := 1) (v := 1) (by decide +kernel) (by decide +kernel) (p32 rfl)) <|
  fa1 (s_isub (by decide +kernel)) <|
  fa1 (s_goto (off := 7) (by decide +kernel) (by decide)) <|
  fa1 (s_aload_n (kf := 0) (j := 0) (by decide +kernel) rfl) <|
  fa1 (s_getI (ci := 12) (f := 61) (idx := 390) (C := RX12) (T := TX12) (NF := 83) (by decide +kernel) rfl (by decide) inG_X12 (by decide) w_1299 li_X12_61) <|
  fa1 (s_putI (ci := 12) (f := 61) (idx := 390) (C := RX12) (T := TX12) (NF := 83) (by decide +kernel) rfl (by decide) inG_X12 (by decide) w_1299 tyX12 tyX12_ok nmX12 rfl (by decide +kernel) li_X12_61) <|
  fa1 (s_iinc (j := 6) (d := 1) (by decide +kernel) (by decide)) <|
  fa1 (s_goto (off := -147) (by decide +kernel) (by decide)) <|
  fa1 (s_vret (by decide +kernel) rfl) <| fa0
theorem gg_X12_seeks {G : Wp} {l : Launch} : GoodM loR G l yX12_seeks cX12_seeks 8 none rm_X12_seeks f_X12_seeks := met_of kt_X12_seeks (lkp_snd (ks_X12_seeks G l)) (by decide +kernel) rfl (by decide)
noncomputable def k_X12_findWay : List (Nat × Ins) := [
  (0, i_push 1 (.inl 0)),
  (1, i_istore 3 4),
  (3, i_iload 5 4),
  (5, i_push 8 (.inl 4096)),
  (8, i_cmpge 11 25),
  (11, i_aload 12 0),
  (12, i_getR 15 12 20 (fun _ => 38)),
  (15, i_iload 17 4),
  (17, i_push 18 (.inl (-1))),
  (18, i_ast 19 20 lnR id),
  (19, i_iinc 22 4 (1)),
  (22, i_goto 3),
  (25, i_aload 26 0),
  (26, i_push 27 (.inl 0)),
  (27, i_putI 30 12 60),
  (30, i_aload 31 0),
  (31, i_push 33 (.inl (-4))),
  (33, i_putI 36 12 61),
  (36, i_aload 37 0),
  (37, i_push 38 (.inl 0)),
  (38, i_putZ 41 12 62),
  (41, i_aload 42 0),
  (42, i_aload 43 0),
  (43, i_getR 46 12 20 (fun _ => 6)),
  (46, i_push 47 (.inl 2)),
  (47, i_iload 48 1),
  (48, i_bin 49 (fun x y => wr (x * y))),
  (49, i_ald 50 20 lnR),
  (50, i_putI 53 12 38),
  (53, i_push 54 (.inl 0)),
  (54, i_istore 56 4),
  (56, i_iload 58 4),
  (58, i_aload 59 0),
  (59, i_getI 62 12 38),
  (62, i_cmpge 65 90),
  (65, i_aload 66 0),
  (66, i_getR 69 12 20 (fun _ => 21)),
  (69, i_iload 71 4),
  (71, i_aload 72 0),
  (72, i_getR 75 12 20 (fun _ => 5)),
  (75, i_push 77 (.inl 40)),
  (77, i_iload 78 1),
  (78, i_bin 79 (fun x y => wr (x * y))),
  (79, i_iload 81 4),
  (81, i_bin 82 (fun x y => wr (x + y))),
  (82, i_ald 83 20 lnR),
  (83, i_ast 84 20 lnR id),
  (84, i_iinc 87 4 (1)),
  (87, i_goto 56),
  (90, i_aload 91 0),
  (91, i_aload 92 0),
  (92, i_aload 93 0),
  (93, i_getR 96 12 20 (fun _ => 21)),
  (96, i_aload 97 0),
  (97, i_getI 100 12 38),
  (100, i_callI 103 3 (rcv 12) f_X12_hashOf),
  (103, i_push 105 (.inl (-4))),
  (105, i_push 106 (.inl 0)),
  (106, i_push 107 (.inl 0)),
  (107, i_push 108 (.inl 0)),
  (108, i_callV 111 6 (rcv 12) f_X12_meets),
  (111, i_aload 112 0),
  (112, i_aload 113 0),
  (113, i_iload 114 1),
  (114, i_callI 117 2 (rcv 12) f_X12_isThenRight),
  (117, i_ifeq 120 124),
  (120, i_push 121 (.inl 0)),
  (121, i_goto 126),
  (124, i_push 126 (.inl (-4))),
  (126, i_putI 129 12 61),
  (129, i_push 130 (.inl 0)),
  (130, i_istore 132 4),
  (132, i_iload 134 4),
  (134, i_aload 135 0),
  (135, i_getI 138 12 60),
  (138, i_cmpge 141 302),
  (141, i_aload 142 0),
  (142, i_getI 145 12 61),
  (145, i_push 147 (.inl (-4))),
  (147, i_cmpne 150 302),
  (150, i_aload 151 0),
  (151, i_getI 154 12 62),
  (154, i_ifne 157 302),
  (157, i_aload 158 0),
  (158, i_getR 161 12 20 (fun _ => 33)),
  (161, i_iload 163 4),
  (163, i_ald 164 20 lnR),
  (164, i_iload 165 2),
  (165, i_cmpge 168 296),
  (168, i_aload 169 0),
  (169, i_aload 170 0),
  (170, i_getR 173 12 20 (fun _ => 31)),
  (173, i_iload 175 4),
  (175, i_ald 176 20 lnR),
  (176, i_putI 179 12 36),
  (179, i_push 180 (.inl 0)),
  (180, i_istore 182 5),
  (182, i_iload 184 5),
  (184, i_aload 185 0),
  (185, i_getI 188 12 36),
  (188, i_cmpge 191 217),
  (191, i_aload 192 0),
  (192, i_getR 195 12 20 (fun _ => 20)),
  (195, i_iload 197 5),
  (197, i_aload 198 0),
  (198, i_getR 201 12 20 (fun _ => 30)),
  (201, i_push 203 (.inl 20)),
  (203, i_iload 205 4),
  (205, i_bin 206 (fun x y => wr (x * y))),
  (206, i_iload 208 5),
  (208, i_bin 209 (fun x y => wr (x + y))),
  (209, i_ald 210 20 lnR),
  (210, i_ast 211 20 lnR id),
  (211, i_iinc 214 5 (1)),
  (214, i_goto 182),
  (217, i_push 218 (.inl 0)),
  (218, i_istore 220 5),
  (220, i_iload 222 5),
  (222, i_aload 223 0),
  (223, i_getI 226 12 5),
  (226, i_cmpge 229 257),
  (229, i_aload 230 0),
  (230, i_iload 231 1),
  (231, i_iload 233 4),
  (233, i_iload 234 3),
  (234, i_push 235 (.inl 0)),
  (235, i_iload 237 5),
  (237, i_callV 240 6 (rcv 12) f_X12_seeks),
  (240, i_aload 241 0),
  (241, i_iload 242 1),
  (242, i_iload 244 4),
  (244, i_iload 245 3),
  (245, i_push 246 (.inl 1)),
  (246, i_iload 248 5),
  (248, i_callV 251 6 (rcv 12) f_X12_seeks),
  (251, i_iinc 254 5 (1)),
  (254, i_goto 220),
  (257, i_aload 258 0),
  (258, i_iload 259 1),
  (259, i_iload 261 4),
  (261, i_iload 262 3),
  (262, i_push 263 (.inl 2)),
  (263, i_push 264 (.inl 0)),
  (264, i_callV 267 6 (rcv 12) f_X12_seeks),
  (267, i_push 268 (.inl 0)),
  (268, i_istore 270 5),
  (270, i_iload 272 5),
  (272, i_aload 273 0),
  (273, i_getI 276 12 0),
  (276, i_cmpge 279 296),
  (279, i_aload 280 0),
  (280, i_iload 281 1),
  (281, i_iload 283 4),
  (283, i_iload 284 3),
  (284, i_push 285 (.inl 3)),
  (285, i_iload 287 5),
  (287, i_callV 290 6 (rcv 12) f_X12_seeks),
  (290, i_iinc 293 5 (1)),
  (293, i_goto 270),
  (296, i_iinc 299 4 (1)),
  (299, i_goto 132),
  (302, i_vret)]
noncomputable def kc_X12_findWay : Nat → Option Ins := lkp k_X12_findWay
noncomputable def f_X12_findWay : List AV → Mem → Option Rs := den 6 kc_X12_findWay
abbrev rm_X12_findWay : Room := { frames := 6, cells := 0, slots := 0, locals := 149 }
set_option maxRecDepth 100000 in
theorem kt_X12_findWay : TriC kc_X12_findWay := lkp_tri (fa1 (tri_push 1 (.inl 0)) (fa1 (tri_istore 3 4) (fa1 (tri_iload 5 4) (fa1 (tri_push 8 (.inl 4096)) (fa1 (tri_cmpge 11 25) (fa1 (tri_aload 12 0) (fa1 (tri_getR 15 12 20 (fun _ => 38)) (fa1 (tri_iload 17 4) (fa1 (tri_push 18 (.inl (-1))) (fa1 (tri_ast 19 20 lnR id) (fa1 (tri_iinc 22 4 (1)) (fa1 (tri_goto 3) (fa1 (tri_aload 26 0) (fa1 (tri_push 27 (.inl 0)) (fa1 (tri_putI 30 12 60) (fa1 (tri_aload 31 0) (fa1 (tri_push 33 (.inl (-4))) (fa1 (tri_putI 36 12 61) (fa1 (tri_aload 37 0) (fa1 (tri_push 38 (.inl 0)) (fa1 (tri_putZ 41 12 62) (fa1 (tri_aload 42 0) (fa1 (tri_aload 43 0) (fa1 (tri_getR 46 12 20 (fun _ => 6)) (fa1 (tri_push 47 (.inl 2)) (fa1 (tri_iload 48 1) (fa1 (tri_bin 49 (fun x y => wr (x * y))) (fa1 (tri_ald 50 20 lnR) (fa1 (tri_putI 53 12 38) (fa1 (tri_push 54 (.inl 0)) (fa1 (tri_istore 56 4) (fa1 (tri_iload 58 4) (fa1 (tri_aload 59 0) (fa1 (tri_getI 62 12 38) (fa1 (tri_cmpge 65 90) (fa1 (tri_aload 66 0) (fa1 (tri_getR 69 12 20 (fun _ => 21)) (fa1 (tri_iload 71 4) (fa1 (tri_aload 72 0) (fa1 (tri_getR 75 12 20 (fun _ => 5)) (fa1 (tri_push 77 (.inl 40)) (fa1 (tri_iload 78 1) (fa1 (tri_bin 79 (fun x y => wr (x * y))) (fa1 (tri_iload 81 4) (fa1 (tri_bin 82 (fun x y => wr (x + y))) (fa1 (tri_ald 83 20 lnR) (fa1 (tri_ast 84 20 lnR id) (fa1 (tri_iinc 87 4 (1)) (fa1 (tri_goto 56) (fa1 (tri_aload 91 0) (fa1 (tri_aload 92 0) (fa1 (tri_aload 93 0) (fa1 (tri_getR 96 12 20 (fun _ => 21)) (fa1 (tri_aload 97 0) (fa1 (tri_getI 100 12 38) (fa1 (tri_callI 103 3 (rcv 12) f_X12_hashOf) (fa1 (tri_push 105 (.inl (-4))) (fa1 (tri_push 106 (.inl 0)) (fa1 (tri_push 107 (.inl 0)) (fa1 (tri_push 108 (.inl 0)) (fa1 (tri_callV 111 6 (rcv 12) f_X12_meets) (fa1 (tri_aload 112 0) (fa1 (tri_aload 113 0) (fa1 (tri_iload 114 1) (fa1 (tri_callI 117 2 (rcv 12) f_X12_isThenRight) (fa1 (tri_ifeq 120 124) (fa1 (tri_push 121 (.inl 0)) (fa1 (tri_goto 126) (fa1 (tri_push 126 (.inl (-4))) (fa1 (tri_putI 129 12 61) (fa1 (tri_push 130 (.inl 0)) (fa1 (tri_istore 132 4) (fa1 (tri_iload 134 4) (fa1 (tri_aload 135 0) (fa1 (tri_getI 138 12 60) (fa1 (tri_cmpge 141 302) (fa1 (tri_aload 142 0) (fa1 (tri_getI 145 12 61) (fa1 (tri_push 147 (.inl (-4))) (fa1 (tri_cmpne 150 302) (fa1 (tri_aload 151 0) (fa1 (tri_getI 154 12 62) (fa1 (tri_ifne 157 302) (fa1 (tri_aload 158 0) (fa1 (tri_getR 161 12 20 (fun _ => 33)) (fa1 (tri_iload 163 4) (fa1 (tri_ald 164 20 lnR) (fa1 (tri_iload 165 2) (fa1 (tri_cmpge 168 296) (fa1 (tri_aload 169 0) (fa1 (tri_aload 170 0) (fa1 (tri_getR 173 12 20 (fun _ => 31)) (fa1 (tri_iload 175 4) (fa1 (tri_ald 176 20 lnR) (fa1 (tri_putI 179 12 36) (fa1 (tri_push 180 (.inl 0)) (fa1 (tri_istore 182 5) (fa1 (tri_iload 184 5) (fa1 (tri_aload 185 0) (fa1 (tri_getI 188 12 36) (fa1 (tri_cmpge 191 217) (fa1 (tri_aload 192 0) (fa1 (tri_getR 195 12 20 (fun _ => 20)) (fa1 (tri_iload 197 5) (fa1 (tri_aload 198 0) (fa1 (tri_getR 201 12 20 (fun _ => 30)) (fa1 (tri_push 203 (.inl 20)) (fa1 (tri_iload 205 4) (fa1 (tri_bin 206 (fun x y => wr (x * y))) (fa1 (tri_iload 208 5) (fa1 (tri_bin 209 (fun x y => wr (x + y))) (fa1 (tri_ald 210 20 lnR) (fa1 (tri_ast 211 20 lnR id) (fa1 (tri_iinc 214 5 (1)) (fa1 (tri_goto 182) (fa1 (tri_push 218 (.inl 0)) (fa1 (tri_istore 220 5) (fa1 (tri_iload 222 5) (fa1 (tri_aload 223 0) (fa1 (tri_getI 226 12 5) (fa1 (tri_cmpge 229 257) (fa1 (tri_aload 230 0) (fa1 (tri_iload 231 1) (fa1 (tri_iload 233 4) (fa1 (tri_iload 234 3) (fa1 (tri_push 235 (.inl 0)) (fa1 (tri_iload 237 5) (fa1 (tri_callV 240 6 (rcv 12) f_X12_seeks) (fa1 (tri_aload 241 0) (fa1 (tri_iload 242 1) (fa1 (tri_iload 244 4) (fa1 (tri_iload 245 3) (fa1 (tri_push 246 (.inl 1)) (fa1 (tri_iload 248 5) (fa1 (tri_callV 251 6 (rcv 12) f_X12_seeks) (fa1 (tri_iinc 254 5 (1)) (fa1 (tri_goto 220) (fa1 (tri_aload 258 0) (fa1 (tri_iload 259 1) (fa1 (tri_iload 261 4) (fa1 (tri_iload 262 3) (fa1 (tri_push 263 (.inl 2)) (fa1 (tri_push 264 (.inl 0)) (fa1 (tri_callV 267 6 (rcv 12) f_X12_seeks) (fa1 (tri_push 268 (.inl 0)) (fa1 (tri_istore 270 5) (fa1 (tri_iload 272 5) (fa1 (tri_aload 273 0) (fa1 (tri_getI 276 12 0) (fa1 (tri_cmpge 279 296) (fa1 (tri_aload 280 0) (fa1 (tri_iload 281 1) (fa1 (tri_iload 283 4) (fa1 (tri_iload 284 3) (fa1 (tri_push 285 (.inl 3)) (fa1 (tri_iload 287 5) (fa1 (tri_callV 290 6 (rcv 12) f_X12_seeks) (fa1 (tri_iinc 293 5 (1)) (fa1 (tri_goto 270) (fa1 (tri_iinc 299 4 (1)) (fa1 (tri_goto 132) (fa1 (tri_vret) (fa0)))))))))))))))))))))))))))))))))))))))))))))))))))))))))))))))))))))))))))))))))))))))))))))))))))))))))))))))))))))))))))))))))))))))))))))))))))))))))))))))))))
set_option maxRecDepth 100000 in
set_option maxHeartbeats 4000000 in
theorem ks_X12_findWay (G : Wp) (l : Launch) : ∀ e ∈ k_X12_findWay, Snd loR G l RX12 cX12_findWay 6 none rm_X12_findWay e.1 e.2 :=
  fa1 (s_iconst (n := 0) (v := 0) (by decide +kernel) (by decide +kernel) (p32 rfl)) <|
  fa1 (s_istore (j := 4) (by decide +kernel) (by decide)) <|
  fa1 (s_iload (j := 4) (by decide +kernel)) <|
  fa1 (s_sipush (n := 4096) (v := 4096) (by decide +kernel) (by decide +kernel) (p32 rfl)) <|
  fa1 (s_cmpge (off := 17) (by decide +kernel) (by decide)) <|
  fa1 (s_aload_n (kf := 0) (j := 0) (by decide +kernel) rfl) <|
  fa1 (s_getR (t2 := 20) (g := (fun _ => 38)) (ci := 12) (f := 59) (idx := 126) (C := RX12) (T := TX12) (NF := 83) (by decide +kernel) rfl (by decide) inG_X12 (by decide) w_1297 lr_X12_59 (by decide)) <|
  fa1 (s_iload (j := 4) (by decide +kernel)) <|
  fa1 (s_iconst (n := -1) (v := -1) (by decide +kernel) (by decide +kernel) (p32 rfl)) <|
  fa1 (s_iast (by decide +kernel) lt_loR_20) <|
  fa1 (s_iinc (j := 4) (d := 1) (by decide +kernel) (by decide)) <|
  fa1 (s_goto (off := -19) (by decide +kernel) (by decide)) <|
  fa1 (s_aload_n (kf := 0) (j := 0) (by decide +kernel) rfl) <|
  fa1 (s_iconst (n := 0) (v := 0) (by decide +kernel) (by decide +kernel) (p32 rfl)) <|
  fa1 (s_putI (ci := 12) (f := 60) (idx := 387) (C := RX12) (T := TX12) (NF := 83) (by decide +kernel) rfl (by decide) inG_X12 (by decide) w_1298 tyX12 tyX12_ok nmX12 rfl (by decide +kernel) li_X12_60) <|
  fa1 (s_aload_n (kf := 0) (j := 0) (by decide +kernel) rfl) <|
  fa1 (s_bipush (n := -4) (v := -4) (by decide +kernel) (by decide +kernel) (p32 rfl)) <|
  fa1 (s_putI (ci := 12) (f := 61) (idx := 390) (C := RX12) (T := TX12) (NF := 83) (by decide +kernel) rfl (by decide) inG_X12 (by decide) w_1299 tyX12 tyX12_ok nmX12 rfl (by decide +kernel) li_X12_61) <|
  fa1 (s_aload_n (kf := 0) (j := 0) (by decide +kernel) rfl) <|
  fa1 (s_iconst (n := 0) (v := 0) (by decide +kernel) (by decide +kernel) (p32 rfl)) <|
  fa1 (s_putZ (ci := 12) (f := 62) (idx := 393) (C := RX12) (T := TX12) (NF := 83) (by decide +kernel) rfl (by decide) inG_X12 (by decide) w_1300 tyX12 tyX12_ok nmX12 rfl (by decide +kernel) li_X12_62) <|
  fa1 (s_aload_n (kf := 0) (j := 0) (by decide +kernel) rfl) <|
  fa1 (s_aload_n (kf := 0) (j := 0) (by decide +kernel) rfl) <|
  fa1 (s_getR (t2 := 20) (g := (fun _ => 6)) (ci := 12) (f := 7) (idx := 25) (C := RX12) (T := TX12) (NF := 83) (by decide +kernel) rfl (by decide) inG_X12 (by decide) w_1245 lr_X12_7 (by decide)) <|
  fa1 (s_iconst (n := 2) (v := 2) (by decide +kernel) (by decide +kernel) (p32 rfl)) <|
  fa1 (s_iload_n (kf := 1) (j := 1) (by decide +kernel) rfl) <|
  fa1 (s_imul (by decide +kernel)) <|
  fa1 (s_iald (by decide +kernel)) <|
  fa1 (s_putI (ci := 12) (f := 38) (idx := 324) (C := RX12) (T := TX12) (NF := 83) (by decide +kernel) rfl (by decide) inG_X12 (by decide) w_1276 tyX12 tyX12_ok nmX12 rfl (by decide +kernel) li_X12_38) <|
  fa1 (s_iconst (n := 0) (v := 0) (by decide +kernel) (by decide +kernel) (p32 rfl)) <|
  fa1 (s_istore (j := 4) (by decide +kernel) (by decide)) <|
  fa1 (s_iload (j := 4) (by decide +kernel)) <|
  fa1 (s_aload_n (kf := 0) (j := 0) (by decide +kernel) rfl) <|
  fa1 (s_getI (ci := 12) (f := 38) (idx := 324) (C := RX12) (T := TX12) (NF := 83) (by decide +kernel) rfl (by decide) inG_X12 (by decide) w_1276 li_X12_38) <|
  fa1 (s_cmpge (off := 28) (by decide +kernel) (by decide)) <|
  fa1 (s_aload_n (kf := 0) (j := 0) (by decide +kernel) rfl) <|
  fa1 (s_getR (t2 := 20) (g := (fun _ => 21)) (ci := 12) (f := 37) (idx := 70) (C := RX12) (T := TX12) (NF := 83) (by decide +kernel) rfl (by decide) inG_X12 (by decide) w_1275 lr_X12_37 (by decide)) <|
  fa1 (s_iload (j := 4) (by decide +kernel)) <|
  fa1 (s_aload_n (kf := 0) (j := 0) (by decide +kernel) rfl) <|
  fa1 (s_getR (t2 := 20) (g := (fun _ => 5)) (ci := 12) (f := 6) (idx := 22) (C := RX12) (T := TX12) (NF := 83) (by decide +kernel) rfl (by decide) inG_X12 (by decide) w_1244 lr_X12_6 (by decide)) <|
  fa1 (s_bipush (n := 40) (v := 40) (by decide +kernel) (by decide +kernel) (p32 rfl)) <|
  fa1 (s_iload_n (kf := 1) (j := 1) (by decide +kernel) rfl) <|
  fa1 (s_imul (by decide +kernel)) <|
  fa1 (s_iload (j := 4) (by decide +kernel)) <|
  fa1 (s_iadd (by decide +kernel)) <|
  fa1 (s_iald (by decide +kernel)) <|
  fa1 (s_iast (by decide +kernel) lt_loR_20) <|
  fa1 (s_iinc (j := 4) (d := 1) (by decide +kernel) (by decide)) <|
  fa1 (s_goto (off := -31) (by decide +kernel) (by decide)) <|
  fa1 (s_aload_n (kf := 0) (j := 0) (by decide +kernel) rfl) <|
  fa1 (s_aload_n (kf := 0) (j := 0) (by decide +kernel) rfl) <|
  fa1 (s_aload_n (kf := 0) (j := 0) (by decide +kernel) rfl) <|
  fa1 (s_getR (t2 := 20) (g := (fun _ => 21)) (ci := 12) (f := 37) (idx := 70) (C := RX12) (T := TX12) (NF := 83) (by decide +kernel) rfl (by decide) inG_X12 (by decide) w_1275 lr_X12_37 (by decide)) <|
  fa1 (s_aload_n (kf := 0) (j := 0) (by decide +kernel) rfl) <|
  fa1 (s_getI (ci := 12) (f := 38) (idx := 324) (C := RX12) (T := TX12) (NF := 83) (by decide +kernel) rfl (by decide) inG_X12 (by decide) w_1276 li_X12_38) <|
  fa1 (s_vcallI (n := 2) (ci := 12) (C := RX12) (T := TX12) (NF := 83) (idx := 396) (y := yX12_hashOf) (by decide +kernel) (gg_X12_hashOf) rfl (by decide) yv_X12_hashOf (all5 w_1724 w_1726 w_78 w_113 w_1727) rfl rfl ⟨by decide, by decide⟩) <|
  fa1 (s_bipush (n := -4) (v := -4) (by decide +kernel) (by decide +kernel) (p32 rfl)) <|
  fa1 (s_iconst (n := 0) (v := 0) (by decide +kernel) (by decide +kernel) (p32 rfl)) <|
  fa1 (s_iconst (n := 0) (v := 0) (by decide +kernel) (by decide +kernel) (p32 rfl)) <|
  fa1 (s_iconst (n := 0) (v := 0) (by decide +kernel) (by decide +kernel) (p32 rfl)) <|
  fa1 (s_vcallV (n := 5) (ci := 12) (C := RX12) (T := TX12) (NF := 83) (idx := 403) (y := yX12_meets) (by decide +kernel) (gg_X12_meets) rfl (by decide) yv_X12_meets (all5 w_1728 w_1730 w_79 w_113 w_1731) rfl rfl ⟨by decide, by decide⟩) <|
  fa1 (s_aload_n (kf := 0) (j := 0) (by decide +kernel) rfl) <|
  fa1 (s_aload_n (kf := 0) (j := 0) (by decide +kernel) rfl) <|
  fa1 (s_iload_n (kf := 1) (j := 1) (by decide +kernel) rfl) <|
  fa1 (s_vcallI (n := 1) (ci := 12) (C := RX12) (T := TX12) (NF := 83) (idx := 407) (y := yX12_isThenRight) (by decide +kernel) (gg_X12_isThenRight) rfl (by decide) yv_X12_isThenRight (all5 w_1732 w_1734 w_80 w_113 w_1735) rfl rfl ⟨by decide, by decide⟩) <|
  fa1 (s_ifeq (off := 7) (by decide +kernel) (by decide)) <|
  fa1 (s_iconst (n := 0) (v := 0) (by decide +kernel) (by decide +kernel) (p32 rfl)) <|
  fa1 (s_goto (off := 5) (by decide +kernel) (by decide)) <|
  fa1 (s_bipush (n := -4) (v := -4) (by decide +kernel) (by decide +kernel) (p32 rfl)) <|
  fa1 (s_putI (ci := 12) (f := 61) (idx := 390) (C := RX12) (T := TX12) (NF := 83) (by decide +kernel) rfl (by decide) inG_X12 (by decide) w_1299 tyX12 tyX12_ok nmX12 rfl (by decide +kernel) li_X12_61) <|
  fa1 (s_iconst (n := 0) (v := 0) (by decide +kernel) (by decide +kernel) (p32 rfl)) <|
  fa1 (s_istore (j := 4) (by decide +kernel) (by decide)) <|
  fa1 (s_iload (j := 4) (by decide +kernel)) <|
  fa1 (s_aload_n (kf := 0) (j := 0) (by decide +kernel) rfl) <|
  fa1 (s_getI (ci := 12) (f := 60) (idx := 387) (C := RX12) (T := TX12) (NF := 83) (by decide +kernel) rfl (by decide) inG_X12 (by decide) w_1298 li_X12_60) <|
  fa1 (s_cmpge (off := 164) (by decide +kernel) (by decide)) <|
  fa1 (s_aload_n (kf := 0) (j := 0) (by decide +kernel) rfl) <|
  fa1 (s_getI (ci := 12) (f := 61) (idx := 390) (C := RX12) (T := TX12) (NF := 83) (by decide +kernel) rfl (by decide) inG_X12 (by decide) w_1299 li_X12_61) <|
  fa1 (s_bipush (n := -4) (v := -4) (by decide +kernel) (by decide +kernel) (p32 rfl)) <|
  fa1 (s_cmpne (off := 155) (by decide +kernel) (by decide)) <|
  fa1 (s_aload_n (kf := 0) (j := 0) (by decide +kernel) rfl) <|
  fa1 (s_getI (ci := 12) (f := 62) (idx := 393) (C := RX12) (T := TX12) (NF := 83) (by decide +kernel) rfl (by decide) inG_X12 (by decide) w_1300 li_X12_62) <|
  fa1 (s_ifne (off := 148) (by decide +kernel) (by decide)) <|
  fa1 (s_aload_n (kf := 0) (j := 0) (by decide +kernel) rfl) <|
  fa1 (s_getR (t2 := 20) (g := (fun _ => 33)) (ci := 12) (f := 54) (idx := 111) (C := RX12) (T := TX12) (NF := 83) (by decide +kernel) rfl (by decide) inG_X12 (by decide) w_1292 lr_X12_54 (by decide)) <|
  fa1 (s_iload (j := 4) (by decide +kernel)) <|
  fa1 (s_iald (by decide +kernel)) <|
  fa1 (s_iload_n (kf := 2) (j := 2) (by decide +kernel) rfl) <|
  fa1 (s_cmpge (off := 131) (by decide +kernel) (by decide)) <|
  fa1 (s_aload_n (kf := 0) (j := 0) (by decide +kernel) rfl) <|
  fa1 (s_aload_n (kf := 0) (j := 0) (by decide +kernel) rfl) <|
  fa1 (s_getR (t2 := 20) (g := (fun _ => 31)) (ci := 12) (f := 52) (idx := 105) (C := RX12) (T := TX12) (NF := 83) (by decide +kernel) rfl (by decide) inG_X12 (by decide) w_1290 lr_X12_52 (by decide)) <|
  fa1 (s_iload (j := 4) (by decide +kernel)) <|
  fa1 (s_iald (by decide +kernel)) <|
  fa1 (s_putI (ci := 12) (f := 36) (idx := 311) (C := RX12) (T := TX12) (NF := 83) (by decide +kernel) rfl (by decide) inG_X12 (by decide) w_1274 tyX12 tyX12_ok nmX12 rfl (by decide +kernel) li_X12_36) <|
  fa1 (s_iconst (n := 0) (v := 0) (by decide +kernel) (by decide +kernel) (p32 rfl)) <|
  fa1 (s_istore (j := 5) (by decide +kernel) (by decide)) <|
  fa1 (s_iload (j := 5) (by decide +kernel)) <|
  fa1 (s_aload_n (kf := 0) (j := 0) (by decide +kernel) rfl) <|
  fa1 (s_getI (ci := 12) (f := 36) (idx := 311) (C := RX12) (T := TX12) (NF := 83) (by decide +kernel) rfl (by decide) inG_X12 (by decide) w_1274 li_X12_36) <|
  fa1 (s_cmpge (off := 29) (by decide +kernel) (by decide)) <|
  fa1 (s_aload_n (kf := 0) (j := 0) (by decide +kernel) rfl) <|
  fa1 (s_getR (t2 := 20) (g := (fun _ => 20)) (ci := 12) (f := 35) (idx := 67) (C := RX12) (T := TX12) (NF := 83) (by decide +kernel) rfl (by decide) inG_X12 (by decide) w_1273 lr_X12_35 (by decide)) <|
  fa1 (s_iload (j := 5) (by decide +kernel)) <|
  fa1 (s_aload_n (kf := 0) (j := 0) (by decide +kernel) rfl) <|
  fa1 (s_getR (t2 := 20) (g := (fun _ => 30)) (ci := 12) (f := 51) (idx := 102) (C := RX12) (T := TX12) (NF := 83) (by decide +kernel) rfl (by decide) inG_X12 (by decide) w_1289 lr_X12_51 (by decide)) <|
  fa1 (s_bipush (n := 20) (v := 20) (by decide +kernel) (by decide +kernel) (p32 rfl)) <|
  fa1 (s_iload (j := 4) (by decide +kernel)) <|
  fa1 (s_imul (by decide +kernel)) <|
  fa1 (s_iload (j := 5) (by decide +kernel)) <|
  fa1 (s_iadd (by decide +kernel)) <|
  fa1 (s_iald (by decide +kernel)) <|
  fa1 (s_iast (by decide +kernel) lt_loR_20) <|
  fa1 (s_iinc (j := 5) (d := 1) (by decide +kernel) (by decide)) <|
  fa1 (s_goto (off := -32) (by decide +kernel) (by decide)) <|
  fa1 (s_iconst (n := 0) (v := 0) (by decide +kernel) (by decide +kernel) (p32 rfl)) <|
  fa1 (s_istore (j := 5) (by decide +kernel) (by decide)) <|
  fa1 (s_iload (j := 5) (by decide +kernel)) <|
  fa1 (s_aload_n (kf := 0) (j := 0) (by decide +kernel) rfl) <|
  fa1 (s_getI (ci := 12) (f := 5) (idx := 184) (C := RX12) (T := TX12) (NF := 83) (by decide +kernel) rfl (by decide) inG_X12 (by decide) w_1243 li_X12_5) <|
  fa1 (s_cmpge (off := 31) (by decide +kernel) (by decide)) <|
  fa1 (s_aload_n (kf := 0) (j := 0) (by decide +kernel) rfl) <|
  fa1 (s_iload_n (kf := 1) (j := 1) (by decide +kernel) rfl) <|
  fa1 (s_iload (j := 4) (by decide +kernel)) <|
  fa1 (s_iload_n (kf := 3) (j := 3) (by decide +kernel) rfl) <|
  fa1 (s_iconst (n := 0) (v := 0) (by decide +kernel) (by decide +kernel) (p32 rfl)) <|
  fa1 (s_iload (j := 5) (by decide +kernel)) <|
  fa1 (s_vcallV (n := 5) (ci := 12) (C := RX12) (T := TX12) (NF := 83) (idx := 410) (y := yX12_seeks) (by decide +kernel) (gg_X12_seeks) rfl (by decide) yv_X12_seeks (all5 w_1736 w_1738 w_81 w_113 w_1739) rfl rfl ⟨by decide, by decide⟩) <|
  fa1 (s_aload_n (kf := 0) (j := 0) (by decide +kernel) rfl) <|
  fa1 (s_iload_n (kf := 1) (j := 1) (by decide +kernel) rfl) <|
  fa1 (s_iload (j := 4) (by decide +kernel)) <|
  fa1 (s_iload_n (kf := 3) (j := 3) (by decide +kernel) rfl) <|
  fa1 (s_iconst (n := 1) (v := 1) (by decide +kernel) (by decide +kernel) (p32 rfl)) <|
  fa1 (s_iload (j := 5) (by decide +kernel)) <|
  fa1 (s_vcallV (n := 5) (ci := 12) (C := RX12) (T := TX12) (NF := 83) (idx := 410) (y := yX12_seeks) (by decide +kernel) (gg_X12_seeks) rfl (by decide) yv_X12_seeks (all5 w_1736 w_1738 w_81 w_113 w_1739) rfl rfl ⟨by decide, by decide⟩) <|
  fa1 (s_iinc (j := 5) (d := 1) (by decide +kernel) (by decide)) <|
  fa1 (s_goto (off := -34) (by decide +kernel) (by decide)) <|
  fa1 (s_aload_n (kf := 0) (j := 0) (by decide +kernel) rfl) <|
  fa1 (s_iload_n (kf := 1) (j := 1) (by decide +kernel) rfl) <|
  fa1 (s_iload (j := 4) (by decide +kernel)) <|
  fa1 (s_iload_n (kf := 3) (j := 3) (by decide +kernel) rfl) <|
  fa1 (s_iconst (n := 2) (v := 2) (by decide +kernel) (by decide +kernel) (p32 rfl)) <|
  fa1 (s_iconst (n := 0) (v := 0) (by decide +kernel) (by decide +kernel) (p32 rfl)) <|
  fa1 (s_vcallV (n := 5) (ci := 12) (C := RX12) (T := TX12) (NF := 83) (idx := 410) (y := yX12_seeks) (by decide +kernel) (gg_X12_seeks) rfl (by decide) yv_X12_seeks (all5 w_1736 w_1738 w_81 w_113 w_1739) rfl rfl ⟨by decide, by decide⟩) <|
  fa1 (s_iconst (n := 0) (v := 0) (by decide +kernel) (by decide +kernel) (p32 rfl)) <|
  fa1 (s_istore (j := 5) (by decide +kernel) (by decide)) <|
  fa1 (s_iload (j := 5) (by decide +kernel)) <|
  fa1 (s_aload_n (kf := 0) (j := 0) (by decide +kernel) rfl) <|
  fa1 (s_getI (ci := 12) (f := 0) (idx := 191) (C := RX12) (T := TX12) (NF := 83) (by decide +kernel) rfl (by decide) inG_X12 (by decide) w_1238 li_X12_0) <|
  fa1 (s_cmpge (off := 20) (by decide +kernel) (by decide)) <|
  fa1 (s_aload_n (kf := 0) (j := 0) (by decide +kernel) rfl) <|
  fa1 (s_iload_n (kf := 1) (j := 1) (by decide +kernel) rfl) <|
  fa1 (s_iload (j := 4) (by decide +kernel)) <|
  fa1 (s_iload_n (kf := 3) (j := 3) (by decide +kernel) rfl) <|
  fa1 (s_iconst (n := 3) (v := 3) (by decide +kernel) (by decide +kernel) (p32 rfl)) <|
  fa1 (s_iload (j := 5) (by decide +kernel)) <|
  fa1 (s_vcallV (n := 5) (ci := 12) (C := RX12) (T := TX12) (NF := 83) (idx := 410) (y := yX12_seeks) (by decide +kernel) (gg_X12_seeks) rfl (by decide) yv_X12_seeks (all5 w_1736 w_1738 w_81 w_113 w_1739) rfl rfl ⟨by decide, by decide⟩) <|
  fa1 (s_iinc (j := 5) (d := 1) (by decide +kernel) (by decide)) <|
  fa1 (s_goto (off := -23) (by decide +kernel) (by decide)) <|
  fa1 (s_iinc (j := 4) (d := 1) (by decide +kernel) (by decide)) <|
  fa1 (s_goto (off := -167) (by decide +kernel) (by decide)) <|
  fa1 (s_vret (by decide +kernel) rfl) <| fa0
theorem gg_X12_findWay {G : Wp} {l : Launch} : GoodM loR G l yX12_findWay cX12_findWay 6 none rm_X12_findWay f_X12_findWay := met_of kt_X12_findWay (lkp_snd (ks_X12_findWay G l)) (by decide +kernel) rfl (by decide)
noncomputable def k_X12_seek : List (Nat × Ins) := [
  (0, i_aload 1 0),
  (1, i_iload 2 1),
  (2, i_callI 5 2 (rcv 12) f_X12_isSaying),
  (5, i_ifeq 8 43),
  (8, i_iload 9 2),
  (9, i_i2l 10),
  (10, i_push 11 (.inr (.inl 0))),
  (11, i_push 14 (.inr (.inl (8)))),
  (14, i_callI 17 3 anyv f_X12_in),
  (17, i_ifeq 20 43),
  (20, i_iload 21 3),
  (21, i_i2l 22),
  (22, i_push 23 (.inr (.inl 1))),
  (23, i_push 26 (.inr (.inl (20)))),
  (26, i_callI 29 3 anyv f_X12_in),
  (29, i_ifeq 32 43),
  (32, i_iload 34 4),
  (34, i_i2l 35),
  (35, i_push 36 (.inr (.inl 0))),
  (36, i_push 37 (.inr (.inl 1))),
  (37, i_callI 40 3 anyv f_X12_in),
  (40, i_ifne 43 45),
  (43, i_push 44 (.inl (-1))),
  (44, i_iret),
  (45, i_aload 46 0),
  (46, i_iload 47 1),
  (47, i_callI 50 2 (rcv 12) f_X12_isOpen),
  (50, i_ifne 53 56),
  (53, i_push 55 (.inl (-2))),
  (55, i_iret),
  (56, i_aload 57 0),
  (57, i_iload 58 1),
  (58, i_iload 59 2),
  (59, i_iload 60 3),
  (60, i_callV 63 4 (rcv 12) f_X12_findWay),
  (63, i_aload 64 0),
  (64, i_getI 67 12 62),
  (67, i_ifeq 70 75),
  (70, i_push 72 (.inl (-6))),
  (72, i_goto 111),
  (75, i_iload 77 4),
  (77, i_push 78 (.inl 1)),
  (78, i_cmpne 81 88),
  (81, i_aload 82 0),
  (82, i_getI 85 12 60),
  (85, i_goto 111),
  (88, i_aload 89 0),
  (89, i_getI 92 12 61),
  (92, i_push 94 (.inl (-4))),
  (94, i_cmpne 97 102),
  (97, i_push 99 (.inl (-4))),
  (99, i_goto 111),
  (102, i_aload 103 0),
  (103, i_getR 106 12 20 (fun _ => 33)),
  (106, i_aload 107 0),
  (107, i_getI 110 12 61),
  (110, i_ald 111 20 lnR),
  (111, i_iret)]
noncomputable def kc_X12_seek : Nat → Option Ins := lkp k_X12_seek
noncomputable def f_X12_seek : List AV → Mem → Option Rs := den 5 kc_X12_seek
abbrev rm_X12_seek : Room := { frames := 7, cells := 0, slots := 0, locals := 174 }
set_option maxRecDepth 100000 in
theorem kt_X12_seek : TriC kc_X12_seek := lkp_tri (fa1 (tri_aload 1 0) (fa1 (tri_iload 2 1) (fa1 (tri_callI 5 2 (rcv 12) f_X12_isSaying) (fa1 (tri_ifeq 8 43) (fa1 (tri_iload 9 2) (fa1 (tri_i2l 10) (fa1 (tri_push 11 (.inr (.inl 0))) (fa1 (tri_push 14 (.inr (.inl (8)))) (fa1 (tri_callI 17 3 anyv f_X12_in) (fa1 (tri_ifeq 20 43) (fa1 (tri_iload 21 3) (fa1 (tri_i2l 22) (fa1 (tri_push 23 (.inr (.inl 1))) (fa1 (tri_push 26 (.inr (.inl (20)))) (fa1 (tri_callI 29 3 anyv f_X12_in) (fa1 (tri_ifeq 32 43) (fa1 (tri_iload 34 4) (fa1 (tri_i2l 35) (fa1 (tri_push 36 (.inr (.inl 0))) (fa1 (tri_push 37 (.inr (.inl 1))) (fa1 (tri_callI 40 3 anyv f_X12_in) (fa1 (tri_ifne 43 45) (fa1 (tri_push 44 (.inl (-1))) (fa1 (tri_iret) (fa1 (tri_aload 46 0) (fa1 (tri_iload 47 1) (fa1 (tri_callI 50 2 (rcv 12) f_X12_isOpen) (fa1 (tri_ifne 53 56) (fa1 (tri_push 55 (.inl (-2))) (fa1 (tri_iret) (fa1 (tri_aload 57 0) (fa1 (tri_iload 58 1) (fa1 (tri_iload 59 2) (fa1 (tri_iload 60 3) (fa1 (tri_callV 63 4 (rcv 12) f_X12_findWay) (fa1 (tri_aload 64 0) (fa1 (tri_getI 67 12 62) (fa1 (tri_ifeq 70 75) (fa1 (tri_push 72 (.inl (-6))) (fa1 (tri_goto 111) (fa1 (tri_iload 77 4) (fa1 (tri_push 78 (.inl 1)) (fa1 (tri_cmpne 81 88) (fa1 (tri_aload 82 0) (fa1 (tri_getI 85 12 60) (fa1 (tri_goto 111) (fa1 (tri_aload 89 0) (fa1 (tri_getI 92 12 61) (fa1 (tri_push 94 (.inl (-4))) (fa1 (tri_cmpne 97 102) (fa1 (tri_push 99 (.inl (-4))) (fa1 (tri_goto 111) (fa1 (tri_aload 103 0) (fa1 (tri_getR 106 12 20 (fun _ => 33)) (fa1 (tri_aload 107 0) (fa1 (tri_getI 110 12 61) (fa1 (tri_ald 111 20 lnR) (fa1 (tri_iret) (fa0)))))))))))))))))))))))))))))))))))))))))))))))))))))))))))
set_option maxRecDepth 100000 in
set_option maxHeartbeats 4000000 in
theorem ks_X12_seek (G : Wp) (l : Launch) : ∀ e ∈ k_X12_seek, Snd loR G l RX12 cX12_seek 5 (some .int) rm_X12_seek e.1 e.2 :=
  fa1 (s_aload_n (kf := 0) (j := 0) (by decide +kernel) rfl) <|
  fa1 (s_iload_n (kf := 1) (j := 1) (by decide +kernel) rfl) <|
  fa1 (s_vcallI (n := 1) (ci := 12) (C := RX12) (T := TX12) (NF := 83) (idx := 287) (y := yX12_isSaying) (by decide +kernel) (gg_X12_isSaying) rfl (by decide) yv_X12_isSaying (all5 w_1581 w_1583 w_56 w_113 w_1584) rfl rfl ⟨by decide, by decide⟩) <|
  fa1 (s_ifeq (off := 38) (by decide +kernel) (by decide)) <|
  fa1 (s_iload_n (kf := 2) (j := 2) (by decide +kernel) rfl) <|
  fa1 (s_i2l (by decide +kernel)) <|
  fa1 (s_lconst (n := 0) (v := 0) (by decide +kernel) (by decide +kernel) (p64 rfl)) <|
  fa1 (s_ldc2 (idx := 291) (v := 8) (by decide +kernel) w_1585 (p64 rfl)) <|
  fa1 (s_scallI (n := 3) (idx := 187) (y := yX12_in) (by decide +kernel) (gg_X12_in) yv_X12_in (all4 w_1498 w_1499 w_113 w_1500) rfl rfl ⟨by decide, by decide⟩) <|
  fa1 (s_ifeq (off := 26) (by decide +kernel) (by decide)) <|
  fa1 (s_iload_n (kf := 3) (j := 3) (by decide +kernel) rfl) <|
  fa1 (s_i2l (by decide +kernel)) <|
  fa1 (s_lconst (n := 1) (v := 1) (by decide +kernel) (by decide +kernel) (p64 rfl)) <|
  fa1 (s_ldc2 (idx := 413) (v := 20) (by decide +kernel) w_1719 (p64 rfl)) <|
  fa1 (s_scallI (n := 3) (idx := 187) (y := yX12_in) (by decide +kernel) (gg_X12_in) yv_X12_in (all4 w_1498 w_1499 w_113 w_1500) rfl rfl ⟨by decide, by decide⟩) <|
  fa1 (s_ifeq (off := 14) (by decide +kernel) (by decide)) <|
  fa1 (s_iload (j := 4) (by decide +kernel)) <|
  fa1 (s_i2l (by decide +kernel)) <|
  fa1 (s_lconst (n := 0) (v := 0) (by decide +kernel) (by decide +kernel) (p64 rfl)) <|
  fa1 (s_lconst (n := 1) (v := 1) (by decide +kernel) (by decide +kernel) (p64 rfl)) <|
  fa1 (s_scallI (n := 3) (idx := 187) (y := yX12_in) (by decide +kernel) (gg_X12_in) yv_X12_in (all4 w_1498 w_1499 w_113 w_1500) rfl rfl ⟨by decide, by decide⟩) <|
  fa1 (s_ifne (off := 5) (by decide +kernel) (by decide)) <|
  fa1 (s_iconst (n := -1) (v := -1) (by decide +kernel) (by decide +kernel) (p32 rfl)) <|
  fa1 (s_iret (by decide +kernel) rfl) <|
  fa1 (s_aload_n (kf := 0) (j := 0) (by decide +kernel) rfl) <|
  fa1 (s_iload_n (kf := 1) (j := 1) (by decide +kernel) rfl) <|
  fa1 (s_vcallI (n := 1) (ci := 12) (C := RX12) (T := TX12) (NF := 83) (idx := 361) (y := yX12_isOpen) (by decide +kernel) (gg_X12_isOpen) rfl (by decide) yv_X12_isOpen (all5 w_1666 w_1668 w_71 w_113 w_1669) rfl rfl ⟨by decide, by decide⟩) <|
  fa1 (s_ifne (off := 6) (by decide +kernel) (by decide)) <|
  fa1 (s_bipush (n := -2) (v := -2) (by decide +kernel) (by decide +kernel) (p32 rfl)) <|
  fa1 (s_iret (by decide +kernel) rfl) <|
  fa1 (s_aload_n (kf := 0) (j := 0) (by decide +kernel) rfl) <|
  fa1 (s_iload_n (kf := 1) (j := 1) (by decide +kernel) rfl) <|
  fa1 (s_iload_n (kf := 2) (j := 2) (by decide +kernel) rfl) <|
  fa1 (s_iload_n (kf := 3) (j := 3) (by decide +kernel) rfl) <|
  fa1 (s_vcallV (n := 3) (ci := 12) (C := RX12) (T := TX12) (NF := 83) (idx := 415) (y := yX12_findWay) (by decide +kernel) (gg_X12_findWay) rfl (by decide) yv_X12_findWay (all5 w_1720 w_1722 w_77 w_113 w_1723) rfl rfl ⟨by decide, by decide⟩) <|
  fa1 (s_aload_n (kf := 0) (j := 0) (by decide +kernel) rfl) <|
  fa1 (s_getI (ci := 12) (f := 62) (idx := 393) (C := RX12) (T := TX12) (NF := 83) (by decide +kernel) rfl (by decide) inG_X12 (by decide) w_1300 li_X12_62) <|
  fa1 (s_ifeq (off := 8) (by decide +kernel) (by decide)) <|
  fa1 (s_bipush (n := -6) (v := -6) (by decide +kernel) (by decide +kernel) (p32 rfl)) <|
  fa1 (s_goto (off := 39) (by decide +kernel) (by decide)) <|
  fa1 (s_iload (j := 4) (by decide +kernel)) <|
  fa1 (s_iconst (n := 1) (v := 1) (by decide +kernel) (by decide +kernel) (p32 rfl)) <|
  fa1 (s_cmpne (off := 10) (by decide +kernel) (by decide)) <|
  fa1 (s_aload_n (kf := 0) (j := 0) (by decide +kernel) rfl) <|
  fa1 (s_getI (ci := 12) (f := 60) (idx := 387) (C := RX12) (T := TX12) (NF := 83) (by decide +kernel) rfl (by decide) inG_X12 (by decide) w_1298 li_X12_60) <|
  fa1 (s_goto (off := 26) (by decide +kernel) (by decide)) <|
  fa1 (s_aload_n (kf := 0) (j := 0) (by decide +kernel) rfl) <|
  fa1 (s_getI (ci := 12) (f := 61) (idx := 390) (C := RX12) (T := TX12) (NF := 83) (by decide +kernel) rfl (by decide) inG_X12 (by decide) w_1299 li_X12_61) <|
  fa1 (s_bipush (n := -4) (v := -4) (by decide +kernel) (by decide +kernel) (p32 rfl)) <|
  fa1 (s_cmpne (off := 8) (by decide +kernel) (by decide)) <|
  fa1 (s_bipush (n := -4) (v := -4) (by decide +kernel) (by decide +kernel) (p32 rfl)) <|
  fa1 (s_goto (off := 12) (by decide +kernel) (by decide)) <|
  fa1 (s_aload_n (kf := 0) (j := 0) (by decide +kernel) rfl) <|
  fa1 (s_getR (t2 := 20) (g := (fun _ => 33)) (ci := 12) (f := 54) (idx := 111) (C := RX12) (T := TX12) (NF := 83) (by decide +kernel) rfl (by decide) inG_X12 (by decide) w_1292 lr_X12_54 (by decide)) <|
  fa1 (s_aload_n (kf := 0) (j := 0) (by decide +kernel) rfl) <|
  fa1 (s_getI (ci := 12) (f := 61) (idx := 390) (C := RX12) (T := TX12) (NF := 83) (by decide +kernel) rfl (by decide) inG_X12 (by decide) w_1299 li_X12_61) <|
  fa1 (s_iald (by decide +kernel)) <|
  fa1 (s_iret (by decide +kernel) rfl) <| fa0
theorem gg_X12_seek {G : Wp} {l : Launch} : GoodM loR G l yX12_seek cX12_seek 5 (some .int) rm_X12_seek f_X12_seek := met_of kt_X12_seek (lkp_snd (ks_X12_seek G l)) (by decide +kernel) rfl (by decide)
noncomputable def k_X12_take : List (Nat × Ins) := [
  (0, i_aload 1 0),
  (1, i_iload 2 1),
  (2, i_callI 5 2 (rcv 12) f_X12_isSaying),
  (5, i_ifeq 8 32),
  (8, i_iload 9 2),
  (9, i_i2l 10),
  (10, i_push 11 (.inr (.inl 0))),
  (11, i_push 14 (.inr (.inl (8)))),
  (14, i_callI 17 3 anyv f_X12_in),
  (17, i_ifeq 20 32),
  (20, i_iload 21 3),
  (21, i_i2l 22),
  (22, i_push 23 (.inr (.inl 1))),
  (23, i_push 26 (.inr (.inl (20)))),
  (26, i_callI 29 3 anyv f_X12_in),
  (29, i_ifne 32 34),
  (32, i_push 33 (.inl (-1))),
  (33, i_iret),
  (34, i_aload 35 0),
  (35, i_iload 36 1),
  (36, i_callI 39 2 (rcv 12) f_X12_isOpen),
  (39, i_ifne 42 45),
  (42, i_push 44 (.inl (-2))),
  (44, i_iret),
  (45, i_aload 46 0),
  (46, i_iload 47 1),
  (47, i_iload 48 2),
  (48, i_iload 49 3),
  (49, i_callV 52 4 (rcv 12) f_X12_findWay),
  (52, i_aload 53 0),
  (53, i_getI 56 12 62),
  (56, i_ifne 59 68),
  (59, i_aload 60 0),
  (60, i_getI 63 12 61),
  (63, i_push 65 (.inl (-4))),
  (65, i_cmpne 68 83),
  (68, i_aload 69 0),
  (69, i_getI 72 12 62),
  (72, i_ifeq 75 80),
  (75, i_push 77 (.inl (-6))),
  (77, i_goto 82),
  (80, i_push 82 (.inl (-4))),
  (82, i_iret),
  (83, i_aload 84 0),
  (84, i_getR 87 12 20 (fun _ => 33)),
  (87, i_aload 88 0),
  (88, i_getI 91 12 61),
  (91, i_ald 92 20 lnR),
  (92, i_istore 94 4),
  (94, i_aload 95 0),
  (95, i_getI 98 12 16),
  (98, i_iload 100 4),
  (100, i_bin 101 (fun x y => wr (x + y))),
  (101, i_push 104 (.inl 200)),
  (104, i_cmple 107 110),
  (107, i_push 109 (.inl (-3))),
  (109, i_iret),
  (110, i_aload 111 0),
  (111, i_getR 114 12 20 (fun _ => 10)),
  (114, i_iload 115 1),
  (115, i_aload 116 0),
  (116, i_getI 119 12 16),
  (119, i_ast 120 20 lnR id),
  (120, i_aload 121 0),
  (121, i_getR 124 12 20 (fun _ => 11)),
  (124, i_iload 125 1),
  (125, i_iload 127 4),
  (127, i_ast 128 20 lnR id),
  (128, i_aload 129 0),
  (129, i_getI 132 12 61),
  (132, i_istore 134 5),
  (134, i_iload 136 4),
  (136, i_push 137 (.inl 1)),
  (137, i_bin 138 (fun x y => wr (x - y))),
  (138, i_istore 140 6),
  (140, i_iload 142 6),
  (142, i_iflt 145 217),
  (145, i_aload 146 0),
  (146, i_getR 149 12 20 (fun _ => 14)),
  (149, i_aload 150 0),
  (150, i_getI 153 12 16),
  (153, i_iload 155 6),
  (155, i_bin 156 (fun x y => wr (x + y))),
  (156, i_aload 157 0),
  (157, i_getR 160 12 20 (fun _ => 34)),
  (160, i_iload 162 5),
  (162, i_ald 163 20 lnR),
  (163, i_ast 164 20 lnR id),
  (164, i_aload 165 0),
  (165, i_getR 168 12 20 (fun _ => 15)),
  (168, i_aload 169 0),
  (169, i_getI 172 12 16),
  (172, i_iload 174 6),
  (174, i_bin 175 (fun x y => wr (x + y))),
  (175, i_aload 176 0),
  (176, i_getR 179 12 20 (fun _ => 35)),
  (179, i_iload 181 5),
  (181, i_ald 182 20 lnR),
  (182, i_ast 183 20 lnR id),
  (183, i_aload 184 0),
  (184, i_getR 187 12 20 (fun _ => 16)),
  (187, i_aload 188 0),
  (188, i_getI 191 12 16),
  (191, i_iload 193 6),
  (193, i_bin 194 (fun x y => wr (x + y))),
  (194, i_aload 195 0),
  (195, i_getR 198 12 20 (fun _ => 36)),
  (198, i_iload 200 5),
  (200, i_ald 201 20 lnR),
  (201, i_ast 202 20 lnR id),
  (202, i_aload 203 0),
  (203, i_getR 206 12 20 (fun _ => 32)),
  (206, i_iload 208 5),
  (208, i_ald 209 20 lnR),
  (209, i_istore 211 5),
  (211, i_iinc 214 6 (-1)),
  (214, i_goto 140),
  (217, i_aload 218 0),
  (218, i_dup 219),
  (219, i_getI 222 12 16),
  (222, i_iload 224 4),
  (224, i_bin 225 (fun x y => wr (x + y))),
  (225, i_putI 228 12 16),
  (228, i_aload 229 0),
  (229, i_getR 232 12 20 (fun _ => 13)),
  (232, i_iload 233 1),
  (233, i_aload 234 0),
  (234, i_getI 237 12 15),
  (237, i_ast 238 20 lnR id),
  (238, i_aload 239 0),
  (239, i_dup 240),
  (240, i_getI 243 12 15),
  (243, i_push 244 (.inl 1)),
  (244, i_bin 245 (fun x y => wr (x + y))),
  (245, i_putI 248 12 15),
  (248, i_aload 249 0),
  (249, i_getR 252 12 20 (fun _ => 12)),
  (252, i_iload 253 1),
  (253, i_push 255 (.inl (-4))),
  (255, i_ast 256 20 lnR id),
  (256, i_aload 257 0),
  (257, i_iload 258 1),
  (258, i_push 259 (.inl 2)),
  (259, i_callV 262 3 (rcv 12) f_X12_becomes),
  (262, i_aload 263 0),
  (263, i_aload 264 0),
  (264, i_getI 267 12 45),
  (267, i_iload 268 1),
  (268, i_cmpne 271 276),
  (271, i_push 273 (.inl (-4))),
  (273, i_goto 280),
  (276, i_aload 277 0),
  (277, i_getI 280 12 45),
  (280, i_putI 283 12 45),
  (283, i_iload 285 4),
  (285, i_iret)]
noncomputable def kc_X12_take : Nat → Option Ins := lkp k_X12_take
noncomputable def f_X12_take : List AV → Mem → Option Rs := den 7 kc_X12_take
abbrev rm_X12_take : Room := { frames := 7, cells := 0, slots := 0, locals := 174 }
set_option maxRecDepth 100000 in
theorem kt_X12_take : TriC kc_X12_take := lkp_tri (fa1 (tri_aload 1 0) (fa1 (tri_iload 2 1) (fa1 (tri_callI 5 2 (rcv 12) f_X12_isSaying) (fa1 (tri_ifeq 8 32) (fa1 (tri_iload 9 2) (fa1 (tri_i2l 10) (fa1 (tri_push 11 (.inr (.inl 0))) (fa1 (tri_push 14 (.inr (.inl (8)))) (fa1 (tri_callI 17 3 anyv f_X12_in) (fa1 (tri_ifeq 20 32) (fa1 (tri_iload 21 3) (fa1 (tri_i2l 22) (fa1 (tri_push 23 (.inr (.inl 1))) (fa1 (tri_push 26 (.inr (.inl (20)))) (fa1 (tri_callI 29 3 anyv f_X12_in) (fa1 (tri_ifne 32 34) (fa1 (tri_push 33 (.inl (-1))) (fa1 (tri_iret) (fa1 (tri_aload 35 0) (fa1 (tri_iload 36 1) (fa1 (tri_callI 39 2 (rcv 12) f_X12_isOpen) (fa1 (tri_ifne 42 45) (fa1 (tri_push 44 (.inl (-2))) (fa1 (tri_iret) (fa1 (tri_aload 46 0) (fa1 (tri_iload 47 1) (fa1 (tri_iload 48 2) (fa1 (tri_iload 49 3) (fa1 (tri_callV 52 4 (rcv 12) f_X12_findWay) (fa1 (tri_aload 53 0) (fa1 (tri_getI 56 12 62) (fa1 (tri_ifne 59 68) (fa1 (tri_aload 60 0) (fa1 (tri_getI 63 12 61) (fa1 (tri_push 65 (.inl (-4))) (fa1 (tri_cmpne 68 83) (fa1 (tri_aload 69 0) (fa1 (tri_getI 72 12 62) (fa1 (tri_ifeq 75 80) (fa1 (tri_push 77 (.inl (-6))) (fa1 (tri_goto 82) (fa1 (tri_push 82 (.inl (-4))) (fa1 (tri_iret) (fa1 (tri_aload 84 0) (fa1 (tri_getR 87 12 20 (fun _ => 33)) (fa1 (tri_aload 88 0) (fa1 (tri_getI 91 12 61) (fa1 (tri_ald 92 20 lnR) (fa1 (tri_istore 94 4) (fa1 (tri_aload 95 0) (fa1 (tri_getI 98 12 16) (fa1 (tri_iload 100 4) (fa1 (tri_bin 101 (fun x y => wr (x + y))) (fa1 (tri_push 104 (.inl 200)) (fa1 (tri_cmple 107 110) (fa1 (tri_push 109 (.inl (-3))) (fa1 (tri_iret) (fa1 (tri_aload 111 0) (fa1 (tri_getR 114 12 20 (fun _ => 10)) (fa1 (tri_iload 115 1) (fa1 (tri_aload 116 0) (fa1 (tri_getI 119 12 16) (fa1 (tri_ast 120 20 lnR id) (fa1 (tri_aload 121 0) (fa1 (tri_getR 124 12 20 (fun _ => 11)) (fa1 (tri_iload 125 1) (fa1 (tri_iload 127 4) (fa1 (tri_ast 128 20 lnR id) (fa1 (tri_aload 129 0) (fa1 (tri_getI 132 12 61) (fa1 (tri_istore 134 5) (fa1 (tri_iload 136 4) (fa1 (tri_push 137 (.inl 1)) (fa1 (tri_bin 138 (fun x y => wr (x - y))) (fa1 (tri_istore 140 6) (fa1 (tri_iload 142 6) (fa1 (tri_iflt 145 217) (fa1 (tri_aload 146 0) (fa1 (tri_getR 149 12 20 (fun _ => 14)) (fa1 (tri_aload 150 0) (fa1 (tri_getI 153 12 16) (fa1 (tri_iload 155 6) (fa1 (tri_bin 156 (fun x y => wr (x + y))) (fa1 (tri_aload 157 0) (fa1 (tri_getR 160 12 20 (fun _ => 34)) (fa1 (tri_iload 162 5) (fa1 (tri_ald 163 20 lnR) (fa1 (tri_ast 164 20 lnR id) (fa1 (tri_aload 165 0) (fa1 (tri_getR 168 12 20 (fun _ => 15)) (fa1 (tri_aload 169 0) (fa1 (tri_getI 172 12 16) (fa1 (tri_iload 174 6) (fa1 (tri_bin 175 (fun x y => wr (x + y))) (fa1 (tri_aload 176 0) (fa1 (tri_getR 179 12 20 (fun _ => 35)) (fa1 (tri_iload 181 5) (fa1 (tri_ald 182 20 lnR) (fa1 (tri_ast 183 20 lnR id) (fa1 (tri_aload 184 0) (fa1 (tri_getR 187 12 20 (fun _ => 16)) (fa1 (tri_aload 188 0) (fa1 (tri_getI 191 12 16) (fa1 (tri_iload 193 6) (fa1 (tri_bin 194 (fun x y => wr (x + y))) (fa1 (tri_aload 195 0) (fa1 (tri_getR 198 12 20 (fun _ => 36)) (fa1 (tri_iload 200 5) (fa1 (tri_ald 201 20 lnR) (fa1 (tri_ast 202 20 lnR id) (fa1 (tri_aload 203 0) (fa1 (tri_getR 206 12 20 (fun _ => 32)) (fa1 (tri_iload 208 5) (fa1 (tri_ald 209 20 lnR) (fa1 (tri_istore 211 5) (fa1 (tri_iinc 214 6 (-1)) (fa1 (tri_goto 140) (fa1 (tri_aload 218 0) (fa1 (tri_dup 219) (fa1 (tri_getI 222 12 16) (fa1 (tri_iload 224 4) (fa1 (tri_bin 225 (fun x y => wr (x + y))) (fa1 (tri_putI 228 12 16) (fa1 (tri_aload 229 0) (fa1 (tri_getR 232 12 20 (fun _ => 13)) (fa1 (tri_iload 233 1) (fa1 (tri_aload 234 0) (fa1 (tri_getI 237 12 15) (fa1 (tri_ast 238 20 lnR id) (fa1 (tri_aload 239 0) (fa1 (tri_dup 240) (fa1 (tri_getI 243 12 15) (fa1 (tri_push 244 (.inl 1)) (fa1 (tri_bin 245 (fun x y => wr (x + y))) (fa1 (tri_putI 248 12 15) (fa1 (tri_aload 249 0) (fa1 (tri_getR 252 12 20 (fun _ => 12)) (fa1 (tri_iload 253 1) (fa1 (tri_push 255 (.inl (-4))) (fa1 (tri_ast 256 20 lnR id) (fa1 (tri_aload 257 0) (fa1 (tri_iload 258 1) (fa1 (tri_push 259 (.inl 2)) (fa1 (tri_callV 262 3 (rcv 12) f_X12_becomes) (fa1 (tri_aload 263 0) (fa1 (tri_aload 264 0) (fa1 (tri_getI 267 12 45) (fa1 (tri_iload 268 1) (fa1 (tri_cmpne 271 276) (fa1 (tri_push 273 (.inl (-4))) (fa1 (tri_goto 280) (fa1 (tri_aload 277 0) (fa1 (tri_getI 280 12 45) (fa1 (tri_putI 283 12 45) (fa1 (tri_iload 285 4) (fa1 (tri_iret) (fa0)))))))))))))))))))))))))))))))))))))))))))))))))))))))))))))))))))))))))))))))))))))))))))))))))))))))))))))))))))))))))))))))))))))))))))))))))))))))))))))
set_option maxRecDepth 100000 in
set_option maxHeartbeats 4000000 in
theorem ks_X12_take (G : Wp) (l : Launch) : ∀ e ∈ k_X12_take, Snd loR G l RX12 cX12_take 7 (some .int) rm_X12_take e.1 e.2 :=
  fa1 (s_aload_n (kf := 0) (j := 0) (by decide +kernel) rfl) <|
  fa1 (s_iload_n (kf := 1) (j := 1) (by decide +kernel) rfl) <|
  fa1 (s_vcallI (n := 1) (ci := 12) (C := RX12) (T := TX12) (NF := 83) (idx := 287) (y := yX12_isSaying) (by decide +kernel) (gg_X12_isSaying) rfl (by decide) yv_X12_isSaying (all5 w_1581 w_1583 w_56 w_113 w_1584) rfl rfl ⟨by decide, by decide⟩) <|
  fa1 (s_ifeq (off := 27) (by decide +kernel) (by decide)) <|
  fa1 (s_iload_n (kf := 2) (j := 2) (by decide +kernel) rfl) <|
  fa1 (s_i2l (by decide +kernel)) <|
  fa1 (s_lconst (n := 0) (v := 0) (by decide +kernel) (by decide +kernel) (p64 rfl)) <|
  fa1 (s_ldc2 (idx := 291) (v := 8) (by decide +kernel) w_1585 (p64 rfl)) <|
  fa1 (s_scallI (n := 3) (idx := 187) (y := yX12_in) (by decide +kernel) (gg_X12_in) yv_X12_in (all4 w_1498 w_1499 w_113 w_1500) rfl rfl ⟨by decide, by decide⟩) <|
  fa1 (s_ifeq (off := 15) (by decide +kernel) (by decide)) <|
  fa1 (s_iload_n (kf := 3) (j := 3) (by decide +kernel) rfl) <|
  fa1 (s_i2l (by decide +kernel)) <|
  fa1 (s_lconst (n := 1) (v := 1) (by decide +kernel) (by decide +kernel) (p64 rfl)) <|
  fa1 (s_ldc2 (idx := 413) (v := 20) (by decide +kernel) w_1719 (p64 rfl)) <|
  fa1 (s_scallI (n := 3) (idx := 187) (y := yX12_in) (by decide +kernel) (gg_X12_in) yv_X12_in (all4 w_1498 w_1499 w_113 w_1500) rfl rfl ⟨by decide, by decide⟩) <|
  fa1 (s_ifne (off := 5) (by decide +kernel) (by decide)) <|
  fa1 (s_iconst (n := -1) (v := -1) (by decide +kernel) (by decide +kernel) (p32 rfl)) <|
  fa1 (s_iret (by decide +kernel) rfl) <|
  fa1 (s_aload_n (kf := 0) (j := 0) (by decide +kernel) rfl) <|
  fa1 (s_iload_n (kf := 1) (j := 1) (by decide +kernel) rfl) <|
  fa1 (s_vcallI (n := 1) (ci := 12) (C := RX12) (T := TX12) (NF := 83) (idx := 361) (y := yX12_isOpen) (by decide +kernel) (gg_X12_isOpen) rfl (by decide) yv_X12_isOpen (all5 w_1666 w_1668 w_71 w_113 w_1669) rfl rfl ⟨by decide, by decide⟩) <|
  fa1 (s_ifne (off := 6) (by decide +kernel) (by decide)) <|
  fa1 (s_bipush (n := -2) (v := -2) (by decide +kernel) (by decide +kernel) (p32 rfl)) <|
  fa1 (s_iret (by decide +kernel) rfl) <|
  fa1 (s_aload_n (kf := 0) (j := 0) (by decide +kernel) rfl) <|
  fa1 (s_iload_n (kf := 1) (j := 1) (by decide +kernel) rfl) <|
  fa1 (s_iload_n (kf := 2) (j := 2) (by decide +kernel) rfl) <|
  fa1 (s_iload_n (kf := 3) (j := 3) (by decide +kernel) rfl) <|
  fa1 (s_vcallV (n := 3) (ci := 12) (C := RX12) (T := TX12) (NF := 83) (idx := 415) (y := yX12_findWay) (by decide +kernel) (gg_X12_findWay) rfl (by decide) yv_X12_findWay (all5 w_1720 w_1722 w_77 w_113 w_1723) rfl rfl ⟨by decide, by decide⟩) <|
  fa1 (s_aload_n (kf := 0) (j := 0) (by decide +kernel) rfl) <|
  fa1 (s_getI (ci := 12) (f := 62) (idx := 393) (C := RX12) (T := TX12) (NF := 83) (by decide +kernel) rfl (by decide) inG_X12 (by decide) w_1300 li_X12_62) <|
  fa1 (s_ifne (off := 12) (by decide +kernel) (by decide)) <|
  fa1 (s_aload_n (kf := 0) (j := 0) (by decide +kernel) rfl) <|
  fa1 (s_getI (ci := 12) (f := 61) (idx := 390) (C := RX12) (T := TX12) (NF := 83) (by decide +kernel) rfl (by decide) inG_X12 (by decide) w_1299 li_X12_61) <|
  fa1 (s_bipush (n := -4) (v := -4) (by decide +kernel) (by decide +kernel) (p32 rfl)) <|
  fa1 (s_cmpne (off := 18) (by decide +kernel) (by decide)) <|
  fa1 (s_aload_n (kf := 0) (j := 0) (by decide +kernel) rfl) <|
  fa1 (s_getI (ci := 12) (f := 62) (idx := 393) (C := RX12) (T := TX12) (NF := 83) (by decide +kernel) rfl (by decide) inG_X12 (by decide) w_1300 li_X12_62) <|
  fa1 (s_ifeq (off := 8) (by decide +kernel) (by decide)) <|
  fa1 (s_bipush (n := -6) (v := -6) (by decide +kernel) (by decide +kernel) (p32 rfl)) <|
  fa1 (s_goto (off := 5) (by decide +kernel) (by decide)) <|
  fa1 (s_bipush (n := -4) (v := -4) (by decide +kernel) (by decide +kernel) (p32 rfl)) <|
  fa1 (s_iret (by decide +kernel) rfl) <|
  fa1 (s_aload_n (kf := 0) (j := 0) (by decide +kernel) rfl) <|
  fa1 (s_getR (t2 := 20) (g := (fun _ => 33)) (ci := 12) (f := 54) (idx := 111) (C := RX12) (T := TX12) (NF := 83) (by decide +kernel) rfl (by decide) inG_X12 (by decide) w_1292 lr_X12_54 (by decide)) <|
  fa1 (s_aload_n (kf := 0) (j := 0) (by decide +kernel) rfl) <|
  fa1 (s_getI (ci := 12) (f := 61) (idx := 390) (C := RX12) (T := TX12) (NF := 83) (by decide +kernel) rfl (by decide) inG_X12 (by decide) w_1299 li_X12_61) <|
  fa1 (s_iald (by decide +kernel)) <|
  fa1 (s_istore (j := 4) (by decide +kernel) (by decide)) <|
  fa1 (s_aload_n (kf := 0) (j := 0) (by decide +kernel) rfl) <|
  fa1 (s_getI (ci := 12) (f := 16) (idx := 372) (C := RX12) (T := TX12) (NF := 83) (by decide +kernel) rfl (by decide) inG_X12 (by decide) w_1254 li_X12_16) <|
  fa1 (s_iload (j := 4) (by decide +kernel)) <|
  fa1 (s_iadd (by decide +kernel)) <|
  fa1 (s_sipush (n := 200) (v := 200) (by decide +kernel) (by decide +kernel) (p32 rfl)) <|
  fa1 (s_cmple (off := 6) (by decide +kernel) (by decide)) <|
  fa1 (s_bipush (n := -3) (v := -3) (by decide +kernel) (by decide +kernel) (p32 rfl)) <|
  fa1 (s_iret (by decide +kernel) rfl) <|
  fa1 (s_aload_n (kf := 0) (j := 0) (by decide +kernel) rfl) <|
  fa1 (s_getR (t2 := 20) (g := (fun _ => 10)) (ci := 12) (f := 11) (idx := 37) (C := RX12) (T := TX12) (NF := 83) (by decide +kernel) rfl (by decide) inG_X12 (by decide) w_1249 lr_X12_11 (by decide)) <|
  fa1 (s_iload_n (kf := 1) (j := 1) (by decide +kernel) rfl) <|
  fa1 (s_aload_n (kf := 0) (j := 0) (by decide +kernel) rfl) <|
  fa1 (s_getI (ci := 12) (f := 16) (idx := 372) (C := RX12) (T := TX12) (NF := 83) (by decide +kernel) rfl (by decide) inG_X12 (by decide) w_1254 li_X12_16) <|
  fa1 (s_iast (by decide +kernel) lt_loR_20) <|
  fa1 (s_aload_n (kf := 0) (j := 0) (by decide +kernel) rfl) <|
  fa1 (s_getR (t2 := 20) (g := (fun _ => 11)) (ci := 12) (f := 12) (idx := 40) (C := RX12) (T := TX12) (NF := 83) (by decide +kernel) rfl (by decide) inG_X12 (by decide) w_1250 lr_X12_12 (by decide)) <|
  fa1 (s_iload_n (kf := 1) (j := 1) (by decide +kernel) rfl) <|
  fa1 (s_iload (j := 4) (by decide +kernel)) <|
  fa1 (s_iast (by decide +kernel) lt_loR_20) <|
  fa1 (s_aload_n (kf := 0) (j := 0) (by decide +kernel) rfl) <|
  fa1 (s_getI (ci := 12) (f := 61) (idx := 390) (C := RX12) (T := TX12) (NF := 83) (by decide +kernel) rfl (by decide) inG_X12 (by decide) w_1299 li_X12_61) <|
  fa1 (s_istore (j := 5) (by decide +kernel) (by decide)) <|
  fa1 (s_iload (j := 4) (by decide +kernel)) <|
  fa1 (s_iconst (n := 1) (v := 1) (by decide +kernel) (by decide +kernel) (p32 rfl)) <|
  fa1 (s_isub (by decide +kernel)) <|
  fa1 (s_istore (j := 6) (by decide +kernel) (by decide)) <|
  fa1 (s_iload (j := 6) (by decide +kernel)) <|
  fa1 (s_iflt (off := 75) (by decide +kernel) (by decide)) <|
  fa1 (s_aload_n (kf := 0) (j := 0) (by decide +kernel) rfl) <|
  fa1 (s_getR (t2 := 20) (g := (fun _ => 14)) (ci := 12) (f := 17) (idx := 49) (C := RX12) (T := TX12) (NF := 83) (by decide +kernel) rfl (by decide) inG_X12 (by decide) w_1255 lr_X12_17 (by decide)) <|
  fa1 (s_aload_n (kf := 0) (j := 0) (by decide +kernel) rfl) <|
  fa1 (s_getI (ci := 12) (f := 16) (idx := 372) (C := RX12) (T := TX12) (NF := 83) (by decide +kernel) rfl (by decide) inG_X12 (by decide) w_1254 li_X12_16) <|
  fa1 (s_iload (j := 6) (by decide +kernel)) <|
  fa1 (s_iadd (by decide +kernel)) <|
  fa1 (s_aload_n (kf := 0) (j := 0) (by decide +kernel) rfl) <|
  fa1 (s_getR (t2 := 20) (g := (fun _ => 34)) (ci := 12) (f := 55) (idx := 114) (C := RX12) (T := TX12) (NF := 83) (by decide +kernel) rfl (by decide) inG_X12 (by decide) w_1293 lr_X12_55 (by decide)) <|
  fa1 (s_iload (j := 5) (by decide +kernel)) <|
  fa1 (s_iald (by decide +kernel)) <|
  fa1 (s_iast (by decide +kernel) lt_loR_20) <|
  fa1 (s_aload_n (kf := 0) (j := 0) (by decide +kernel) rfl) <|
  fa1 (s_getR (t2 := 20) (g := (fun _ => 15)) (ci := 12) (f := 18) (idx := 52) (C := RX12) (T := TX12) (NF := 83) (by decide +kernel) rfl (by decide) inG_X12 (by decide) w_1256 lr_X12_18 (by decide)) <|
  fa1 (s_aload_n (kf := 0) (j := 0) (by decide +kernel) rfl) <|
  fa1 (s_getI (ci := 12) (f := 16) (idx := 372) (C := RX12) (T := TX12) (NF := 83) (by decide +kernel) rfl (by decide) inG_X12 (by decide) w_1254 li_X12_16) <|
  fa1 (s_iload (j := 6) (by decide +kernel)) <|
  fa1 (s_iadd (by decide +kernel)) <|
  fa1 (s_aload_n (kf := 0) (j := 0) (by decide +kernel) rfl) <|
  fa1 (s_getR (t2 := 20) (g := (fun _ => 35)) (ci := 12) (f := 56) (idx := 117) (C := RX12) (T := TX12) (NF := 83) (by decide +kernel) rfl (by decide) inG_X12 (by decide) w_1294 lr_X12_56 (by decide)) <|
  fa1 (s_iload (j := 5) (by decide +kernel)) <|
  fa1 (s_iald (by decide +kernel)) <|
  fa1 (s_iast (by decide +kernel) lt_loR_20) <|
  fa1 (s_aload_n (kf := 0) (j := 0) (by decide +kernel) rfl) <|
  fa1 (s_getR (t2 := 20) (g := (fun _ => 16)) (ci := 12) (f := 19) (idx := 55) (C := RX12) (T := TX12) (NF := 83) (by decide +kernel) rfl (by decide) inG_X12 (by decide) w_1257 lr_X12_19 (by decide)) <|
  fa1 (s_aload_n (kf := 0) (j := 0) (by decide +kernel) rfl) <|
  fa1 (s_getI (ci := 12) (f := 16) (idx := 372) (C := RX12) (T := TX12) (NF := 83) (by decide +kernel) rfl (by decide) inG_X12 (by decide) w_1254 li_X12_16) <|
  fa1 (s_iload (j := 6) (by decide +kernel)) <|
  fa1 (s_iadd (by decide +kernel)) <|
  fa1 (s_aload_n (kf := 0) (j := 0) (by decide +kernel) rfl) <|
  fa1 (s_getR (t2 := 20) (g := (fun _ => 36)) (ci := 12) (f := 57) (idx := 120) (C := RX12) (T := TX12) (NF := 83) (by decide +kernel) rfl (by decide) inG_X12 (by decide) w_1295 lr_X12_57 (by decide)) <|
  fa1 (s_iload (j := 5) (by decide +kernel)) <|
  fa1 (s_iald (by decide +kernel)) <|
  fa1 (s_iast (by decide +kernel) lt_loR_20) <|
  fa1 (s_aload_n (kf := 0) (j := 0) (by decide +kernel) rfl) <|
  fa1 (s_getR (t2 := 20) (g := (fun _ => 32)) (ci := 12) (f := 53) (idx := 108) (C := RX12) (T := TX12) (NF := 83) (by decide +kernel) rfl (by decide) inG_X12 (by decide) w_1291 lr_X12_53 (by decide)) <|
  fa1 (s_iload (j := 5) (by decide +kernel)) <|
  fa1 (s_iald (by decide +kernel)) <|
  fa1 (s_istore (j := 5) (by decide +kernel) (by decide)) <|
  fa1 (s_iinc (j := 6) (d := -1) (by decide +kernel) (by decide)) <|
  fa1 (s_goto (off := -74) (by decide +kernel) (by decide)) <|
  fa1 (s_aload_n (kf := 0) (j := 0) (by decide +kernel) rfl) <|
  fa1 (s_dup (by decide +kernel)) <|
  fa1 (s_getI (ci := 12) (f := 16) (idx := 372) (C := RX12) (T := TX12) (NF := 83) (by decide +kernel) rfl (by decide) inG_X12 (by decide) w_1254 li_X12_16) <|
  fa1 (s_iload (j := 4) (by decide +kernel)) <|
  fa1 (s_iadd (by decide +kernel)) <|
  fa1 (s_putI (ci := 12) (f := 16) (idx := 372) (C := RX12) (T := TX12) (NF := 83) (by decide +kernel) rfl (by decide) inG_X12 (by decide) w_1254 tyX12 tyX12_ok nmX12 rfl (by decide +kernel) li_X12_16) <|
  fa1 (s_aload_n (kf := 0) (j := 0) (by decide +kernel) rfl) <|
  fa1 (s_getR (t2 := 20) (g := (fun _ => 13)) (ci := 12) (f := 14) (idx := 46) (C := RX12) (T := TX12) (NF := 83) (by decide +kernel) rfl (by decide) inG_X12 (by decide) w_1252 lr_X12_14 (by decide)) <|
  fa1 (s_iload_n (kf := 1) (j := 1) (by decide +kernel) rfl) <|
  fa1 (s_aload_n (kf := 0) (j := 0) (by decide +kernel) rfl) <|
  fa1 (s_getI (ci := 12) (f := 15) (idx := 375) (C := RX12) (T := TX12) (NF := 83) (by decide +kernel) rfl (by decide) inG_X12 (by decide) w_1253 li_X12_15) <|
  fa1 (s_iast (by decide +kernel) lt_loR_20) <|
  fa1 (s_aload_n (kf := 0) (j := 0) (by decide +kernel) rfl) <|
  fa1 (s_dup (by decide +kernel)) <|
  fa1 (s_getI (ci := 12) (f := 15) (idx := 375) (C := RX12) (T := TX12) (NF := 83) (by decide +kernel) rfl (by decide) inG_X12 (by decide) w_1253 li_X12_15) <|
  fa1 (s_iconst (n := 1) (v := 1) (by decide +kernel) (by decide +kernel) (p32 rfl)) <|
  fa1 (s_iadd (by decide +kernel)) <|
  fa1 (s_putI (ci := 12) (f := 15) (idx := 375) (C := RX12) (T := TX12) (NF := 83) (by decide +kernel) rfl (by decide) inG_X12 (by decide) w_1253 tyX12 tyX12_ok nmX12 rfl (by decide +kernel) li_X12_15) <|
  fa1 (s_aload_n (kf := 0) (j := 0) (by decide +kernel) rfl) <|
  fa1 (s_getR (t2 := 20) (g := (fun _ => 12)) (ci := 12) (f := 13) (idx := 43) (C := RX12) (T := TX12) (NF := 83) (by decide +kernel) rfl (by decide) inG_X12 (by decide) w_1251 lr_X12_13 (by decide)) <|
  fa1 (s_iload_n (kf := 1) (j := 1) (by decide +kernel) rfl) <|
  fa1 (s_bipush (n := -4) (v := -4) (by decide +kernel) (by decide +kernel) (p32 rfl)) <|
  fa1 (s_iast (by decide +kernel) lt_loR_20) <|
  fa1 (s_aload_n (kf := 0) (j := 0) (by decide +kernel) rfl) <|
  fa1 (s_iload_n (kf := 1) (j := 1) (by decide +kernel) rfl) <|
  fa1 (s_iconst (n := 2) (v := 2) (by decide +kernel) (by decide +kernel) (p32 rfl)) <|
  fa1 (s_vcallV (n := 2) (ci := 12) (C := RX12) (T := TX12) (NF := 83) (idx := 378) (y := yX12_becomes) (by decide +kernel) (gg_X12_becomes) rfl (by decide) yv_X12_becomes (all5 w_1699 w_1701 w_75 w_113 w_1702) rfl rfl ⟨by decide, by decide⟩) <|
  fa1 (s_aload_n (kf := 0) (j := 0) (by decide +kernel) rfl) <|
  fa1 (s_aload_n (kf := 0) (j := 0) (by decide +kernel) rfl) <|
  fa1 (s_getI (ci := 12) (f := 45) (idx := 85) (C := RX12) (T := TX12) (NF := 83) (by decide +kernel) rfl (by decide) inG_X12 (by decide) w_1283 li_X12_45) <|
  fa1 (s_iload_n (kf := 1) (j := 1) (by decide +kernel) rfl) <|
  fa1 (s_cmpne (off := 8) (by decide +kernel) (by decide)) <|
  fa1 (s_bipush (n := -4) (v := -4) (by decide +kernel) (by decide +kernel) (p32 rfl)) <|
  fa1 (s_goto (off := 7) (by decide +kernel) (by decide)) <|
  fa1 (s_aload_n (kf := 0) (j := 0) (by decide +kernel) rfl) <|
  fa1 (s_getI (ci := 12) (f := 45) (idx := 85) (C := RX12) (T := TX12) (NF := 83) (by decide +kernel) rfl (by decide) inG_X12 (by decide) w_1283 li_X12_45) <|
  fa1 (s_putI (ci := 12) (f := 45) (idx := 85) (C := RX12) (T := TX12) (NF := 83) (by decide +kernel) rfl (by decide) inG_X12 (by decide) w_1283 tyX12 tyX12_ok nmX12 rfl (by decide +kernel) li_X12_45) <|
  fa1 (s_iload (j := 4) (by decide +kernel)) <|
  fa1 (s_iret (by decide +kernel) rfl) <| fa0
theorem gg_X12_take {G : Wp} {l : Launch} : GoodM loR G l yX12_take cX12_take 7 (some .int) rm_X12_take f_X12_take := met_of kt_X12_take (lkp_snd (ks_X12_take G l)) (by decide +kernel) rfl (by decide)
noncomputable def k_X12_power : List (Nat × Ins) := [
  (0, i_push 1 (.inl 1)),
  (1, i_istore 2 2),
  (2, i_push 3 (.inl 0)),
  (3, i_istore 4 3),
  (4, i_iload 5 3),
  (5, i_iload 6 1),
  (6, i_cmpge 9 19),
  (9, i_iload 10 2),
  (10, i_iload 11 0),
  (11, i_bin 12 (fun x y => wr (x * y))),
  (12, i_istore 13 2),
  (13, i_iinc 16 3 (1)),
  (16, i_goto 4),
  (19, i_iload 20 2),
  (20, i_iret)]
noncomputable def kc_X12_power : Nat → Option Ins := lkp k_X12_power
noncomputable def f_X12_power : List AV → Mem → Option Rs := den 4 kc_X12_power
abbrev rm_X12_power : Room := { frames := 0, cells := 0, slots := 0, locals := 0 }
set_option maxRecDepth 100000 in
theorem kt_X12_power : TriC kc_X12_power := lkp_tri (fa1 (tri_push 1 (.inl 1)) (fa1 (tri_istore 2 2) (fa1 (tri_push 3 (.inl 0)) (fa1 (tri_istore 4 3) (fa1 (tri_iload 5 3) (fa1 (tri_iload 6 1) (fa1 (tri_cmpge 9 19) (fa1 (tri_iload 10 2) (fa1 (tri_iload 11 0) (fa1 (tri_bin 12 (fun x y => wr (x * y))) (fa1 (tri_istore 13 2) (fa1 (tri_iinc 16 3 (1)) (fa1 (tri_goto 4) (fa1 (tri_iload 20 2) (fa1 (tri_iret) (fa0))))))))))))))))
set_option maxRecDepth 100000 in
set_option maxHeartbeats 4000000 in
theorem ks_X12_power (G : Wp) (l : Launch) : ∀ e ∈ k_X12_power, Snd loR G l RX12 cX12_power 4 (some .int) rm_X12_power e.1 e.2 :=
  fa1 (s_iconst (n := 1) (v := 1) (by decide +kernel) (by decide +kernel) (p32 rfl)) <|
  fa1 (s_istore_n (kf := 2) (j := 2) (by decide +kernel) rfl (by decide)) <|
  fa1 (s_iconst (n := 0) (v := 0) (by decide +kernel) (by decide +kernel) (p32 rfl)) <|
  fa1 (s_istore_n (kf := 3) (j := 3) (by decide +kernel) rfl (by decide)) <|
  fa1 (s_iload_n (kf := 3) (j := 3) (by decide +kernel) rfl) <|
  fa1 (s_iload_n (kf := 1) (j := 1) (by decide +kernel) rfl) <|
  fa1 (s_cmpge (off := 13) (by decide +kernel) (by decide)) <|
  fa1 (s_iload_n (kf := 2) (j := 2) (by decide +kernel) rfl) <|
  fa1 (s_iload_n (kf := 0) (j := 0) (by decide +kernel) rfl) <|
  fa1 (s_imul (by decide +kernel)) <|
  fa1 (s_istore_n (kf := 2) (j := 2) (by decide +kernel) rfl (by decide)) <|
  fa1 (s_iinc (j := 3) (d := 1) (by decide +kernel) (by decide)) <|
  fa1 (s_goto (off := -12) (by decide +kernel) (by decide)) <|
  fa1 (s_iload_n (kf := 2) (j := 2) (by decide +kernel) rfl) <|
  fa1 (s_iret (by decide +kernel) rfl) <| fa0
theorem gg_X12_power {G : Wp} {l : Launch} : GoodM loR G l yX12_power cX12_power 4 (some .int) rm_X12_power f_X12_power := met_of kt_X12_power (lkp_snd (ks_X12_power G l)) (by decide +kernel) rfl (by decide)
noncomputable def k_X12_worldsOf : List (Nat × Ins) := [
  (0, i_iload 1 0),
  (1, i_iload 2 0),
  (2, i_iload 3 0),
  (3, i_iload 4 0),
  (4, i_bin 5 (fun x y => wr (x * y))),
  (5, i_callI 8 2 anyv f_X12_power),
  (8, i_bin 9 (fun x y => wr (x * y))),
  (9, i_iret)]
noncomputable def kc_X12_worldsOf : Nat → Option Ins := lkp k_X12_worldsOf
noncomputable def f_X12_worldsOf : List AV → Mem → Option Rs := den 1 kc_X12_worldsOf
abbrev rm_X12_worldsOf : Room := { frames := 1, cells := 0, slots := 0, locals := 23 }
set_option maxRecDepth 100000 in
theorem kt_X12_worldsOf : TriC kc_X12_worldsOf := lkp_tri (fa1 (tri_iload 1 0) (fa1 (tri_iload 2 0) (fa1 (tri_iload 3 0) (fa1 (tri_iload 4 0) (fa1 (tri_bin 5 (fun x y => wr (x * y))) (fa1 (tri_callI 8 2 anyv f_X12_power) (fa1 (tri_bin 9 (fun x y => wr (x * y))) (fa1 (tri_iret) (fa0)))))))))
set_option maxRecDepth 100000 in
set_option maxHeartbeats 4000000 in
theorem ks_X12_worldsOf (G : Wp) (l : Launch) : ∀ e ∈ k_X12_worldsOf, Snd loR G l RX12 cX12_worldsOf 1 (some .int) rm_X12_worldsOf e.1 e.2 :=
  fa1 (s_iload_n (kf := 0) (j := 0) (by decide +kernel) rfl) <|
  fa1 (s_iload_n (kf := 0) (j := 0) (by decide +kernel) rfl) <|
  fa1 (s_iload_n (kf := 0) (j := 0) (by decide +kernel) rfl) <|
  fa1 (s_iload_n (kf := 0) (j := 0) (by decide +kernel) rfl) <|
  fa1 (s_imul (by decide +kernel)) <|
  fa1 (s_scallI (n := 2) (idx := 419) (y := yX12_power) (by decide +kernel) (gg_X12_power) yv_X12_power (all4 w_1755 w_1756 w_113 w_1757) rfl rfl ⟨by decide, by decide⟩) <|
  fa1 (s_imul (by decide +kernel)) <|
  fa1 (s_iret (by decide +kernel) rfl) <| fa0
theorem gg_X12_worldsOf {G : Wp} {l : Launch} : GoodM loR G l yX12_worldsOf cX12_worldsOf 1 (some .int) rm_X12_worldsOf f_X12_worldsOf := met_of kt_X12_worldsOf (lkp_snd (ks_X12_worldsOf G l)) (by decide +kernel) rfl (by decide)
noncomputable def k_X12_valueOf : List (Nat × Ins) := [
  (0, i_push 1 (.inl 0)),
  (1, i_istore 3 7),
  (3, i_iload 4 2),
  (4, i_iload 5 3),
  (5, i_bin 6 (fun x y => wr (x + y))),
  (6, i_push 7 (.inl 1)),
  (7, i_bin 8 (fun x y => wr (x - y))),
  (8, i_istore 10 8),
  (10, i_iload 12 8),
  (12, i_iload 13 2),
  (13, i_cmplt 16 232),
  (16, i_aload 17 1),
  (17, i_iload 19 8),
  (19, i_ald 20 20 lnR),
  (20, i_istore 22 9),
  (22, i_iload 24 9),
  (24, i_push 26 (.inl 12)),
  (26, i_cmpne 29 73),
  (29, i_aload 30 0),
  (30, i_getR 33 12 20 (fun _ => 41)),
  (33, i_iload 35 7),
  (35, i_push 36 (.inl 2)),
  (36, i_bin 37 (fun x y => wr (x - y))),
  (37, i_aload 38 0),
  (38, i_getR 41 12 20 (fun _ => 39)),
  (41, i_aload 42 0),
  (42, i_getI 45 12 63),
  (45, i_aload 46 0),
  (46, i_getR 49 12 20 (fun _ => 41)),
  (49, i_iload 51 7),
  (51, i_push 52 (.inl 1)),
  (52, i_bin 53 (fun x y => wr (x - y))),
  (53, i_ald 54 20 lnR),
  (54, i_bin 55 (fun x y => wr (x * y))),
  (55, i_aload 56 0),
  (56, i_getR 59 12 20 (fun _ => 41)),
  (59, i_iload 61 7),
  (61, i_push 62 (.inl 2)),
  (62, i_bin 63 (fun x y => wr (x - y))),
  (63, i_ald 64 20 lnR),
  (64, i_bin 65 (fun x y => wr (x + y))),
  (65, i_ald 66 20 lnR),
  (66, i_ast 67 20 lnR id),
  (67, i_iinc 70 7 (-1)),
  (70, i_goto 226),
  (73, i_iload 75 9),
  (75, i_push 77 (.inl 14)),
  (77, i_cmpeq 80 87),
  (80, i_iload 82 9),
  (82, i_push 84 (.inl 23)),
  (84, i_cmplt 87 140),
  (87, i_aload 88 0),
  (88, i_getR 91 12 20 (fun _ => 41)),
  (91, i_iload 93 7),
  (93, i_iload 95 9),
  (95, i_push 97 (.inl 14)),
  (97, i_cmpne 100 107),
  (100, i_aload 101 0),
  (101, i_getI 104 12 64),
  (104, i_goto 133),
  (107, i_iload 109 9),
  (109, i_push 111 (.inl 23)),
  (111, i_cmpne 114 119),
  (114, i_iload 116 4),
  (116, i_goto 133),
  (119, i_iload 121 9),
  (121, i_push 123 (.inl 24)),
  (123, i_cmpne 126 131),
  (126, i_iload 128 5),
  (128, i_goto 133),
  (131, i_iload 133 6),
  (133, i_ast 134 20 lnR id),
  (134, i_iinc 137 7 (1)),
  (137, i_goto 226),
  (140, i_aload 141 0),
  (141, i_iload 143 9),
  (143, i_callI 146 2 (rcv 12) f_X12_wordBy),
  (146, i_istore 148 10),
  (148, i_aload 149 0),
  (149, i_getR 152 12 20 (fun _ => 41)),
  (152, i_iload 154 7),
  (154, i_push 155 (.inl 1)),
  (155, i_bin 156 (fun x y => wr (x - y))),
  (156, i_ald 157 20 lnR),
  (157, i_istore 159 11),
  (159, i_aload 160 0),
  (160, i_getR 163 12 20 (fun _ => 2)),
  (163, i_iload 165 10),
  (165, i_ald 166 20 lnR),
  (166, i_push 167 (.inl 2)),
  (167, i_cmpne 170 182),
  (170, i_aload 171 0),
  (171, i_getR 174 12 20 (fun _ => 41)),
  (174, i_iload 176 7),
  (176, i_push 177 (.inl 2)),
  (177, i_bin 178 (fun x y => wr (x - y))),
  (178, i_ald 179 20 lnR),
  (179, i_goto 183),
  (182, i_push 183 (.inl 0)),
  (183, i_istore 185 12),
  (185, i_iload 187 7),
  (187, i_aload 188 0),
  (188, i_getR 191 12 20 (fun _ => 2)),
  (191, i_iload 193 10),
  (193, i_ald 194 20 lnR),
  (194, i_push 195 (.inl 1)),
  (195, i_bin 196 (fun x y => wr (x - y))),
  (196, i_bin 197 (fun x y => wr (x - y))),
  (197, i_istore 199 7),
  (199, i_aload 200 0),
  (200, i_getR 203 12 20 (fun _ => 41)),
  (203, i_iload 205 7),
  (205, i_push 206 (.inl 1)),
  (206, i_bin 207 (fun x y => wr (x - y))),
  (207, i_aload 208 0),
  (208, i_getR 211 12 20 (fun _ => 40)),
  (211, i_push 213 (.inl 9)),
  (213, i_iload 215 10),
  (215, i_bin 216 (fun x y => wr (x * y))),
  (216, i_push 217 (.inl 3)),
  (217, i_iload 219 11),
  (219, i_bin 220 (fun x y => wr (x * y))),
  (220, i_bin 221 (fun x y => wr (x + y))),
  (221, i_iload 223 12),
  (223, i_bin 224 (fun x y => wr (x + y))),
  (224, i_ald 225 20 lnR),
  (225, i_ast 226 20 lnR id),
  (226, i_iinc 229 8 (-1)),
  (229, i_goto 10),
  (232, i_aload 233 0),
  (233, i_getR 236 12 20 (fun _ => 41)),
  (236, i_push 237 (.inl 0)),
  (237, i_ald 238 20 lnR),
  (238, i_iret)]
noncomputable def kc_X12_valueOf : Nat → Option Ins := lkp k_X12_valueOf
noncomputable def f_X12_valueOf : List AV → Mem → Option Rs := den 13 kc_X12_valueOf
abbrev rm_X12_valueOf : Room := { frames := 1, cells := 0, slots := 0, locals := 23 }
set_option maxRecDepth 100000 in
theorem kt_X12_valueOf : TriC kc_X12_valueOf := lkp_tri (fa1 (tri_push 1 (.inl 0)) (fa1 (tri_istore 3 7) (fa1 (tri_iload 4 2) (fa1 (tri_iload 5 3) (fa1 (tri_bin 6 (fun x y => wr (x + y))) (fa1 (tri_push 7 (.inl 1)) (fa1 (tri_bin 8 (fun x y => wr (x - y))) (fa1 (tri_istore 10 8) (fa1 (tri_iload 12 8) (fa1 (tri_iload 13 2) (fa1 (tri_cmplt 16 232) (fa1 (tri_aload 17 1) (fa1 (tri_iload 19 8) (fa1 (tri_ald 20 20 lnR) (fa1 (tri_istore 22 9) (fa1 (tri_iload 24 9) (fa1 (tri_push 26 (.inl 12)) (fa1 (tri_cmpne 29 73) (fa1 (tri_aload 30 0) (fa1 (tri_getR 33 12 20 (fun _ => 41)) (fa1 (tri_iload 35 7) (fa1 (tri_push 36 (.inl 2)) (fa1 (tri_bin 37 (fun x y => wr (x - y))) (fa1 (tri_aload 38 0) (fa1 (tri_getR 41 12 20 (fun _ => 39)) (fa1 (tri_aload 42 0) (fa1 (tri_getI 45 12 63) (fa1 (tri_aload 46 0) (fa1 (tri_getR 49 12 20 (fun _ => 41)) (fa1 (tri_iload 51 7) (fa1 (tri_push 52 (.inl 1)) (fa1 (tri_bin 53 (fun x y => wr (x - y))) (fa1 (tri_ald 54 20 lnR) (fa1 (tri_bin 55 (fun x y => wr (x * y))) (fa1 (tri_aload 56 0) (fa1 (tri_getR 59 12 20 (fun _ => 41)) (fa1 (tri_iload 61 7) (fa1 (tri_push 62 (.inl 2)) (fa1 (tri_bin 63 (fun x y => wr (x - y))) (fa1 (tri_ald 64 20 lnR) (fa1 (tri_bin 65 (fun x y => wr (x + y))) (fa1 (tri_ald 66 20 lnR) (fa1 (tri_ast 67 20 lnR id) (fa1 (tri_iinc 70 7 (-1)) (fa1 (tri_goto 226) (fa1 (tri_iload 75 9) (fa1 (tri_push 77 (.inl 14)) (fa1 (tri_cmpeq 80 87) (fa1 (tri_iload 82 9) (fa1 (tri_push 84 (.inl 23)) (fa1 (tri_cmplt 87 140) (fa1 (tri_aload 88 0) (fa1 (tri_getR 91 12 20 (fun _ => 41)) (fa1 (tri_iload 93 7) (fa1 (tri_iload 95 9) (fa1 (tri_push 97 (.inl 14)) (fa1 (tri_cmpne 100 107) (fa1 (tri_aload 101 0) (fa1 (tri_getI 104 12 64) (fa1 (tri_goto 133) (fa1 (tri_iload 109 9) (fa1 (tri_push 111 (.inl 23)) (fa1 (tri_cmpne 114 119) (fa1 (tri_iload 116 4) (fa1 (tri_goto 133) (fa1 (tri_iload 121 9) (fa1 (tri_push 123 (.inl 24)) (fa1 (tri_cmpne 126 131) (fa1 (tri_iload 128 5) (fa1 (tri_goto 133) (fa1 (tri_iload 133 6) (fa1 (tri_ast 134 20 lnR id) (fa1 (tri_iinc 137 7 (1)) (fa1 (tri_goto 226) (fa1 (tri_aload 141 0) (fa1 (tri_iload 143 9) (fa1 (tri_callI 146 2 (rcv 12) f_X12_wordBy) (fa1 (tri_istore 148 10) (fa1 (tri_aload 149 0) (fa1 (tri_getR 152 12 20 (fun _ => 41)) (fa1 (tri_iload 154 7) (fa1 (tri_push 155 (.inl 1)) (fa1 (tri_bin 156 (fun x y => wr (x - y))) (fa1 (tri_ald 157 20 lnR) (fa1 (tri_istore 159 11) (fa1 (tri_aload 160 0) (fa1 (tri_getR 163 12 20 (fun _ => 2)) (fa1 (tri_iload 165 10) (fa1 (tri_ald 166 20 lnR) (fa1 (tri_push 167 (.inl 2)) (fa1 (tri_cmpne 170 182) (fa1 (tri_aload 171 0) (fa1 (tri_getR 174 12 20 (fun _ => 41)) (fa1 (tri_iload 176 7) (fa1 (tri_push 177 (.inl 2)) (fa1 (tri_bin 178 (fun x y => wr (x - y))) (fa1 (tri_ald 179 20 lnR) (fa1 (tri_goto 183) (fa1 (tri_push 183 (.inl 0)) (fa1 (tri_istore 185 12) (fa1 (tri_iload 187 7) (fa1 (tri_aload 188 0) (fa1 (tri_getR 191 12 20 (fun _ => 2)) (fa1 (tri_iload 193 10) (fa1 (tri_ald 194 20 lnR) (fa1 (tri_push 195 (.inl 1)) (fa1 (tri_bin 196 (fun x y => wr (x - y))) (fa1 (tri_bin 197 (fun x y => wr (x - y))) (fa1 (tri_istore 199 7) (fa1 (tri_aload 200 0) (fa1 (tri_getR 203 12 20 (fun _ => 41)) (fa1 (tri_iload 205 7) (fa1 (tri_push 206 (.inl 1)) (fa1 (tri_bin 207 (fun x y => wr (x - y))) (fa1 (tri_aload 208 0) (fa1 (tri_getR 211 12 20 (fun _ => 40)) (fa1 (tri_push 213 (.inl 9)) (fa1 (tri_iload 215 10) (fa1 (tri_bin 216 (fun x y => wr (x * y))) (fa1 (tri_push 217 (.inl 3)) (fa1 (tri_iload 219 11) (fa1 (tri_bin 220 (fun x y => wr (x * y))) (fa1 (tri_bin 221 (fun x y => wr (x + y))) (fa1 (tri_iload 223 12) (fa1 (tri_bin 224 (fun x y => wr (x + y))) (fa1 (tri_ald 225 20 lnR) (fa1 (tri_ast 226 20 lnR id) (fa1 (tri_iinc 229 8 (-1)) (fa1 (tri_goto 10) (fa1 (tri_aload 233 0) (fa1 (tri_getR 236 12 20 (fun _ => 41)) (fa1 (tri_push 237 (.inl 0)) (fa1 (tri_ald 238 20 lnR) (fa1 (tri_iret) (fa0)))))))))))))))))))))))))))))))))))))))))))))))))))))))))))))))))))))))))))))))))))))))))))))))))))))))))))))))))))))))))))))))))))))))
set_option maxRecDepth 100000 in
set_option maxHeartbeats 4000000 in
theorem ks_X12_valueOf (G : Wp) (l : Launch) : ∀ e ∈ k_X12_valueOf, Snd loR G l RX12 cX12_valueOf 13 (some .int) rm_X12_valueOf e.1 e.2 :=
  fa1 (s_iconst (n := 0) (v := 0) (by decide +kernel) (by decide +kernel) (p32 rfl)) <|
  fa1 (s_istore (j := 7) (by decide +kernel) (by decide)) <|
  fa1 (s_iload_n (kf := 2) (j := 2) (by decide +kernel) rfl) <|
  fa1 (s_iload_n (kf := 3) (j := 3) (by decide +kernel) rfl) <|
  fa1 (s_iadd (by decide +kernel)) <|
  fa1 (s_iconst (n := 1) (v := 1) (by decide +kernel) (by decide +kernel) (p32 rfl)) <|
  fa1 (s_isub (by decide +kernel)) <|
  fa1 (s_istore (j := 8) (by decide +kernel) (by decide)) <|
  fa1 (s_iload (j := 8) (by decide +kernel)) <|
  fa1 (s_iload_n (kf := 2) (j := 2) (by decide +kernel) rfl) <|
  fa1 (s_cmplt (off := 219) (by decide +kernel) (by decide)) <|
  fa1 (s_aload_n (kf := 1) (j := 1) (by decide +kernel) rfl) <|
  fa1 (s_iload (j := 8) (by decide +kernel)) <|
  fa1 (s_iald (by decide +kernel)) <|
  fa1 (s_istore (j := 9) (by decide +kernel) (by decide)) <|
  fa1 (s_iload (j := 9) (by decide +kernel)) <|
  fa1 (s_bipush (n := 12) (v := 12) (by decide +kernel) (by decide +kernel) (p32 rfl)) <|
  fa1 (s_cmpne (off := 47) (by decide +kernel) (by decide)) <|
  fa1 (s_aload_n (kf := 0) (j := 0) (by decide +kernel) rfl) <|
  fa1 (s_getR (t2 := 20) (g := (fun _ => 41)) (ci := 12) (f := 67) (idx := 135) (C := RX12) (T := TX12) (NF := 83) (by decide +kernel) rfl (by decide) inG_X12 (by decide) w_1305 lr_X12_67 (by decide)) <|
  fa1 (s_iload (j := 7) (by decide +kernel)) <|
  fa1 (s_iconst (n := 2) (v := 2) (by decide +kernel) (by decide +kernel) (p32 rfl)) <|
  fa1 (s_isub (by decide +kernel)) <|
  fa1 (s_aload_n (kf := 0) (j := 0) (by decide +kernel) rfl) <|
  fa1 (s_getR (t2 := 20) (g := (fun _ => 39)) (ci := 12) (f := 65) (idx := 129) (C := RX12) (T := TX12) (NF := 83) (by decide +kernel) rfl (by decide) inG_X12 (by decide) w_1303 lr_X12_65 (by decide)) <|
  fa1 (s_aload_n (kf := 0) (j := 0) (by decide +kernel) rfl) <|
  fa1 (s_getI (ci := 12) (f := 63) (idx := 422) (C := RX12) (T := TX12) (NF := 83) (by decide +kernel) rfl (by decide) inG_X12 (by decide) w_1301 li_X12_63) <|
  fa1 (s_aload_n (kf := 0) (j := 0) (by decide +kernel) rfl) <|
  fa1 (s_getR (t2 := 20) (g := (fun _ => 41)) (ci := 12) (f := 67) (idx := 135) (C := RX12) (T := TX12) (NF := 83) (by decide +kernel) rfl (by decide) inG_X12 (by decide) w_1305 lr_X12_67 (by decide)) <|
  fa1 (s_iload (j := 7) (by decide +kernel)) <|
  fa1 (s_iconst (n := 1) (v := 1) (by decide +kernel) (by decide +kernel) (p32 rfl)) <|
  fa1 (s_isub (by decide +kernel)) <|
  fa1 (s_iald (by decide +kernel)) <|
  fa1 (s_imul (by decide +kernel)) <|
  fa1 (s_aload_n (kf := 0) (j := 0) (by decide +kernel) rfl) <|
  fa1 (s_getR (t2 := 20) (g := (fun _ => 41)) (ci := 12) (f := 67) (idx := 135) (C := RX12) (T := TX12) (NF := 83) (by decide +kernel) rfl (by decide) inG_X12 (by decide) w_1305 lr_X12_67 (by decide)) <|
  fa1 (s_iload (j := 7) (by decide +kernel)) <|
  fa1 (s_iconst (n := 2) (v := 2) (by decide +kernel) (by decide +kernel) (p32 rfl)) <|
  fa1 (s_isub (by decide +kernel)) <|
  fa1 (s_iald (by decide +kernel)) <|
  fa1 (s_iadd (by decide +kernel)) <|
  fa1 (s_iald (by decide +kernel)) <|
  fa1 (s_iast (by decide +kernel) lt_loR_20) <|
  fa1 (s_iinc (j := 7) (d := -1) (by decide +kernel) (by decide)) <|
  fa1 (s_goto (off := 156) (by decide +kernel) (by decide)) <|
  fa1 (s_iload (j := 9) (by decide +kernel)) <|
  fa1 (s_bipush (n := 14) (v := 14) (by decide +kernel) (by decide +kernel) (p32 rfl)) <|
  fa1 (s_cmpeq (off := 10) (by decide +kernel) (by decide)) <|
  fa1 (s_iload (j := 9) (by decide +kernel)) <|
  fa1 (s_bipush (n := 23) (v := 23) (by decide +kernel) (by decide +kernel) (p32 rfl)) <|
  fa1 (s_cmplt (off := 56) (by decide +kernel) (by decide)) <|
  fa1 (s_aload_n (kf := 0) (j := 0) (by decide +kernel) rfl) <|
  fa1 (s_getR (t2 := 20) (g := (fun _ => 41)) (ci := 12) (f := 67) (idx := 135) (C := RX12) (T := TX12) (NF := 83) (by decide +kernel) rfl (by decide) inG_X12 (by decide) w_1305 lr_X12_67 (by decide)) <|
  fa1 (s_iload (j := 7) (by decide +kernel)) <|
  fa1 (s_iload (j := 9) (by decide +kernel)) <|
  fa1 (s_bipush (n := 14) (v := 14) (by decide +kernel) (by decide +kernel) (p32 rfl)) <|
  fa1 (s_cmpne (off := 10) (by decide +kernel) (by decide)) <|
  fa1 (s_aload_n (kf := 0) (j := 0) (by decide +kernel) rfl) <|
  fa1 (s_getI (ci := 12) (f := 64) (idx := 425) (C := RX12) (T := TX12) (NF := 83) (by decide +kernel) rfl (by decide) inG_X12 (by decide) w_1302 li_X12_64) <|
  fa1 (s_goto (off := 29) (by decide +kernel) (by decide)) <|
  fa1 (s_iload (j := 9) (by decide +kernel)) <|
  fa1 (s_bipush (n := 23) (v := 23) (by decide +kernel) (by decide +kernel) (p32 rfl)) <|
  fa1 (s_cmpne (off := 8) (by decide +kernel) (by decide)) <|
  fa1 (s_iload (j := 4) (by decide +kernel)) <|
  fa1 (s_goto (off := 17) (by decide +kernel) (by decide)) <|
  fa1 (s_iload (j := 9) (by decide +kernel)) <|
  fa1 (s_bipush (n := 24) (v := 24) (by decide +kernel) (by decide +kernel) (p32 rfl)) <|
  fa1 (s_cmpne (off := 8) (by decide +kernel) (by decide)) <|
  fa1 (s_iload (j := 5) (by decide +kernel)) <|
  fa1 (s_goto (off := 5) (by decide +kernel) (by decide)) <|
  fa1 (s_iload (j := 6) (by decide +kernel)) <|
  fa1 (s_iast (by decide +kernel) lt_loR_20) <|
  fa1 (s_iinc (j := 7) (d := 1) (by decide +kernel) (by decide)) <|
  fa1 (s_goto (off := 89) (by decide +kernel) (by decide)) <|
  fa1 (s_aload_n (kf := 0) (j := 0) (by decide +kernel) rfl) <|
  fa1 (s_iload (j := 9) (by decide +kernel)) <|
  fa1 (s_vcallI (n := 1) (ci := 12) (C := RX12) (T := TX12) (NF := 83) (idx := 177) (y := yX12_wordBy) (by decide +kernel) (gg_X12_wordBy) rfl (by decide) yv_X12_wordBy (all5 w_1530 w_1532 w_48 w_113 w_1533) rfl rfl ⟨by decide, by decide⟩) <|
  fa1 (s_istore (j := 10) (by decide +kernel) (by decide)) <|
  fa1 (s_aload_n (kf := 0) (j := 0) (by decide +kernel) rfl) <|
  fa1 (s_getR (t2 := 20) (g := (fun _ => 41)) (ci := 12) (f := 67) (idx := 135) (C := RX12) (T := TX12) (NF := 83) (by decide +kernel) rfl (by decide) inG_X12 (by decide) w_1305 lr_X12_67 (by decide)) <|
  fa1 (s_iload (j := 7) (by decide +kernel)) <|
  fa1 (s_iconst (n := 1) (v := 1) (by decide +kernel) (by decide +kernel) (p32 rfl)) <|
  fa1 (s_isub (by decide +kernel)) <|
  fa1 (s_iald (by decide +kernel)) <|
  fa1 (s_istore (j := 11) (by decide +kernel) (by decide)) <|
  fa1 (s_aload_n (kf := 0) (j := 0) (by decide +kernel) rfl) <|
  fa1 (s_getR (t2 := 20) (g := (fun _ => 2)) (ci := 12) (f := 2) (idx := 13) (C := RX12) (T := TX12) (NF := 83) (by decide +kernel) rfl (by decide) inG_X12 (by decide) w_1240 lr_X12_2 (by decide)) <|
  fa1 (s_iload (j := 10) (by decide +kernel)) <|
  fa1 (s_iald (by decide +kernel)) <|
  fa1 (s_iconst (n := 2) (v := 2) (by decide +kernel) (by decide +kernel) (p32 rfl)) <|
  fa1 (s_cmpne (off := 15) (by decide +kernel) (by decide)) <|
  fa1 (s_aload_n (kf := 0) (j := 0) (by decide +kernel) rfl) <|
  fa1 (s_getR (t2 := 20) (g := (fun _ => 41)) (ci := 12) (f := 67) (idx := 135) (C := RX12) (T := TX12) (NF := 83) (by decide +kernel) rfl (by decide) inG_X12 (by decide) w_1305 lr_X12_67 (by decide)) <|
  fa1 (s_iload (j := 7) (by decide +kernel)) <|
  fa1 (s_iconst (n := 2) (v := 2) (by decide +kernel) (by decide +kernel) (p32 rfl)) <|
  fa1 (s_isub (by decide +kernel)) <|
  fa1 (s_iald (by decide +kernel)) <|
  fa1 (s_goto (off := 4) (by decide +kernel) (by decide)) <|
  fa1 (s_iconst (n := 0) (v := 0) (by decide +kernel) (by decide +kernel) (p32 rfl)) <|
  fa1 (s_istore (j := 12) (by decide +kernel) (by decide)) <|
  fa1 (s_iload (j := 7) (by decide +kernel)) <|
  fa1 (s_aload_n (kf := 0) (j := 0) (by decide +kernel) rfl) <|
  fa1 (s_getR (t2 := 20) (g := (fun _ => 2)) (ci := 12) (f := 2) (idx := 13) (C := RX12) (T := TX12) (NF := 83) (by decide +kernel) rfl (by decide) inG_X12 (by decide) w_1240 lr_X12_2 (by decide)) <|
  fa1 (s_iload (j := 10) (by decide +kernel)) <|
  fa1 (s_iald (by decide +kernel)) <|
  fa1 (s_iconst (n := 1) (v := 1) (by decide +kernel) (by decide +kernel) (p32 rfl)) <|
  fa1 (s_isub (by decide +kernel)) <|
  fa1 (s_isub (by decide +kernel)) <|
  fa1 (s_istore (j := 7) (by decide +kernel) (by decide)) <|
  fa1 (s_aload_n (kf := 0) (j := 0) (by decide +kernel) rfl) <|
  fa1 (s_getR (t2 := 20) (g := (fun _ => 41)) (ci := 12) (f := 67) (idx := 135) (C := RX12) (T := TX12) (NF := 83) (by decide +kernel) rfl (by decide) inG_X12 (by decide) w_1305 lr_X12_67 (by decide)) <|
  fa1 (s_iload (j := 7) (by decide +kernel)) <|
  fa1 (s_iconst (n := 1) (v := 1) (by decide +kernel) (by decide +kernel) (p32 rfl)) <|
  fa1 (s_isub (by decide +kernel)) <|
  fa1 (s_aload_n (kf := 0) (j := 0) (by decide +kernel) rfl) <|
  fa1 (s_getR (t2 := 20) (g := (fun _ => 40)) (ci := 12) (f := 66) (idx := 132) (C := RX12) (T := TX12) (NF := 83) (by decide +kernel) rfl (by decide) inG_X12 (by decide) w_1304 lr_X12_66 (by decide)) <|
  fa1 (s_bipush (n := 9) (v := 9) (by decide +kernel) (by decide +kernel) (p32 rfl)) <|
  fa1 (s_iload (j := 10) (by decide +kernel)) <|
  fa1 (s_imul (by decide +kernel)) <|
  fa1 (s_iconst (n := 3) (v := 3) (by decide +kernel) (by decide +kernel) (p32 rfl)) <|
  fa1 (s_iload (j := 11) (by decide +kernel)) <|
  fa1 (s_imul (by decide +kernel)) <|
  fa1 (s_iadd (by decide +kernel)) <|
  fa1 (s_iload (j := 12) (by decide +kernel)) <|
  fa1 (s_iadd (by decide +kernel)) <|
  fa1 (s_iald (by decide +kernel)) <|
  fa1 (s_iast (by decide +kernel) lt_loR_20) <|
  fa1 (s_iinc (j := 8) (d := -1) (by decide +kernel) (by decide)) <|
  fa1 (s_goto (off := -219) (by decide +kernel) (by decide)) <|
  fa1 (s_aload_n (kf := 0) (j := 0) (by decide +kernel) rfl) <|
  fa1 (s_getR (t2 := 20) (g := (fun _ => 41)) (ci := 12) (f := 67) (idx := 135) (C := RX12) (T := TX12) (NF := 83) (by decide +kernel) rfl (by decide) inG_X12 (by decide) w_1305 lr_X12_67 (by decide)) <|
  fa1 (s_iconst (n := 0) (v := 0) (by decide +kernel) (by decide +kernel) (p32 rfl)) <|
  fa1 (s_iald (by decide +kernel)) <|
  fa1 (s_iret (by decide +kernel) rfl) <| fa0
theorem gg_X12_valueOf {G : Wp} {l : Launch} : GoodM loR G l yX12_valueOf cX12_valueOf 13 (some .int) rm_X12_valueOf f_X12_valueOf := met_of kt_X12_valueOf (lkp_snd (ks_X12_valueOf G l)) (by decide +kernel) rfl (by decide)
noncomputable def k_X12_world : List (Nat × Ins) := [
  (0, i_aload 1 0),
  (1, i_iload 2 1),
  (2, i_putI 5 12 63),
  (5, i_aload 6 0),
  (6, i_iload 7 2),
  (7, i_iload 8 1),
  (8, i_div 9 bRem),
  (9, i_putI 12 12 64),
  (12, i_iload 13 2),
  (13, i_iload 14 1),
  (14, i_div 15 bDiv),
  (15, i_istore 16 3),
  (16, i_push 17 (.inl 0)),
  (17, i_istore 19 4),
  (19, i_iload 21 4),
  (21, i_iload 22 1),
  (22, i_iload 23 1),
  (23, i_bin 24 (fun x y => wr (x * y))),
  (24, i_cmpge 27 47),
  (27, i_aload 28 0),
  (28, i_getR 31 12 20 (fun _ => 39)),
  (31, i_iload 33 4),
  (33, i_iload 34 3),
  (34, i_iload 35 1),
  (35, i_div 36 bRem),
  (36, i_ast 37 20 lnR id),
  (37, i_iload 38 3),
  (38, i_iload 39 1),
  (39, i_div 40 bDiv),
  (40, i_istore 41 3),
  (41, i_iinc 44 4 (1)),
  (44, i_goto 19),
  (47, i_push 48 (.inl 0)),
  (48, i_istore 50 4),
  (50, i_iload 52 4),
  (52, i_aload 53 0),
  (53, i_getI 56 12 0),
  (56, i_cmpge 59 138),
  (59, i_push 60 (.inl 0)),
  (60, i_istore 62 5),
  (62, i_iload 64 5),
  (64, i_iload 65 1),
  (65, i_cmpge 68 132),
  (68, i_push 69 (.inl 0)),
  (69, i_istore 71 6),
  (71, i_iload 73 6),
  (73, i_iload 74 1),
  (74, i_cmpge 77 126),
  (77, i_aload 78 0),
  (78, i_getR 81 12 20 (fun _ => 40)),
  (81, i_push 83 (.inl 9)),
  (83, i_iload 85 4),
  (85, i_bin 86 (fun x y => wr (x * y))),
  (86, i_push 87 (.inl 3)),
  (87, i_iload 89 5),
  (89, i_bin 90 (fun x y => wr (x * y))),
  (90, i_bin 91 (fun x y => wr (x + y))),
  (91, i_iload 93 6),
  (93, i_bin 94 (fun x y => wr (x + y))),
  (94, i_aload 95 0),
  (95, i_aload 96 0),
  (96, i_getR 99 12 20 (fun _ => 4)),
  (99, i_push 101 (.inl 20)),
  (101, i_iload 103 4),
  (103, i_bin 104 (fun x y => wr (x * y))),
  (104, i_aload 105 0),
  (105, i_getR 108 12 20 (fun _ => 3)),
  (108, i_iload 110 4),
  (110, i_ald 111 20 lnR),
  (111, i_iload 113 5),
  (113, i_iload 115 6),
  (115, i_push 116 (.inl 0)),
  (116, i_callI 119 7 (rcv 12) f_X12_valueOf),
  (119, i_ast 120 20 lnR id),
  (120, i_iinc 123 6 (1)),
  (123, i_goto 71),
  (126, i_iinc 129 5 (1)),
  (129, i_goto 62),
  (132, i_iinc 135 4 (1)),
  (135, i_goto 50),
  (138, i_vret)]
noncomputable def kc_X12_world : Nat → Option Ins := lkp k_X12_world
noncomputable def f_X12_world : List AV → Mem → Option Rs := den 7 kc_X12_world
abbrev rm_X12_world : Room := { frames := 2, cells := 0, slots := 0, locals := 55 }
set_option maxRecDepth 100000 in
theorem kt_X12_world : TriC kc_X12_world := lkp_tri (fa1 (tri_aload 1 0) (fa1 (tri_iload 2 1) (fa1 (tri_putI 5 12 63) (fa1 (tri_aload 6 0) (fa1 (tri_iload 7 2) (fa1 (tri_iload 8 1) (fa1 (tri_div 9 bRem) (fa1 (tri_putI 12 12 64) (fa1 (tri_iload 13 2) (fa1 (tri_iload 14 1) (fa1 (tri_div 15 bDiv) (fa1 (tri_istore 16 3) (fa1 (tri_push 17 (.inl 0)) (fa1 (tri_istore 19 4) (fa1 (tri_iload 21 4) (fa1 (tri_iload 22 1) (fa1 (tri_iload 23 1) (fa1 (tri_bin 24 (fun x y => wr (x * y))) (fa1 (tri_cmpge 27 47) (fa1 (tri_aload 28 0) (fa1 (tri_getR 31 12 20 (fun _ => 39)) (fa1 (tri_iload 33 4) (fa1 (tri_iload 34 3) (fa1 (tri_iload 35 1) (fa1 (tri_div 36 bRem) (fa1 (tri_ast 37 20 lnR id) (fa1 (tri_iload 38 3) (fa1 (tri_iload 39 1) (fa1 (tri_div 40 bDiv) (fa1 (tri_istore 41 3) (fa1 (tri_iinc 44 4 (1)) (fa1 (tri_goto 19) (fa1 (tri_push 48 (.inl 0)) (fa1 (tri_istore 50 4) (fa1 (tri_iload 52 4) (fa1 (tri_aload 53 0) (fa1 (tri_getI 56 12 0) (fa1 (tri_cmpge 59 138) (fa1 (tri_push 60 (.inl 0)) (fa1 (tri_istore 62 5) (fa1 (tri_iload 64 5) (fa1 (tri_iload 65 1) (fa1 (tri_cmpge 68 132) (fa1 (tri_push 69 (.inl 0)) (fa1 (tri_istore 71 6) (fa1 (tri_iload 73 6) (fa1 (tri_iload 74 1) (fa1 (tri_cmpge 77 126) (fa1 (tri_aload 78 0) (fa1 (tri_getR 81 12 20 (fun _ => 40)) (fa1 (tri_push 83 (.inl 9)) (fa1 (tri_iload 85 4) (fa1 (tri_bin 86 (fun x y => wr (x * y))) (fa1 (tri_push 87 (.inl 3)) (fa1 (tri_iload 89 5) (fa1 (tri_bin 90 (fun x y => wr (x * y))) (fa1 (tri_bin 91 (fun x y => wr (x + y))) (fa1 (tri_iload 93 6) (fa1 (tri_bin 94 (fun x y => wr (x + y))) (fa1 (tri_aload 95 0) (fa1 (tri_aload 96 0) (fa1 (tri_getR 99 12 20 (fun _ => 4)) (fa1 (tri_push 101 (.inl 20)) (fa1 (tri_iload 103 4) (fa1 (tri_bin 104 (fun x y => wr (x * y))) (fa1 (tri_aload 105 0) (fa1 (tri_getR 108 12 20 (fun _ => 3)) (fa1 (tri_iload 110 4) (fa1 (tri_ald 111 20 lnR) (fa1 (tri_iload 113 5) (fa1 (tri_iload 115 6) (fa1 (tri_push 116 (.inl 0)) (fa1 (tri_callI 119 7 (rcv 12) f_X12_valueOf) (fa1 (tri_ast 120 20 lnR id) (fa1 (tri_iinc 123 6 (1)) (fa1 (tri_goto 71) (fa1 (tri_iinc 129 5 (1)) (fa1 (tri_goto 62) (fa1 (tri_iinc 135 4 (1)) (fa1 (tri_goto 50) (fa1 (tri_vret) (fa0))))))))))))))))))))))))))))))))))))))))))))))))))))))))))))))))))))))))))))))))))
set_option maxRecDepth 100000 in
set_option maxHeartbeats 4000000 in
theorem ks_X12_world (G : Wp) (l : Launch) : ∀ e ∈ k_X12_world, Snd loR G l RX12 cX12_world 7 none rm_X12_world e.1 e.2 :=
  fa1 (s_aload_n (kf := 0) (j := 0) (by decide +kernel) rfl) <|
  fa1 (s_iload_n (kf := 1) (j := 1) (by decide +kernel) rfl) <|
  fa1 (s_putI (ci := 12) (f := 63) (idx := 422) (C := RX12) (T := TX12) (NF := 83) (by decide +kernel) rfl (by decide) inG_X12 (by decide) w_1301 tyX12 tyX12_ok nmX12 rfl (by decide +kernel) li_X12_63) <|
  fa1 (s_aload_n (kf := 0) (j := 0) (by decide +kernel) rfl) <|
  fa1 (s_iload_n (kf := 2) (j := 2) (by decide +kernel) rfl) <|
  fa1 (s_iload_n (kf := 1) (j := 1) (by decide +kernel) rfl) <|
  fa1 (s_irem (by decide +kernel)) <|
  fa1 (s_putI (ci := 12) (f := 64) (idx := 425) (C := RX12) (T := TX12) (NF := 83) (by decide +kernel) rfl (by decide) inG_X12 (by decide) w_1302 tyX12 tyX12_ok nmX12 rfl (by decide +kernel) li_X12_64) <|
  fa1 (s_iload_n (kf := 2) (j := 2) (by decide +kernel) rfl) <|
  fa1 (s_iload_n (kf := 1) (j := 1) (by decide +kernel) rfl) <|
  fa1 (s_idiv (by decide +kernel)) <|
  fa1 (s_istore_n (kf := 3) (j := 3) (by decide +kernel) rfl (by decide)) <|
  fa1 (s_iconst (n := 0) (v := 0) (by decide +kernel) (by decide +kernel) (p32 rfl)) <|
  fa1 (s_istore (j := 4) (by decide +kernel) (by decide)) <|
  fa1 (s_iload (j := 4) (by decide +kernel)) <|
  fa1 (s_iload_n (kf := 1) (j := 1) (by decide +kernel) rfl) <|
  fa1 (s_iload_n (kf := 1) (j := 1) (by decide +kernel) rfl) <|
  fa1 (s_imul (by decide +kernel)) <|
  fa1 (s_cmpge (off := 23) (by decide +kernel) (by decide)) <|
  fa1 (s_aload_n (kf := 0) (j := 0) (by decide +kernel) rfl) <|
  fa1 (s_getR (t2 := 20) (g := (fun _ => 39)) (ci := 12) (f := 65) (idx := 129) (C := RX12) (T := TX12) (NF := 83) (by decide +kernel) rfl (by decide) inG_X12 (by decide) w_1303 lr_X12_65 (by decide)) <|
  fa1 (s_iload (j := 4) (by decide +kernel)) <|
  fa1 (s_iload_n (kf := 3) (j := 3) (by decide +kernel) rfl) <|
  fa1 (s_iload_n (kf := 1) (j := 1) (by decide +kernel) rfl) <|
  fa1 (s_irem (by decide +kernel)) <|
  fa1 (s_iast (by decide +kernel) lt_loR_20) <|
  fa1 (s_iload_n (kf := 3) (j := 3) (by decide +kernel) rfl) <|
  fa1 (s_iload_n (kf := 1) (j := 1) (by decide +kernel) rfl) <|
  fa1 (s_idiv (by decide +kernel)) <|
  fa1 (s_istore_n (kf := 3) (j := 3) (by decide +kernel) rfl (by decide)) <|
  fa1 (s_iinc (j := 4) (d := 1) (by decide +kernel) (by decide)) <|
  fa1 (s_goto (off := -25) (by decide +kernel) (by decide)) <|
  fa1 (s_iconst (n := 0) (v := 0) (by decide +kernel) (by decide +kernel) (p32 rfl)) <|
  fa1 (s_istore (j := 4) (by decide +kernel) (by decide)) <|
  fa1 (s_iload (j := 4) (by decide +kernel)) <|
  fa1 (s_aload_n (kf := 0) (j := 0) (by decide +kernel) rfl) <|
  fa1 (s_getI (ci := 12) (f := 0) (idx := 191) (C := RX12) (T := TX12) (NF := 83) (by decide +kernel) rfl (by decide) inG_X12 (by decide) w_1238 li_X12_0) <|
  fa1 (s_cmpge (off := 82) (by decide +kernel) (by decide)) <|
  fa1 (s_iconst (n := 0) (v := 0) (by decide +kernel) (by decide +kernel) (p32 rfl)) <|
  fa1 (s_istore (j := 5) (by decide +kernel) (by decide)) <|
  fa1 (s_iload (j := 5) (by decide +kernel)) <|
  fa1 (s_iload_n (kf := 1) (j := 1) (by decide +kernel) rfl) <|
  fa1 (s_cmpge (off := 67) (by decide +kernel) (by decide)) <|
  fa1 (s_iconst (n := 0) (v := 0) (by decide +kernel) (by decide +kernel) (p32 rfl)) <|
  fa1 (s_istore (j := 6) (by decide +kernel) (by decide)) <|
  fa1 (s_iload (j := 6) (by decide +kernel)) <|
  fa1 (s_iload_n (kf := 1) (j := 1) (by decide +kernel) rfl) <|
  fa1 (s_cmpge (off := 52) (by decide +kernel) (by decide)) <|
  fa1 (s_aload_n (kf := 0) (j := 0) (by decide +kernel) rfl) <|
  fa1 (s_getR (t2 := 20) (g := (fun _ => 40)) (ci := 12) (f := 66) (idx := 132) (C := RX12) (T := TX12) (NF := 83) (by decide +kernel) rfl (by decide) inG_X12 (by decide) w_1304 lr_X12_66 (by decide)) <|
  fa1 (s_bipush (n := 9) (v := 9) (by decide +kernel) (by decide +kernel) (p32 rfl)) <|
  fa1 (s_iload (j := 4) (by decide +kernel)) <|
  fa1 (s_imul (by decide +kernel)) <|
  fa1 (s_iconst (n := 3) (v := 3) (by decide +kernel) (by decide +kernel) (p32 rfl)) <|
  fa1 (s_iload (j := 5) (by decide +kernel)) <|
  fa1 (s_imul (by decide +kernel)) <|
  fa1 (s_iadd (by decide +kernel)) <|
  fa1 (s_iload (j := 6) (by decide +kernel)) <|
  fa1 (s_iadd (by decide +kernel)) <|
  fa1 (s_aload_n (kf := 0) (j := 0) (by decide +kernel) rfl) <|
  fa1 (s_aload_n (kf := 0) (j := 0) (by decide +kernel) rfl) <|
  fa1 (s_getR (t2 := 20) (g := (fun _ => 4)) (ci := 12) (f := 4) (idx := 19) (C := RX12) (T := TX12) (NF := 83) (by decide +kernel) rfl (by decide) inG_X12 (by decide) w_1242 lr_X12_4 (by decide)) <|
  fa1 (s_bipush (n := 20) (v := 20) (by decide +kernel) (by decide +kernel) (p32 rfl)) <|
  fa1 (s_iload (j := 4) (by decide +kernel)) <|
  fa1 (s_imul (by decide +kernel)) <|
  fa1 (s_aload_n (kf := 0) (j := 0) (by decide +kernel) rfl) <|
  fa1 (s_getR (t2 := 20) (g := (fun _ => 3)) (ci := 12) (f := 3) (idx := 16) (C := RX12) (T := TX12) (NF := 83) (by decide +kernel) rfl (by decide) inG_X12 (by decide) w_1241 lr_X12_3 (by decide)) <|
  fa1 (s_iload (j := 4) (by decide +kernel)) <|
  fa1 (s_iald (by decide +kernel)) <|
  fa1 (s_iload (j := 5) (by decide +kernel)) <|
  fa1 (s_iload (j := 6) (by decide +kernel)) <|
  fa1 (s_iconst (n := 0) (v := 0) (by decide +kernel) (by decide +kernel) (p32 rfl)) <|
  fa1 (s_vcallI (n := 6) (ci := 12) (C := RX12) (T := TX12) (NF := 83) (idx := 428) (y := yX12_valueOf) (by decide +kernel) (gg_X12_valueOf) rfl (by decide) yv_X12_valueOf (all5 w_1762 w_1764 w_84 w_113 w_1765) rfl rfl ⟨by decide, by decide⟩) <|
  fa1 (s_iast (by decide +kernel) lt_loR_20) <|
  fa1 (s_iinc (j := 6) (d := 1) (by decide +kernel) (by decide)) <|
  fa1 (s_goto (off := -52) (by decide +kernel) (by decide)) <|
  fa1 (s_iinc (j := 5) (d := 1) (by decide +kernel) (by decide)) <|
  fa1 (s_goto (off := -67) (by decide +kernel) (by decide)) <|
  fa1 (s_iinc (j := 4) (d := 1) (by decide +kernel) (by decide)) <|
  fa1 (s_goto (off := -85) (by decide +kernel) (by decide)) <|
  fa1 (s_vret (by decide +kernel) rfl) <| fa0
theorem gg_X12_world {G : Wp} {l : Launch} : GoodM loR G l yX12_world cX12_world 7 none rm_X12_world f_X12_world := met_of kt_X12_world (lkp_snd (ks_X12_world G l)) (by decide +kernel) rfl (by decide)
noncomputable def k_X12_holdsNow : List (Nat × Ins) := [
  (0, i_push 1 (.inl 1)),
  (1, i_istore 2 2),
  (2, i_push 3 (.inl 0)),
  (3, i_istore 4 3),
  (4, i_iload 5 3),
  (5, i_aload 6 0),
  (6, i_getI 9 12 63),
  (9, i_aload 10 0),
  (10, i_getI 13 12 63),
  (13, i_bin 14 (fun x y => wr (x * y))),
  (14, i_aload 15 0),
  (15, i_getI 18 12 63),
  (18, i_bin 19 (fun x y => wr (x * y))),
  (19, i_cmpge 22 136),
  (22, i_iload 23 2),
  (23, i_ifeq 26 136),
  (26, i_iload 27 3),
  (27, i_aload 28 0),
  (28, i_getI 31 12 63),
  (31, i_div 32 bRem),
  (32, i_istore 34 4),
  (34, i_iload 35 3),
  (35, i_aload 36 0),
  (36, i_getI 39 12 63),
  (39, i_div 40 bDiv),
  (40, i_aload 41 0),
  (41, i_getI 44 12 63),
  (44, i_div 45 bRem),
  (45, i_istore 47 5),
  (47, i_iload 48 3),
  (48, i_aload 49 0),
  (49, i_getI 52 12 63),
  (52, i_div 53 bDiv),
  (53, i_aload 54 0),
  (54, i_getI 57 12 63),
  (57, i_div 58 bDiv),
  (58, i_istore 60 6),
  (60, i_aload 61 0),
  (61, i_aload 62 0),
  (62, i_getR 65 12 20 (fun _ => 5)),
  (65, i_push 67 (.inl 40)),
  (67, i_iload 68 1),
  (68, i_bin 69 (fun x y => wr (x * y))),
  (69, i_aload 70 0),
  (70, i_getR 73 12 20 (fun _ => 6)),
  (73, i_push 74 (.inl 2)),
  (74, i_iload 75 1),
  (75, i_bin 76 (fun x y => wr (x * y))),
  (76, i_ald 77 20 lnR),
  (77, i_iload 79 4),
  (79, i_iload 81 5),
  (81, i_iload 83 6),
  (83, i_callI 86 7 (rcv 12) f_X12_valueOf),
  (86, i_istore 88 7),
  (88, i_iload 90 7),
  (90, i_aload 91 0),
  (91, i_aload 92 0),
  (92, i_getR 95 12 20 (fun _ => 5)),
  (95, i_push 97 (.inl 40)),
  (97, i_iload 98 1),
  (98, i_bin 99 (fun x y => wr (x * y))),
  (99, i_push 101 (.inl 20)),
  (101, i_bin 102 (fun x y => wr (x + y))),
  (102, i_aload 103 0),
  (103, i_getR 106 12 20 (fun _ => 6)),
  (106, i_push 107 (.inl 2)),
  (107, i_iload 108 1),
  (108, i_bin 109 (fun x y => wr (x * y))),
  (109, i_push 110 (.inl 1)),
  (110, i_bin 111 (fun x y => wr (x + y))),
  (111, i_ald 112 20 lnR),
  (112, i_iload 114 4),
  (114, i_iload 116 5),
  (116, i_iload 118 6),
  (118, i_callI 121 7 (rcv 12) f_X12_valueOf),
  (121, i_cmpne 124 128),
  (124, i_push 125 (.inl 1)),
  (125, i_goto 129),
  (128, i_push 129 (.inl 0)),
  (129, i_istore 130 2),
  (130, i_iinc 133 3 (1)),
  (133, i_goto 4),
  (136, i_iload 137 2),
  (137, i_zret)]
noncomputable def kc_X12_holdsNow : Nat → Option Ins := lkp k_X12_holdsNow
noncomputable def f_X12_holdsNow : List AV → Mem → Option Rs := den 8 kc_X12_holdsNow
abbrev rm_X12_holdsNow : Room := { frames := 2, cells := 0, slots := 0, locals := 55 }
set_option maxRecDepth 100000 in
theorem kt_X12_holdsNow : TriC kc_X12_holdsNow := lkp_tri (fa1 (tri_push 1 (.inl 1)) (fa1 (tri_istore 2 2) (fa1 (tri_push 3 (.inl 0)) (fa1 (tri_istore 4 3) (fa1 (tri_iload 5 3) (fa1 (tri_aload 6 0) (fa1 (tri_getI 9 12 63) (fa1 (tri_aload 10 0) (fa1 (tri_getI 13 12 63) (fa1 (tri_bin 14 (fun x y => wr (x * y))) (fa1 (tri_aload 15 0) (fa1 (tri_getI 18 12 63) (fa1 (tri_bin 19 (fun x y => wr (x * y))) (fa1 (tri_cmpge 22 136) (fa1 (tri_iload 23 2) (fa1 (tri_ifeq 26 136) (fa1 (tri_iload 27 3) (fa1 (tri_aload 28 0) (fa1 (tri_getI 31 12 63) (fa1 (tri_div 32 bRem) (fa1 (tri_istore 34 4) (fa1 (tri_iload 35 3) (fa1 (tri_aload 36 0) (fa1 (tri_getI 39 12 63) (fa1 (tri_div 40 bDiv) (fa1 (tri_aload 41 0) (fa1 (tri_getI 44 12 63) (fa1 (tri_div 45 bRem) (fa1 (tri_istore 47 5) (fa1 (tri_iload 48 3) (fa1 (tri_aload 49 0) (fa1 (tri_getI 52 12 63) (fa1 (tri_div 53 bDiv) (fa1 (tri_aload 54 0) (fa1 (tri_getI 57 12 63) (fa1 (tri_div 58 bDiv) (fa1 (tri_istore 60 6) (fa1 (tri_aload 61 0) (fa1 (tri_aload 62 0) (fa1 (tri_getR 65 12 20 (fun _ => 5)) (fa1 (tri_push 67 (.inl 40)) (fa1 (tri_iload 68 1) (fa1 (tri_bin 69 (fun x y => wr (x * y))) (fa1 (tri_aload 70 0) (fa1 (tri_getR 73 12 20 (fun _ => 6)) (fa1 (tri_push 74 (.inl 2)) (fa1 (tri_iload 75 1) (fa1 (tri_bin 76 (fun x y => wr (x * y))) (fa1 (tri_ald 77 20 lnR) (fa1 (tri_iload 79 4) (fa1 (tri_iload 81 5) (fa1 (tri_iload 83 6) (fa1 (tri_callI 86 7 (rcv 12) f_X12_valueOf) (fa1 (tri_istore 88 7) (fa1 (tri_iload 90 7) (fa1 (tri_aload 91 0) (fa1 (tri_aload 92 0) (fa1 (tri_getR 95 12 20 (fun _ => 5)) (fa1 (tri_push 97 (.inl 40)) (fa1 (tri_iload 98 1) (fa1 (tri_bin 99 (fun x y => wr (x * y))) (fa1 (tri_push 101 (.inl 20)) (fa1 (tri_bin 102 (fun x y => wr (x + y))) (fa1 (tri_aload 103 0) (fa1 (tri_getR 106 12 20 (fun _ => 6)) (fa1 (tri_push 107 (.inl 2)) (fa1 (tri_iload 108 1) (fa1 (tri_bin 109 (fun x y => wr (x * y))) (fa1 (tri_push 110 (.inl 1)) (fa1 (tri_bin 111 (fun x y => wr (x + y))) (fa1 (tri_ald 112 20 lnR) (fa1 (tri_iload 114 4) (fa1 (tri_iload 116 5) (fa1 (tri_iload 118 6) (fa1 (tri_callI 121 7 (rcv 12) f_X12_valueOf) (fa1 (tri_cmpne 124 128) (fa1 (tri_push 125 (.inl 1)) (fa1 (tri_goto 129) (fa1 (tri_push 129 (.inl 0)) (fa1 (tri_istore 130 2) (fa1 (tri_iinc 133 3 (1)) (fa1 (tri_goto 4) (fa1 (tri_iload 137 2) (fa1 (tri_zret) (fa0)))))))))))))))))))))))))))))))))))))))))))))))))))))))))))))))))))))))))))))))))))))
set_option maxRecDepth 100000 in
set_option maxHeartbeats 4000000 in
theorem ks_X12_holdsNow (G : Wp) (l : Launch) : ∀ e ∈ k_X12_holdsNow, Snd loR G l RX12 cX12_holdsNow 8 (some .boolean) rm_X12_holdsNow e.1 e.2 :=
  fa1 (s_iconst (n := 1) (v := 1) (by decide +kernel) (by decide +kernel) (p32 rfl)) <|
  fa1 (s_istore_n (kf := 2) (j := 2) (by decide +kernel) rfl (by decide)) <|
  fa1 (s_iconst (n := 0) (v := 0) (by decide +kernel) (by decide +kernel) (p32 rfl)) <|
  fa1 (s_istore_n (kf := 3) (j := 3) (by decide +kernel) rfl (by decide)) <|
  fa1 (s_iload_n (kf := 3) (j := 3) (by decide +kernel) rfl) <|
  fa1 (s_aload_n (kf := 0) (j := 0) (by decide +kernel) rfl) <|
  fa1 (s_getI (ci := 12) (f := 63) (idx := 422) (C := RX12) (T := TX12) (NF := 83) (by decide +kernel) rfl (by decide) inG_X12 (by decide) w_1301 li_X12_63) <|
  fa1 (s_aload_n (kf := 0) (j := 0) (by decide +kernel) rfl) <|
  fa1 (s_getI (ci := 12) (f := 63) (idx := 422) (C := RX12) (T := TX12) (NF := 83) (by decide +kernel) rfl (by decide) inG_X12 (by decide) w_1301 li_X12_63) <|
  fa1 (s_imul (by decide +kernel)) <|
  fa1 (s_aload_n (kf := 0) (j := 0) (by decide +kernel) rfl) <|
  fa1 (s_getI (ci := 12) (f := 63) (idx := 422) (C := RX12) (T := TX12) (NF := 83) (by decide +kernel) rfl (by decide) inG_X12 (by decide) w_1301 li_X12_63) <|
  fa1 (s_imul (by decide +kernel)) <|
  fa1 (s_cmpge (off := 117) (by decide +kernel) (by decide)) <|
  fa1 (s_iload_n (kf := 2) (j := 2) (by decide +kernel) rfl) <|
  fa1 (s_ifeq (off := 113) (by decide +kernel) (by decide)) <|
  fa1 (s_iload_n (kf := 3) (j := 3) (by decide +kernel) rfl) <|
  fa1 (s_aload_n (kf := 0) (j := 0) (by decide +kernel) rfl) <|
  fa1 (s_getI (ci := 12) (f := 63) (idx := 422) (C := RX12) (T := TX12) (NF := 83) (by decide +kernel) rfl (by decide) inG_X12 (by decide) w_1301 li_X12_63) <|
  fa1 (s_irem (by decide +kernel)) <|
  fa1 (s_istore (j := 4) (by decide +kernel) (by decide)) <|
  fa1 (s_iload_n (kf := 3) (j := 3) (by decide +kernel) rfl) <|
  fa1 (s_aload_n (kf := 0) (j := 0) (by decide +kernel) rfl) <|
  fa1 (s_getI (ci := 12) (f := 63) (idx := 422) (C := RX12) (T := TX12) (NF := 83) (by decide +kernel) rfl (by decide) inG_X12 (by decide) w_1301 li_X12_63) <|
  fa1 (s_idiv (by decide +kernel)) <|
  fa1 (s_aload_n (kf := 0) (j := 0) (by decide +kernel) rfl) <|
  fa1 (s_getI (ci := 12) (f := 63) (idx := 422) (C := RX12) (T := TX12) (NF := 83) (by decide +kernel) rfl (by decide) inG_X12 (by decide) w_1301 li_X12_63) <|
  fa1 (s_irem (by decide +kernel)) <|
  fa1 (s_istore (j := 5) (by decide +kernel) (by decide)) <|
  fa1 (s_iload_n (kf := 3) (j := 3) (by decide +kernel) rfl) <|
  fa1 (s_aload_n (kf := 0) (j := 0) (by decide +kernel) rfl) <|
  fa1 (s_getI (ci := 12) (f := 63) (idx := 422) (C := RX12) (T := TX12) (NF := 83) (by decide +kernel) rfl (by decide) inG_X12 (by decide) w_1301 li_X12_63) <|
  fa1 (s_idiv (by decide +kernel)) <|
  fa1 (s_aload_n (kf := 0) (j := 0) (by decide +kernel) rfl) <|
  fa1 (s_getI (ci := 12) (f := 63) (idx := 422) (C := RX12) (T := TX12) (NF := 83) (by decide +kernel) rfl (by decide) inG_X12 (by decide) w_1301 li_X12_63) <|
  fa1 (s_idiv (by decide +kernel)) <|
  fa1 (s_istore (j := 6) (by decide +kernel) (by decide)) <|
  fa1 (s_aload_n (kf := 0) (j := 0) (by decide +kernel) rfl) <|
  fa1 (s_aload_n (kf := 0) (j := 0) (by decide +kernel) rfl) <|
  fa1 (s_getR (t2 := 20) (g := (fun _ => 5)) (ci := 12) (f := 6) (idx := 22) (C := RX12) (T := TX12) (NF := 83) (by decide +kernel) rfl (by decide) inG_X12 (by decide) w_1244 lr_X12_6 (by decide)) <|
  fa1 (s_bipush (n := 40) (v := 40) (by decide +kernel) (by decide +kernel) (p32 rfl)) <|
  fa1 (s_iload_n (kf := 1) (j := 1) (by decide +kernel) rfl) <|
  fa1 (s_imul (by decide +kernel)) <|
  fa1 (s_aload_n (kf := 0) (j := 0) (by decide +kernel) rfl) <|
  fa1 (s_getR (t2 := 20) (g := (fun _ => 6)) (ci := 12) (f := 7) (idx := 25) (C := RX12) (T := TX12) (NF := 83) (by decide +kernel) rfl (by decide) inG_X12 (by decide) w_1245 lr_X12_7 (by decide)) <|
  fa1 (s_iconst (n := 2) (v := 2) (by decide +kernel) (by decide +kernel) (p32 rfl)) <|
  fa1 (s_iload_n (kf := 1) (j := 1) (by decide +kernel) rfl) <|
  fa1 (s_imul (by decide +kernel)) <|
  fa1 (s_iald (by decide +kernel)) <|
  fa1 (s_iload (j := 4) (by decide +kernel)) <|
  fa1 (s_iload (j := 5) (by decide +kernel)) <|
  fa1 (s_iload (j := 6) (by decide +kernel)) <|
  fa1 (s_vcallI (n := 6) (ci := 12) (C := RX12) (T := TX12) (NF := 83) (idx := 428) (y := yX12_valueOf) (by decide +kernel) (gg_X12_valueOf) rfl (by decide) yv_X12_valueOf (all5 w_1762 w_1764 w_84 w_113 w_1765) rfl rfl ⟨by decide, by decide⟩) <|
  fa1 (s_istore (j := 7) (by decide +kernel) (by decide)) <|
  fa1 (s_iload (j := 7) (by decide +kernel)) <|
  fa1 (s_aload_n (kf := 0) (j := 0) (by decide +kernel) rfl) <|
  fa1 (s_aload_n (kf := 0) (j := 0) (by decide +kernel) rfl) <|
  fa1 (s_getR (t2 := 20) (g := (fun _ => 5)) (ci := 12) (f := 6) (idx := 22) (C := RX12) (T := TX12) (NF := 83) (by decide +kernel) rfl (by decide) inG_X12 (by decide) w_1244 lr_X12_6 (by decide)) <|
  fa1 (s_bipush (n := 40) (v := 40) (by decide +kernel) (by decide +kernel) (p32 rfl)) <|
  fa1 (s_iload_n (kf := 1) (j := 1) (by decide +kernel) rfl) <|
  fa1 (s_imul (by decide +kernel)) <|
  fa1 (s_bipush (n := 20) (v := 20) (by decide +kernel) (by decide +kernel) (p32 rfl)) <|
  fa1 (s_iadd (by decide +kernel)) <|
  fa1 (s_aload_n (kf := 0) (j := 0) (by decide +kernel) rfl) <|
  fa1 (s_getR (t2 := 20) (g := (fun _ => 6)) (ci := 12) (f := 7) (idx := 25) (C := RX12) (T := TX12) (NF := 83) (by decide +kernel) rfl (by decide) inG_X12 (by decide) w_1245 lr_X12_7 (by decide)) <|
  fa1 (s_iconst (n := 2) (v := 2) (by decide +kernel) (by decide +kernel) (p32 rfl)) <|
  fa1 (s_iload_n (kf := 1) (j := 1) (by decide +kernel) rfl) <|
  fa1 (s_imul (by decide +kernel)) <|
  fa1 (s_iconst (n := 1) (v := 1) (by decide +kernel) (by decide +kernel) (p32 rfl)) <|
  fa1 (s_iadd (by decide +kernel)) <|
  fa1 (s_iald (by decide +kernel)) <|
  fa1 (s_iload (j := 4) (by decide +kernel)) <|
  fa1 (s_iload (j := 5) (by decide +kernel)) <|
  fa1 (s_iload (j := 6) (by decide +kernel)) <|
  fa1 (s_vcallI (n := 6) (ci := 12) (C := RX12) (T := TX12) (NF := 83) (idx := 428) (y := yX12_valueOf) (by decide +kernel) (gg_X12_valueOf) rfl (by decide) yv_X12_valueOf (all5 w_1762 w_1764 w_84 w_113 w_1765) rfl rfl ⟨by decide, by decide⟩) <|
  fa1 (s_cmpne (off := 7) (by decide +kernel) (by decide)) <|
  fa1 (s_iconst (n := 1) (v := 1) (by decide +kernel) (by decide +kernel) (p32 rfl)) <|
  fa1 (s_goto (off := 4) (by decide +kernel) (by decide)) <|
  fa1 (s_iconst (n := 0) (v := 0) (by decide +kernel) (by decide +kernel) (p32 rfl)) <|
  fa1 (s_istore_n (kf := 2) (j := 2) (by decide +kernel) rfl (by decide)) <|
  fa1 (s_iinc (j := 3) (d := 1) (by decide +kernel) (by decide)) <|
  fa1 (s_goto (off := -129) (by decide +kernel) (by decide)) <|
  fa1 (s_iload_n (kf := 2) (j := 2) (by decide +kernel) rfl) <|
  fa1 (s_zret (by decide +kernel) rfl) <| fa0
theorem gg_X12_holdsNow {G : Wp} {l : Launch} : GoodM loR G l yX12_holdsNow cX12_holdsNow 8 (some .boolean) rm_X12_holdsNow f_X12_holdsNow := met_of kt_X12_holdsNow (lkp_snd (ks_X12_holdsNow G l)) (by decide +kernel) rfl (by decide)
noncomputable def k_X12_holds : List (Nat × Ins) := [
  (0, i_aload 1 0),
  (1, i_iload 2 1),
  (2, i_callI 5 2 (rcv 12) f_X12_isSaying),
  (5, i_ifeq 8 36),
  (8, i_iload 9 2),
  (9, i_i2l 10),
  (10, i_push 11 (.inr (.inl 1))),
  (11, i_push 14 (.inr (.inl (3)))),
  (14, i_callI 17 3 anyv f_X12_in),
  (17, i_ifeq 20 36),
  (20, i_iload 21 3),
  (21, i_i2l 22),
  (22, i_push 23 (.inr (.inl 0))),
  (23, i_iload 24 2),
  (24, i_callI 27 1 anyv f_X12_worldsOf),
  (27, i_push 28 (.inl 1)),
  (28, i_bin 29 (fun x y => wr (x - y))),
  (29, i_i2l 30),
  (30, i_callI 33 3 anyv f_X12_in),
  (33, i_ifne 36 38),
  (36, i_push 37 (.inl (-1))),
  (37, i_iret),
  (38, i_aload 39 0),
  (39, i_iload 40 2),
  (40, i_iload 41 3),
  (41, i_callV 44 3 (rcv 12) f_X12_world),
  (44, i_aload 45 0),
  (45, i_iload 46 1),
  (46, i_callI 49 2 (rcv 12) f_X12_holdsNow),
  (49, i_ifeq 52 56),
  (52, i_push 53 (.inl 1)),
  (53, i_goto 57),
  (56, i_push 57 (.inl 0)),
  (57, i_iret)]
noncomputable def kc_X12_holds : Nat → Option Ins := lkp k_X12_holds
noncomputable def f_X12_holds : List AV → Mem → Option Rs := den 4 kc_X12_holds
abbrev rm_X12_holds : Room := { frames := 3, cells := 0, slots := 0, locals := 82 }
set_option maxRecDepth 100000 in
theorem kt_X12_holds : TriC kc_X12_holds := lkp_tri (fa1 (tri_aload 1 0) (fa1 (tri_iload 2 1) (fa1 (tri_callI 5 2 (rcv 12) f_X12_isSaying) (fa1 (tri_ifeq 8 36) (fa1 (tri_iload 9 2) (fa1 (tri_i2l 10) (fa1 (tri_push 11 (.inr (.inl 1))) (fa1 (tri_push 14 (.inr (.inl (3)))) (fa1 (tri_callI 17 3 anyv f_X12_in) (fa1 (tri_ifeq 20 36) (fa1 (tri_iload 21 3) (fa1 (tri_i2l 22) (fa1 (tri_push 23 (.inr (.inl 0))) (fa1 (tri_iload 24 2) (fa1 (tri_callI 27 1 anyv f_X12_worldsOf) (fa1 (tri_push 28 (.inl 1)) (fa1 (tri_bin 29 (fun x y => wr (x - y))) (fa1 (tri_i2l 30) (fa1 (tri_callI 33 3 anyv f_X12_in) (fa1 (tri_ifne 36 38) (fa1 (tri_push 37 (.inl (-1))) (fa1 (tri_iret) (fa1 (tri_aload 39 0) (fa1 (tri_iload 40 2) (fa1 (tri_iload 41 3) (fa1 (tri_callV 44 3 (rcv 12) f_X12_world) (fa1 (tri_aload 45 0) (fa1 (tri_iload 46 1) (fa1 (tri_callI 49 2 (rcv 12) f_X12_holdsNow) (fa1 (tri_ifeq 52 56) (fa1 (tri_push 53 (.inl 1)) (fa1 (tri_goto 57) (fa1 (tri_push 57 (.inl 0)) (fa1 (tri_iret) (fa0)))))))))))))))))))))))))))))))))))
set_option maxRecDepth 100000 in
set_option maxHeartbeats 4000000 in
theorem ks_X12_holds (G : Wp) (l : Launch) : ∀ e ∈ k_X12_holds, Snd loR G l RX12 cX12_holds 4 (some .int) rm_X12_holds e.1 e.2 :=
  fa1 (s_aload_n (kf := 0) (j := 0) (by decide +kernel) rfl) <|
  fa1 (s_iload_n (kf := 1) (j := 1) (by decide +kernel) rfl) <|
  fa1 (s_vcallI (n := 1) (ci := 12) (C := RX12) (T := TX12) (NF := 83) (idx := 287) (y := yX12_isSaying) (by decide +kernel) (gg_X12_isSaying) rfl (by decide) yv_X12_isSaying (all5 w_1581 w_1583 w_56 w_113 w_1584) rfl rfl ⟨by decide, by decide⟩) <|
  fa1 (s_ifeq (off := 31) (by decide +kernel) (by decide)) <|
  fa1 (s_iload_n (kf := 2) (j := 2) (by decide +kernel) rfl) <|
  fa1 (s_i2l (by decide +kernel)) <|
  fa1 (s_lconst (n := 1) (v := 1) (by decide +kernel) (by decide +kernel) (p64 rfl)) <|
  fa1 (s_ldc2 (idx := 364) (v := 3) (by decide +kernel) w_1674 (p64 rfl)) <|
  fa1 (s_scallI (n := 3) (idx := 187) (y := yX12_in) (by decide +kernel) (gg_X12_in) yv_X12_in (all4 w_1498 w_1499 w_113 w_1500) rfl rfl ⟨by decide, by decide⟩) <|
  fa1 (s_ifeq (off := 19) (by decide +kernel) (by decide)) <|
  fa1 (s_iload_n (kf := 3) (j := 3) (by decide +kernel) rfl) <|
  fa1 (s_i2l (by decide +kernel)) <|
  fa1 (s_lconst (n := 0) (v := 0) (by decide +kernel) (by decide +kernel) (p64 rfl)) <|
  fa1 (s_iload_n (kf := 2) (j := 2) (by decide +kernel) rfl) <|
  fa1 (s_scallI (n := 1) (idx := 432) (y := yX12_worldsOf) (by decide +kernel) (gg_X12_worldsOf) yv_X12_worldsOf (all4 w_1752 w_1753 w_113 w_1754) rfl rfl ⟨by decide, by decide⟩) <|
  fa1 (s_iconst (n := 1) (v := 1) (by decide +kernel) (by decide +kernel) (p32 rfl)) <|
  fa1 (s_isub (by decide +kernel)) <|
  fa1 (s_i2l (by decide +kernel)) <|
  fa1 (s_scallI (n := 3) (idx := 187) (y := yX12_in) (by decide +kernel) (gg_X12_in) yv_X12_in (all4 w_1498 w_1499 w_113 w_1500) rfl rfl ⟨by decide, by decide⟩) <|
  fa1 (s_ifne (off := 5) (by decide +kernel) (by decide)) <|
  fa1 (s_iconst (n := -1) (v := -1) (by decide +kernel) (by decide +kernel) (p32 rfl)) <|
  fa1 (s_iret (by decide +kernel) rfl) <|
  fa1 (s_aload_n (kf := 0) (j := 0) (by decide +kernel) rfl) <|
  fa1 (s_iload_n (kf := 2) (j := 2) (by decide +kernel) rfl) <|
  fa1 (s_iload_n (kf := 3) (j := 3) (by decide +kernel) rfl) <|
  fa1 (s_vcallV (n := 2) (ci := 12) (C := RX12) (T := TX12) (NF := 83) (idx := 435) (y := yX12_world) (by decide +kernel) (gg_X12_world) rfl (by decide) yv_X12_world (all5 w_1758 w_1760 w_83 w_113 w_1761) rfl rfl ⟨by decide, by decide⟩) <|
  fa1 (s_aload_n (kf := 0) (j := 0) (by decide +kernel) rfl) <|
  fa1 (s_iload_n (kf := 1) (j := 1) (by decide +kernel) rfl) <|
  fa1 (s_vcallI (n := 1) (ci := 12) (C := RX12) (T := TX12) (NF := 83) (idx := 438) (y := yX12_holdsNow) (by decide +kernel) (gg_X12_holdsNow) rfl (by decide) yv_X12_holdsNow (all5 w_1766 w_1768 w_85 w_113 w_1769) rfl rfl ⟨by decide, by decide⟩) <|
  fa1 (s_ifeq (off := 7) (by decide +kernel) (by decide)) <|
  fa1 (s_iconst (n := 1) (v := 1) (by decide +kernel) (by decide +kernel) (p32 rfl)) <|
  fa1 (s_goto (off := 4) (by decide +kernel) (by decide)) <|
  fa1 (s_iconst (n := 0) (v := 0) (by decide +kernel) (by decide +kernel) (p32 rfl)) <|
  fa1 (s_iret (by decide +kernel) rfl) <| fa0
theorem gg_X12_holds {G : Wp} {l : Launch} : GoodM loR G l yX12_holds cX12_holds 4 (some .int) rm_X12_holds f_X12_holds := met_of kt_X12_holds (lkp_snd (ks_X12_holds G l)) (by decide +kernel) rfl (by decide)
noncomputable def k_X12_allHold : List (Nat × Ins) := [
  (0, i_aload 1 0),
  (1, i_iload 2 1),
  (2, i_iload 3 2),
  (3, i_callV 6 3 (rcv 12) f_X12_world),
  (6, i_push 7 (.inl 1)),
  (7, i_istore 8 3),
  (8, i_push 9 (.inl 0)),
  (9, i_istore 11 4),
  (11, i_iload 13 4),
  (13, i_aload 14 0),
  (14, i_getI 17 12 5),
  (17, i_cmpge 20 55),
  (20, i_iload 21 3),
  (21, i_ifeq 24 55),
  (24, i_aload 25 0),
  (25, i_getR 28 12 20 (fun _ => 7)),
  (28, i_iload 30 4),
  (30, i_ald 31 20 lnR),
  (31, i_ifne 34 43),
  (34, i_aload 35 0),
  (35, i_iload 37 4),
  (37, i_callI 40 2 (rcv 12) f_X12_holdsNow),
  (40, i_ifeq 43 47),
  (43, i_push 44 (.inl 1)),
  (44, i_goto 48),
  (47, i_push 48 (.inl 0)),
  (48, i_istore 49 3),
  (49, i_iinc 52 4 (1)),
  (52, i_goto 11),
  (55, i_iload 56 3),
  (56, i_zret)]
noncomputable def kc_X12_allHold : Nat → Option Ins := lkp k_X12_allHold
noncomputable def f_X12_allHold : List AV → Mem → Option Rs := den 5 kc_X12_allHold
abbrev rm_X12_allHold : Room := { frames := 3, cells := 0, slots := 0, locals := 82 }
set_option maxRecDepth 100000 in
theorem kt_X12_allHold : TriC kc_X12_allHold := lkp_tri (fa1 (tri_aload 1 0) (fa1 (tri_iload 2 1) (fa1 (tri_iload 3 2) (fa1 (tri_callV 6 3 (rcv 12) f_X12_world) (fa1 (tri_push 7 (.inl 1)) (fa1 (tri_istore 8 3) (fa1 (tri_push 9 (.inl 0)) (fa1 (tri_istore 11 4) (fa1 (tri_iload 13 4) (fa1 (tri_aload 14 0) (fa1 (tri_getI 17 12 5) (fa1 (tri_cmpge 20 55) (fa1 (tri_iload 21 3) (fa1 (tri_ifeq 24 55) (fa1 (tri_aload 25 0) (fa1 (tri_getR 28 12 20 (fun _ => 7)) (fa1 (tri_iload 30 4) (fa1 (tri_ald 31 20 lnR) (fa1 (tri_ifne 34 43) (fa1 (tri_aload 35 0) (fa1 (tri_iload 37 4) (fa1 (tri_callI 40 2 (rcv 12) f_X12_holdsNow) (fa1 (tri_ifeq 43 47) (fa1 (tri_push 44 (.inl 1)) (fa1 (tri_goto 48) (fa1 (tri_push 48 (.inl 0)) (fa1 (tri_istore 49 3) (fa1 (tri_iinc 52 4 (1)) (fa1 (tri_goto 11) (fa1 (tri_iload 56 3) (fa1 (tri_zret) (fa0))))))))))))))))))))))))))))))))
set_option maxRecDepth 100000 in
set_option maxHeartbeats 4000000 in
theorem ks_X12_allHold (G : Wp) (l : Launch) : ∀ e ∈ k_X12_allHold, Snd loR G l RX12 cX12_allHold 5 (some .boolean) rm_X12_allHold e.1 e.2 :=
  fa1 (s_aload_n (kf := 0) (j := 0) (by decide +kernel) rfl) <|
  fa1 (s_iload_n (kf := 1) (j := 1) (by decide +kernel) rfl) <|
  fa1 (s_iload_n (kf := 2) (j := 2) (by decide +kernel) rfl) <|
  fa1 (s_vcallV (n := 2) (ci := 12) (C := RX12) (T := TX12) (NF := 83) (idx := 435) (y := yX12_world) (by decide +kernel) (gg_X12_world) rfl (by decide) yv_X12_world (all5 w_1758 w_1760 w_83 w_113 w_1761) rfl rfl ⟨by decide, by decide⟩) <|
  fa1 (s_iconst (n := 1) (v := 1) (by decide +kernel) (by decide +kernel) (p32 rfl)) <|
  fa1 (s_istore_n (kf := 3) (j := 3) (by decide +kernel) rfl (by decide)) <|
  fa1 (s_iconst (n := 0) (v := 0) (by decide +kernel) (by decide +kernel) (p32 rfl)) <|
  fa1 (s_istore (j := 4) (by decide +kernel) (by decide)) <|
  fa1 (s_iload (j := 4) (by decide +kernel)) <|
  fa1 (s_aload_n (kf := 0) (j := 0) (by decide +kernel) rfl) <|
  fa1 (s_getI (ci := 12) (f := 5) (idx := 184) (C := RX12) (T := TX12) (NF := 83) (by decide +kernel) rfl (by decide) inG_X12 (by decide) w_1243 li_X12_5) <|
  fa1 (s_cmpge (off := 38) (by decide +kernel) (by decide)) <|
  fa1 (s_iload_n (kf := 3) (j := 3) (by decide +kernel) rfl) <|
  fa1 (s_ifeq (off := 34) (by decide +kernel) (by decide)) <|
  fa1 (s_aload_n (kf := 0) (j := 0) (by decide +kernel) rfl) <|
  fa1 (s_getR (t2 := 20) (g := (fun _ => 7)) (ci := 12) (f := 8) (idx := 28) (C := RX12) (T := TX12) (NF := 83) (by decide +kernel) rfl (by decide) inG_X12 (by decide) w_1246 lr_X12_8 (by decide)) <|
  fa1 (s_iload (j := 4) (by decide +kernel)) <|
  fa1 (s_iald (by decide +kernel)) <|
  fa1 (s_ifne (off := 12) (by decide +kernel) (by decide)) <|
  fa1 (s_aload_n (kf := 0) (j := 0) (by decide +kernel) rfl) <|
  fa1 (s_iload (j := 4) (by decide +kernel)) <|
  fa1 (s_vcallI (n := 1) (ci := 12) (C := RX12) (T := TX12) (NF := 83) (idx := 438) (y := yX12_holdsNow) (by decide +kernel) (gg_X12_holdsNow) rfl (by decide) yv_X12_holdsNow (all5 w_1766 w_1768 w_85 w_113 w_1769) rfl rfl ⟨by decide, by decide⟩) <|
  fa1 (s_ifeq (off := 7) (by decide +kernel) (by decide)) <|
  fa1 (s_iconst (n := 1) (v := 1) (by decide +kernel) (by decide +kernel) (p32 rfl)) <|
  fa1 (s_goto (off := 4) (by decide +kernel) (by decide)) <|
  fa1 (s_iconst (n := 0) (v := 0) (by decide +kernel) (by decide +kernel) (p32 rfl)) <|
  fa1 (s_istore_n (kf := 3) (j := 3) (by decide +kernel) rfl (by decide)) <|
  fa1 (s_iinc (j := 4) (d := 1) (by decide +kernel) (by decide)) <|
  fa1 (s_goto (off := -41) (by decide +kernel) (by decide)) <|
  fa1 (s_iload_n (kf := 3) (j := 3) (by decide +kernel) rfl) <|
  fa1 (s_zret (by decide +kernel) rfl) <| fa0
theorem gg_X12_allHold {G : Wp} {l : Launch} : GoodM loR G l yX12_allHold cX12_allHold 5 (some .boolean) rm_X12_allHold f_X12_allHold := met_of kt_X12_allHold (lkp_snd (ks_X12_allHold G l)) (by decide +kernel) rfl (by decide)
noncomputable def k_X12_isGood : List (Nat × Ins) := [
  (0, i_iload 1 1),
  (1, i_push 2 (.inl 1)),
  (2, i_cmpne 5 14),
  (5, i_aload 6 0),
  (6, i_getR 9 12 23 (fun _ => 42)),
  (9, i_iload 10 2),
  (10, i_ald 11 23 lnR),
  (11, i_goto 20),
  (14, i_aload 15 0),
  (15, i_getR 18 12 23 (fun _ => 43)),
  (18, i_iload 19 2),
  (19, i_ald 20 23 lnR),
  (20, i_zret)]
noncomputable def kc_X12_isGood : Nat → Option Ins := lkp k_X12_isGood
noncomputable def f_X12_isGood : List AV → Mem → Option Rs := den 3 kc_X12_isGood
abbrev rm_X12_isGood : Room := { frames := 0, cells := 0, slots := 0, locals := 0 }
set_option maxRecDepth 100000 in
theorem kt_X12_isGood : TriC kc_X12_isGood := lkp_tri (fa1 (tri_iload 1 1) (fa1 (tri_push 2 (.inl 1)) (fa1 (tri_cmpne 5 14) (fa1 (tri_aload 6 0) (fa1 (tri_getR 9 12 23 (fun _ => 42)) (fa1 (tri_iload 10 2) (fa1 (tri_ald 11 23 lnR) (fa1 (tri_goto 20) (fa1 (tri_aload 15 0) (fa1 (tri_getR 18 12 23 (fun _ => 43)) (fa1 (tri_iload 19 2) (fa1 (tri_ald 20 23 lnR) (fa1 (tri_zret) (fa0))))))))))))))
set_option maxRecDepth 100000 in
set_option maxHeartbeats 4000000 in
theorem ks_X12_isGood (G : Wp) (l : Launch) : ∀ e ∈ k_X12_isGood, Snd loR G l RX12 cX12_isGood 3 (some .boolean) rm_X12_isGood e.1 e.2 :=
  fa1 (s_iload_n (kf := 1) (j := 1) (by decide +kernel) rfl) <|
  fa1 (s_iconst (n := 1) (v := 1) (by decide +kernel) (by decide +kernel) (p32 rfl)) <|
  fa1 (s_cmpne (off := 12) (by decide +kernel) (by decide)) <|
  fa1 (s_aload_n (kf := 0) (j := 0) (by decide +kernel) rfl) <|
  fa1 (s_getR (t2 := 23) (g := (fun _ => 42)) (ci := 12) (f := 69) (idx := 138) (C := RX12) (T := TX12) (NF := 83) (by decide +kernel) rfl (by decide) inG_X12 (by decide) w_1307 lr_X12_69 (by decide)) <|
  fa1 (s_iload_n (kf := 2) (j := 2) (by decide +kernel) rfl) <|
  fa1 (s_zald (by decide +kernel)) <|
  fa1 (s_goto (off := 9) (by decide +kernel) (by decide)) <|
  fa1 (s_aload_n (kf := 0) (j := 0) (by decide +kernel) rfl) <|
  fa1 (s_getR (t2 := 23) (g := (fun _ => 43)) (ci := 12) (f := 70) (idx := 141) (C := RX12) (T := TX12) (NF := 83) (by decide +kernel) rfl (by decide) inG_X12 (by decide) w_1308 lr_X12_70 (by decide)) <|
  fa1 (s_iload_n (kf := 2) (j := 2) (by decide +kernel) rfl) <|
  fa1 (s_zald (by decide +kernel)) <|
  fa1 (s_zret (by decide +kernel) rfl) <| fa0
theorem gg_X12_isGood {G : Wp} {l : Launch} : GoodM loR G l yX12_isGood cX12_isGood 3 (some .boolean) rm_X12_isGood f_X12_isGood := met_of kt_X12_isGood (lkp_snd (ks_X12_isGood G l)) (by decide +kernel) rfl (by decide)
noncomputable def k_X12_weighs : List (Nat × Ins) := [
  (0, i_aload 1 0),
  (1, i_getI 4 12 68),
  (4, i_ifeq 7 8),
  (7, i_vret),
  (8, i_aload 9 0),
  (9, i_push 10 (.inl 1)),
  (10, i_putZ 13 12 68),
  (13, i_aload 14 0),
  (14, i_getR 17 12 23 (fun _ => 42)),
  (17, i_push 18 (.inl 0)),
  (18, i_aload 19 0),
  (19, i_push 20 (.inl 1)),
  (20, i_push 21 (.inl 0)),
  (21, i_callI 24 3 (rcv 12) f_X12_allHold),
  (24, i_ast 25 23 lnR wZ),
  (25, i_push 26 (.inl 0)),
  (26, i_istore 27 1),
  (27, i_iload 28 1),
  (28, i_push 30 (.inl 32)),
  (30, i_cmpge 33 51),
  (33, i_aload 34 0),
  (34, i_getR 37 12 23 (fun _ => 43)),
  (37, i_iload 38 1),
  (38, i_aload 39 0),
  (39, i_push 40 (.inl 2)),
  (40, i_iload 41 1),
  (41, i_callI 44 3 (rcv 12) f_X12_allHold),
  (44, i_ast 45 23 lnR wZ),
  (45, i_iinc 48 1 (1)),
  (48, i_goto 27),
  (51, i_vret)]
noncomputable def kc_X12_weighs : Nat → Option Ins := lkp k_X12_weighs
noncomputable def f_X12_weighs : List AV → Mem → Option Rs := den 2 kc_X12_weighs
abbrev rm_X12_weighs : Room := { frames := 4, cells := 0, slots := 0, locals := 106 }
set_option maxRecDepth 100000 in
theorem kt_X12_weighs : TriC kc_X12_weighs := lkp_tri (fa1 (tri_aload 1 0) (fa1 (tri_getI 4 12 68) (fa1 (tri_ifeq 7 8) (fa1 (tri_vret) (fa1 (tri_aload 9 0) (fa1 (tri_push 10 (.inl 1)) (fa1 (tri_putZ 13 12 68) (fa1 (tri_aload 14 0) (fa1 (tri_getR 17 12 23 (fun _ => 42)) (fa1 (tri_push 18 (.inl 0)) (fa1 (tri_aload 19 0) (fa1 (tri_push 20 (.inl 1)) (fa1 (tri_push 21 (.inl 0)) (fa1 (tri_callI 24 3 (rcv 12) f_X12_allHold) (fa1 (tri_ast 25 23 lnR wZ) (fa1 (tri_push 26 (.inl 0)) (fa1 (tri_istore 27 1) (fa1 (tri_iload 28 1) (fa1 (tri_push 30 (.inl 32)) (fa1 (tri_cmpge 33 51) (fa1 (tri_aload 34 0) (fa1 (tri_getR 37 12 23 (fun _ => 43)) (fa1 (tri_iload 38 1) (fa1 (tri_aload 39 0) (fa1 (tri_push 40 (.inl 2)) (fa1 (tri_iload 41 1) (fa1 (tri_callI 44 3 (rcv 12) f_X12_allHold) (fa1 (tri_ast 45 23 lnR wZ) (fa1 (tri_iinc 48 1 (1)) (fa1 (tri_goto 27) (fa1 (tri_vret) (fa0))))))))))))))))))))))))))))))))
set_option maxRecDepth 100000 in
set_option maxHeartbeats 4000000 in
theorem ks_X12_weighs (G : Wp) (l : Launch) : ∀ e ∈ k_X12_weighs, Snd loR G l RX12 cX12_weighs 2 none rm_X12_weighs e.1 e.2 :=
  fa1 (s_aload_n (kf := 0) (j := 0) (by decide +kernel) rfl) <|
  fa1 (s_getI (ci := 12) (f := 68) (idx := 279) (C := RX12) (T := TX12) (NF := 83) (by decide +kernel) rfl (by decide) inG_X12 (by decide) w_1306 li_X12_68) <|
  fa1 (s_ifeq (off := 4) (by decide +kernel) (by decide)) <|
  fa1 (s_vret (by decide +kernel) rfl) <|
  fa1 (s_aload_n (kf := 0) (j := 0) (by decide +kernel) rfl) <|
  fa1 (s_iconst (n := 1) (v := 1) (by decide +kernel) (by decide +kernel) (p32 rfl)) <|
  fa1 (s_putZ (ci := 12) (f := 68) (idx := 279) (C := RX12) (T := TX12) (NF := 83) (by decide +kernel) rfl (by decide) inG_X12 (by decide) w_1306 tyX12 tyX12_ok nmX12 rfl (by decide +kernel) li_X12_68) <|
  fa1 (s_aload_n (kf := 0) (j := 0) (by decide +kernel) rfl) <|
  fa1 (s_getR (t2 := 23) (g := (fun _ => 42)) (ci := 12) (f := 69) (idx := 138) (C := RX12) (T := TX12) (NF := 83) (by decide +kernel) rfl (by decide) inG_X12 (by decide) w_1307 lr_X12_69 (by decide)) <|
  fa1 (s_iconst (n := 0) (v := 0) (by decide +kernel) (by decide +kernel) (p32 rfl)) <|
  fa1 (s_aload_n (kf := 0) (j := 0) (by decide +kernel) rfl) <|
  fa1 (s_iconst (n := 1) (v := 1) (by decide +kernel) (by decide +kernel) (p32 rfl)) <|
  fa1 (s_iconst (n := 0) (v := 0) (by decide +kernel) (by decide +kernel) (p32 rfl)) <|
  fa1 (s_vcallI (n := 2) (ci := 12) (C := RX12) (T := TX12) (NF := 83) (idx := 441) (y := yX12_allHold) (by decide +kernel) (gg_X12_allHold) rfl (by decide) yv_X12_allHold (all5 w_1778 w_1780 w_87 w_113 w_1781) rfl rfl ⟨by decide, by decide⟩) <|
  fa1 (s_zast (by decide +kernel) lt_loR_23) <|
  fa1 (s_iconst (n := 0) (v := 0) (by decide +kernel) (by decide +kernel) (p32 rfl)) <|
  fa1 (s_istore_n (kf := 1) (j := 1) (by decide +kernel) rfl (by decide)) <|
  fa1 (s_iload_n (kf := 1) (j := 1) (by decide +kernel) rfl) <|
  fa1 (s_bipush (n := 32) (v := 32) (by decide +kernel) (by decide +kernel) (p32 rfl)) <|
  fa1 (s_cmpge (off := 21) (by decide +kernel) (by decide)) <|
  fa1 (s_aload_n (kf := 0) (j := 0) (by decide +kernel) rfl) <|
  fa1 (s_getR (t2 := 23) (g := (fun _ => 43)) (ci := 12) (f := 70) (idx := 141) (C := RX12) (T := TX12) (NF := 83) (by decide +kernel) rfl (by decide) inG_X12 (by decide) w_1308 lr_X12_70 (by decide)) <|
  fa1 (s_iload_n (kf := 1) (j := 1) (by decide +kernel) rfl) <|
  fa1 (s_aload_n (kf := 0) (j := 0) (by decide +kernel) rfl) <|
  fa1 (s_iconst (n := 2) (v := 2) (by decide +kernel) (by decide +kernel) (p32 rfl)) <|
  fa1 (s_iload_n (kf := 1) (j := 1) (by decide +kernel) rfl) <|
  fa1 (s_vcallI (n := 2) (ci := 12) (C := RX12) (T := TX12) (NF := 83) (idx := 441) (y := yX12_allHold) (by decide +kernel) (gg_X12_allHold) rfl (by decide) yv_X12_allHold (all5 w_1778 w_1780 w_87 w_113 w_1781) rfl rfl ⟨by decide, by decide⟩) <|
  fa1 (s_zast (by decide +kernel) lt_loR_23) <|
  fa1 (s_iinc (j := 1) (d := 1) (by decide +kernel) (by decide)) <|
  fa1 (s_goto (off := -21) (by decide +kernel) (by decide)) <|
  fa1 (s_vret (by decide +kernel) rfl) <| fa0
theorem gg_X12_weighs {G : Wp} {l : Launch} : GoodM loR G l yX12_weighs cX12_weighs 2 none rm_X12_weighs f_X12_weighs := met_of kt_X12_weighs (lkp_snd (ks_X12_weighs G l)) (by decide +kernel) rfl (by decide)
noncomputable def k_X12_worlds : List (Nat × Ins) := [
  (0, i_iload 1 1),
  (1, i_i2l 2),
  (2, i_push 3 (.inr (.inl 1))),
  (3, i_push 6 (.inr (.inl (2)))),
  (6, i_callI 9 3 anyv f_X12_in),
  (9, i_ifeq 12 22),
  (12, i_iload 13 2),
  (13, i_i2l 14),
  (14, i_push 15 (.inr (.inl 0))),
  (15, i_push 16 (.inr (.inl 1))),
  (16, i_callI 19 3 anyv f_X12_in),
  (19, i_ifne 22 24),
  (22, i_push 23 (.inl (-1))),
  (23, i_iret),
  (24, i_aload 25 0),
  (25, i_callV 28 1 (rcv 12) f_X12_weighs),
  (28, i_push 29 (.inl 0)),
  (29, i_istore 30 3),
  (30, i_push 32 (.inl (-4))),
  (32, i_istore 34 4),
  (34, i_push 35 (.inl 0)),
  (35, i_istore 37 5),
  (37, i_iload 39 5),
  (39, i_iload 40 1),
  (40, i_callI 43 1 anyv f_X12_worldsOf),
  (43, i_cmpge 46 96),
  (46, i_iload 47 3),
  (47, i_aload 48 0),
  (48, i_iload 49 1),
  (49, i_iload 51 5),
  (51, i_callI 54 3 (rcv 12) f_X12_isGood),
  (54, i_ifeq 57 61),
  (57, i_push 58 (.inl 1)),
  (58, i_goto 62),
  (61, i_push 62 (.inl 0)),
  (62, i_bin 63 (fun x y => wr (x + y))),
  (63, i_istore 64 3),
  (64, i_aload 65 0),
  (65, i_iload 66 1),
  (66, i_iload 68 5),
  (68, i_callI 71 3 (rcv 12) f_X12_isGood),
  (71, i_ifeq 74 86),
  (74, i_iload 76 4),
  (76, i_push 78 (.inl (-4))),
  (78, i_cmpne 81 86),
  (81, i_iload 83 5),
  (83, i_goto 88),
  (86, i_iload 88 4),
  (88, i_istore 90 4),
  (90, i_iinc 93 5 (1)),
  (93, i_goto 37),
  (96, i_iload 97 2),
  (97, i_ifne 100 104),
  (100, i_iload 101 3),
  (101, i_goto 106),
  (104, i_iload 106 4),
  (106, i_iret)]
noncomputable def kc_X12_worlds : Nat → Option Ins := lkp k_X12_worlds
noncomputable def f_X12_worlds : List AV → Mem → Option Rs := den 6 kc_X12_worlds
abbrev rm_X12_worlds : Room := { frames := 5, cells := 0, slots := 0, locals := 127 }
set_option maxRecDepth 100000 in
theorem kt_X12_worlds : TriC kc_X12_worlds := lkp_tri (fa1 (tri_iload 1 1) (fa1 (tri_i2l 2) (fa1 (tri_push 3 (.inr (.inl 1))) (fa1 (tri_push 6 (.inr (.inl (2)))) (fa1 (tri_callI 9 3 anyv f_X12_in) (fa1 (tri_ifeq 12 22) (fa1 (tri_iload 13 2) (fa1 (tri_i2l 14) (fa1 (tri_push 15 (.inr (.inl 0))) (fa1 (tri_push 16 (.inr (.inl 1))) (fa1 (tri_callI 19 3 anyv f_X12_in) (fa1 (tri_ifne 22 24) (fa1 (tri_push 23 (.inl (-1))) (fa1 (tri_iret) (fa1 (tri_aload 25 0) (fa1 (tri_callV 28 1 (rcv 12) f_X12_weighs) (fa1 (tri_push 29 (.inl 0)) (fa1 (tri_istore 30 3) (fa1 (tri_push 32 (.inl (-4))) (fa1 (tri_istore 34 4) (fa1 (tri_push 35 (.inl 0)) (fa1 (tri_istore 37 5) (fa1 (tri_iload 39 5) (fa1 (tri_iload 40 1) (fa1 (tri_callI 43 1 anyv f_X12_worldsOf) (fa1 (tri_cmpge 46 96) (fa1 (tri_iload 47 3) (fa1 (tri_aload 48 0) (fa1 (tri_iload 49 1) (fa1 (tri_iload 51 5) (fa1 (tri_callI 54 3 (rcv 12) f_X12_isGood) (fa1 (tri_ifeq 57 61) (fa1 (tri_push 58 (.inl 1)) (fa1 (tri_goto 62) (fa1 (tri_push 62 (.inl 0)) (fa1 (tri_bin 63 (fun x y => wr (x + y))) (fa1 (tri_istore 64 3) (fa1 (tri_aload 65 0) (fa1 (tri_iload 66 1) (fa1 (tri_iload 68 5) (fa1 (tri_callI 71 3 (rcv 12) f_X12_isGood) (fa1 (tri_ifeq 74 86) (fa1 (tri_iload 76 4) (fa1 (tri_push 78 (.inl (-4))) (fa1 (tri_cmpne 81 86) (fa1 (tri_iload 83 5) (fa1 (tri_goto 88) (fa1 (tri_iload 88 4) (fa1 (tri_istore 90 4) (fa1 (tri_iinc 93 5 (1)) (fa1 (tri_goto 37) (fa1 (tri_iload 97 2) (fa1 (tri_ifne 100 104) (fa1 (tri_iload 101 3) (fa1 (tri_goto 106) (fa1 (tri_iload 106 4) (fa1 (tri_iret) (fa0))))))))))))))))))))))))))))))))))))))))))))))))))))))))))
set_option maxRecDepth 100000 in
set_option maxHeartbeats 4000000 in
theorem ks_X12_worlds (G : Wp) (l : Launch) : ∀ e ∈ k_X12_worlds, Snd loR G l RX12 cX12_worlds 6 (some .int) rm_X12_worlds e.1 e.2 :=
  fa1 (s_iload_n (kf := 1) (j := 1) (by decide +kernel) rfl) <|
  fa1 (s_i2l (by decide +kernel)) <|
  fa1 (s_lconst (n := 1) (v := 1) (by decide +kernel) (by decide +kernel) (p64 rfl)) <|
  fa1 (s_ldc2 (idx := 244) (v := 2) (by decide +kernel) w_1534 (p64 rfl)) <|
  fa1 (s_scallI (n := 3) (idx := 187) (y := yX12_in) (by decide +kernel) (gg_X12_in) yv_X12_in (all4 w_1498 w_1499 w_113 w_1500) rfl rfl ⟨by decide, by decide⟩) <|
  fa1 (s_ifeq (off := 13) (by decide +kernel) (by decide)) <|
  fa1 (s_iload_n (kf := 2) (j := 2) (by decide +kernel) rfl) <|
  fa1 (s_i2l (by decide +kernel)) <|
  fa1 (s_lconst (n := 0) (v := 0) (by decide +kernel) (by decide +kernel) (p64 rfl)) <|
  fa1 (s_lconst (n := 1) (v := 1) (by decide +kernel) (by decide +kernel) (p64 rfl)) <|
  fa1 (s_scallI (n := 3) (idx := 187) (y := yX12_in) (by decide +kernel) (gg_X12_in) yv_X12_in (all4 w_1498 w_1499 w_113 w_1500) rfl rfl ⟨by decide, by decide⟩) <|
  fa1 (s_ifne (off := 5) (by decide +kernel) (by decide)) <|
  fa1 (s_iconst (n := -1) (v := -1) (by decide +kernel) (by decide +kernel) (p32 rfl)) <|
  fa1 (s_iret (by decide +kernel) rfl) <|
  fa1 (s_aload_n (kf := 0) (j := 0) (by decide +kernel) rfl) <|
  fa1 (s_vcallV (n := 0) (ci := 12) (C := RX12) (T := TX12) (NF := 83) (idx := 444) (y := yX12_weighs) (by decide +kernel) (gg_X12_weighs) rfl (by decide) yv_X12_weighs (all5 w_1774 w_1776 w_86 w_113 w_1777) rfl rfl ⟨by decide, by decide⟩) <|
  fa1 (s_iconst (n := 0) (v := 0) (by decide +kernel) (by decide +kernel) (p32 rfl)) <|
  fa1 (s_istore_n (kf := 3) (j := 3) (by decide +kernel) rfl (by decide)) <|
  fa1 (s_bipush (n := -4) (v := -4) (by decide +kernel) (by decide +kernel) (p32 rfl)) <|
  fa1 (s_istore (j := 4) (by decide +kernel) (by decide)) <|
  fa1 (s_iconst (n := 0) (v := 0) (by decide +kernel) (by decide +kernel) (p32 rfl)) <|
  fa1 (s_istore (j := 5) (by decide +kernel) (by decide)) <|
  fa1 (s_iload (j := 5) (by decide +kernel)) <|
  fa1 (s_iload_n (kf := 1) (j := 1) (by decide +kernel) rfl) <|
  fa1 (s_scallI (n := 1) (idx := 432) (y := yX12_worldsOf) (by decide +kernel) (gg_X12_worldsOf) yv_X12_worldsOf (all4 w_1752 w_1753 w_113 w_1754) rfl rfl ⟨by decide, by decide⟩) <|
  fa1 (s_cmpge (off := 53) (by decide +kernel) (by decide)) <|
  fa1 (s_iload_n (kf := 3) (j := 3) (by decide +kernel) rfl) <|
  fa1 (s_aload_n (kf := 0) (j := 0) (by decide +kernel) rfl) <|
  fa1 (s_iload_n (kf := 1) (j := 1) (by decide +kernel) rfl) <|
  fa1 (s_iload (j := 5) (by decide +kernel)) <|
  fa1 (s_vcallI (n := 2) (ci := 12) (C := RX12) (T := TX12) (NF := 83) (idx := 447) (y := yX12_isGood) (by decide +kernel) (gg_X12_isGood) rfl (by decide) yv_X12_isGood (all5 w_1782 w_1784 w_88 w_113 w_1785) rfl rfl ⟨by decide, by decide⟩) <|
  fa1 (s_ifeq (off := 7) (by decide +kernel) (by decide)) <|
  fa1 (s_iconst (n := 1) (v := 1) (by decide +kernel) (by decide +kernel) (p32 rfl)) <|
  fa1 (s_goto (off := 4) (by decide +kernel) (by decide)) <|
  fa1 (s_iconst (n := 0) (v := 0) (by decide +kernel) (by decide +kernel) (p32 rfl)) <|
  fa1 (s_iadd (by decide +kernel)) <|
  fa1 (s_istore_n (kf := 3) (j := 3) (by decide +kernel) rfl (by decide)) <|
  fa1 (s_aload_n (kf := 0) (j := 0) (by decide +kernel) rfl) <|
  fa1 (s_iload_n (kf := 1) (j := 1) (by decide +kernel) rfl) <|
  fa1 (s_iload (j := 5) (by decide +kernel)) <|
  fa1 (s_vcallI (n := 2) (ci := 12) (C := RX12) (T := TX12) (NF := 83) (idx := 447) (y := yX12_isGood) (by decide +kernel) (gg_X12_isGood) rfl (by decide) yv_X12_isGood (all5 w_1782 w_1784 w_88 w_113 w_1785) rfl rfl ⟨by decide, by decide⟩) <|
  fa1 (s_ifeq (off := 15) (by decide +kernel) (by decide)) <|
  fa1 (s_iload (j := 4) (by decide +kernel)) <|
  fa1 (s_bipush (n := -4) (v := -4) (by decide +kernel) (by decide +kernel) (p32 rfl)) <|
  fa1 (s_cmpne (off := 8) (by decide +kernel) (by decide)) <|
  fa1 (s_iload (j := 5) (by decide +kernel)) <|
  fa1 (s_goto (off := 5) (by decide +kernel) (by decide)) <|
  fa1 (s_iload (j := 4) (by decide +kernel)) <|
  fa1 (s_istore (j := 4) (by decide +kernel) (by decide)) <|
  fa1 (s_iinc (j := 5) (d := 1) (by decide +kernel) (by decide)) <|
  fa1 (s_goto (off := -56) (by decide +kernel) (by decide)) <|
  fa1 (s_iload_n (kf := 2) (j := 2) (by decide +kernel) rfl) <|
  fa1 (s_ifne (off := 7) (by decide +kernel) (by decide)) <|
  fa1 (s_iload_n (kf := 3) (j := 3) (by decide +kernel) rfl) <|
  fa1 (s_goto (off := 5) (by decide +kernel) (by decide)) <|
  fa1 (s_iload (j := 4) (by decide +kernel)) <|
  fa1 (s_iret (by decide +kernel) rfl) <| fa0
theorem gg_X12_worlds {G : Wp} {l : Launch} : GoodM loR G l yX12_worlds cX12_worlds 6 (some .int) rm_X12_worlds f_X12_worlds := met_of kt_X12_worlds (lkp_snd (ks_X12_worlds G l)) (by decide +kernel) rfl (by decide)
noncomputable def k_X12_denied : List (Nat × Ins) := [
  (0, i_aload 1 0),
  (1, i_iload 2 1),
  (2, i_callI 5 2 (rcv 12) f_X12_isSaying),
  (5, i_ifeq 8 20),
  (8, i_iload 9 2),
  (9, i_i2l 10),
  (10, i_push 11 (.inr (.inl 1))),
  (11, i_push 14 (.inr (.inl (2)))),
  (14, i_callI 17 3 anyv f_X12_in),
  (17, i_ifne 20 22),
  (20, i_push 21 (.inl (-1))),
  (21, i_iret),
  (22, i_aload 23 0),
  (23, i_callV 26 1 (rcv 12) f_X12_weighs),
  (26, i_push 27 (.inl 0)),
  (27, i_istore 28 3),
  (28, i_iload 29 3),
  (29, i_iload 30 2),
  (30, i_callI 33 1 anyv f_X12_worldsOf),
  (33, i_cmpge 36 67),
  (36, i_aload 37 0),
  (37, i_iload 38 2),
  (38, i_iload 39 3),
  (39, i_callI 42 3 (rcv 12) f_X12_isGood),
  (42, i_ifeq 45 61),
  (45, i_aload 46 0),
  (46, i_iload 47 2),
  (47, i_iload 48 3),
  (48, i_callV 51 3 (rcv 12) f_X12_world),
  (51, i_aload 52 0),
  (52, i_iload 53 1),
  (53, i_callI 56 2 (rcv 12) f_X12_holdsNow),
  (56, i_ifne 59 61),
  (59, i_iload 60 3),
  (60, i_iret),
  (61, i_iinc 64 3 (1)),
  (64, i_goto 28),
  (67, i_push 69 (.inl (-4))),
  (69, i_iret)]
noncomputable def kc_X12_denied : Nat → Option Ins := lkp k_X12_denied
noncomputable def f_X12_denied : List AV → Mem → Option Rs := den 4 kc_X12_denied
abbrev rm_X12_denied : Room := { frames := 5, cells := 0, slots := 0, locals := 127 }
set_option maxRecDepth 100000 in
theorem kt_X12_denied : TriC kc_X12_denied := lkp_tri (fa1 (tri_aload 1 0) (fa1 (tri_iload 2 1) (fa1 (tri_callI 5 2 (rcv 12) f_X12_isSaying) (fa1 (tri_ifeq 8 20) (fa1 (tri_iload 9 2) (fa1 (tri_i2l 10) (fa1 (tri_push 11 (.inr (.inl 1))) (fa1 (tri_push 14 (.inr (.inl (2)))) (fa1 (tri_callI 17 3 anyv f_X12_in) (fa1 (tri_ifne 20 22) (fa1 (tri_push 21 (.inl (-1))) (fa1 (tri_iret) (fa1 (tri_aload 23 0) (fa1 (tri_callV 26 1 (rcv 12) f_X12_weighs) (fa1 (tri_push 27 (.inl 0)) (fa1 (tri_istore 28 3) (fa1 (tri_iload 29 3) (fa1 (tri_iload 30 2) (fa1 (tri_callI 33 1 anyv f_X12_worldsOf) (fa1 (tri_cmpge 36 67) (fa1 (tri_aload 37 0) (fa1 (tri_iload 38 2) (fa1 (tri_iload 39 3) (fa1 (tri_callI 42 3 (rcv 12) f_X12_isGood) (fa1 (tri_ifeq 45 61) (fa1 (tri_aload 46 0) (fa1 (tri_iload 47 2) (fa1 (tri_iload 48 3) (fa1 (tri_callV 51 3 (rcv 12) f_X12_world) (fa1 (tri_aload 52 0) (fa1 (tri_iload 53 1) (fa1 (tri_callI 56 2 (rcv 12) f_X12_holdsNow) (fa1 (tri_ifne 59 61) (fa1 (tri_iload 60 3) (fa1 (tri_iret) (fa1 (tri_iinc 64 3 (1)) (fa1 (tri_goto 28) (fa1 (tri_push 69 (.inl (-4))) (fa1 (tri_iret) (fa0))))))))))))))))))))))))))))))))))))))))
set_option maxRecDepth 100000 in
set_option maxHeartbeats 4000000 in
theorem ks_X12_denied (G : Wp) (l : Launch) : ∀ e ∈ k_X12_denied, Snd loR G l RX12 cX12_denied 4 (some .int) rm_X12_denied e.1 e.2 :=
  fa1 (s_aload_n (kf := 0) (j := 0) (by decide +kernel) rfl) <|
  fa1 (s_iload_n (kf := 1) (j := 1) (by decide +kernel) rfl) <|
  fa1 (s_vcallI (n := 1) (ci := 12) (C := RX12) (T := TX12) (NF := 83) (idx := 287) (y := yX12_isSaying) (by decide +kernel) (gg_X12_isSaying) rfl (by decide) yv_X12_isSaying (all5 w_1581 w_1583 w_56 w_113 w_1584) rfl rfl ⟨by decide, by decide⟩) <|
  fa1 (s_ifeq (off := 15) (by decide +kernel) (by decide)) <|
  fa1 (s_iload_n (kf := 2) (j := 2) (by decide +kernel) rfl) <|
  fa1 (s_i2l (by decide +kernel)) <|
  fa1 (s_lconst (n := 1) (v := 1) (by decide +kernel) (by decide +kernel) (p64 rfl)) <|
  fa1 (s_ldc2 (idx := 244) (v := 2) (by decide +kernel) w_1534 (p64 rfl)) <|
  fa1 (s_scallI (n := 3) (idx := 187) (y := yX12_in) (by decide +kernel) (gg_X12_in) yv_X12_in (all4 w_1498 w_1499 w_113 w_1500) rfl rfl ⟨by decide, by decide⟩) <|
  fa1 (s_ifne (off := 5) (by decide +kernel) (by decide)) <|
  fa1 (s_iconst (n := -1) (v := -1) (by decide +kernel) (by decide +kernel) (p32 rfl)) <|
  fa1 (s_iret (by decide +kernel) rfl) <|
  fa1 (s_aload_n (kf := 0) (j := 0) (by decide +kernel) rfl) <|
  fa1 (s_vcallV (n := 0) (ci := 12) (C := RX12) (T := TX12) (NF := 83) (idx := 444) (y := yX12_weighs) (by decide +kernel) (gg_X12_weighs) rfl (by decide) yv_X12_weighs (all5 w_1774 w_1776 w_86 w_113 w_1777) rfl rfl ⟨by decide, by decide⟩) <|
  fa1 (s_iconst (n := 0) (v := 0) (by decide +kernel) (by decide +kernel) (p32 rfl)) <|
  fa1 (s_istore_n (kf := 3) (j := 3) (by decide +kernel) rfl (by decide)) <|
  fa1 (s_iload_n (kf := 3) (j := 3) (by decide +kernel) rfl) <|
  fa1 (s_iload_n (kf := 2) (j := 2) (by decide +kernel) rfl) <|
  fa1 (s_scallI (n := 1) (idx := 432) (y := yX12_worldsOf) (by decide +kernel) (gg_X12_worldsOf) yv_X12_worldsOf (all4 w_1752 w_1753 w_113 w_1754) rfl rfl ⟨by decide, by decide⟩) <|
  fa1 (s_cmpge (off := 34) (by decide +kernel) (by decide)) <|
  fa1 (s_aload_n (kf := 0) (j := 0) (by decide +kernel) rfl) <|
  fa1 (s_iload_n (kf := 2) (j := 2) (by decide +kernel) rfl) <|
  fa1 (s_iload_n (kf := 3) (j := 3) (by decide +kernel) rfl) <|
  fa1 (s_vcallI (n := 2) (ci := 12) (C := RX12) (T := TX12) (NF := 83) (idx := 447) (y := yX12_isGood) (by decide +kernel) (gg_X12_isGood) rfl (by decide) yv_X12_isGood (all5 w_1782 w_1784 w_88 w_113 w_1785) rfl rfl ⟨by decide, by decide⟩) <|
  fa1 (s_ifeq (off := 19) (by decide +kernel) (by decide)) <|
  fa1 (s_aload_n (kf := 0) (j := 0) (by decide +kernel) rfl) <|
  fa1 (s_iload_n (kf := 2) (j := 2) (by decide +kernel) rfl) <|
  fa1 (s_iload_n (kf := 3) (j := 3) (by decide +kernel) rfl) <|
  fa1 (s_vcallV (n := 2) (ci := 12) (C := RX12) (T := TX12) (NF := 83) (idx := 435) (y := yX12_world) (by decide +kernel) (gg_X12_world) rfl (by decide) yv_X12_world (all5 w_1758 w_1760 w_83 w_113 w_1761) rfl rfl ⟨by decide, by decide⟩) <|
  fa1 (s_aload_n (kf := 0) (j := 0) (by decide +kernel) rfl) <|
  fa1 (s_iload_n (kf := 1) (j := 1) (by decide +kernel) rfl) <|
  fa1 (s_vcallI (n := 1) (ci := 12) (C := RX12) (T := TX12) (NF := 83) (idx := 438) (y := yX12_holdsNow) (by decide +kernel) (gg_X12_holdsNow) rfl (by decide) yv_X12_holdsNow (all5 w_1766 w_1768 w_85 w_113 w_1769) rfl rfl ⟨by decide, by decide⟩) <|
  fa1 (s_ifne (off := 5) (by decide +kernel) (by decide)) <|
  fa1 (s_iload_n (kf := 3) (j := 3) (by decide +kernel) rfl) <|
  fa1 (s_iret (by decide +kernel) rfl) <|
  fa1 (s_iinc (j := 3) (d := 1) (by decide +kernel) (by decide)) <|
  fa1 (s_goto (off := -36) (by decide +kernel) (by decide)) <|
  fa1 (s_bipush (n := -4) (v := -4) (by decide +kernel) (by decide +kernel) (p32 rfl)) <|
  fa1 (s_iret (by decide +kernel) rfl) <| fa0
theorem gg_X12_denied {G : Wp} {l : Launch} : GoodM loR G l yX12_denied cX12_denied 4 (some .int) rm_X12_denied f_X12_denied := met_of kt_X12_denied (lkp_snd (ks_X12_denied G l)) (by decide +kernel) rfl (by decide)
noncomputable def k_X12_builds : List (Nat × Ins) := [
  (0, i_aload 1 0),
  (1, i_getI 4 12 76),
  (4, i_push 7 (.inl 200)),
  (7, i_cmpge 10 20),
  (10, i_aload 11 0),
  (11, i_getR 14 12 20 (fun _ => 47)),
  (14, i_aload 15 0),
  (15, i_getI 18 12 76),
  (18, i_iload 19 1),
  (19, i_ast 20 20 lnR id),
  (20, i_aload 21 0),
  (21, i_dup 22),
  (22, i_getI 25 12 76),
  (25, i_push 26 (.inl 1)),
  (26, i_bin 27 (fun x y => wr (x + y))),
  (27, i_putI 30 12 76),
  (30, i_vret)]
noncomputable def kc_X12_builds : Nat → Option Ins := lkp k_X12_builds
noncomputable def f_X12_builds : List AV → Mem → Option Rs := den 2 kc_X12_builds
abbrev rm_X12_builds : Room := { frames := 0, cells := 0, slots := 0, locals := 0 }
set_option maxRecDepth 100000 in
theorem kt_X12_builds : TriC kc_X12_builds := lkp_tri (fa1 (tri_aload 1 0) (fa1 (tri_getI 4 12 76) (fa1 (tri_push 7 (.inl 200)) (fa1 (tri_cmpge 10 20) (fa1 (tri_aload 11 0) (fa1 (tri_getR 14 12 20 (fun _ => 47)) (fa1 (tri_aload 15 0) (fa1 (tri_getI 18 12 76) (fa1 (tri_iload 19 1) (fa1 (tri_ast 20 20 lnR id) (fa1 (tri_aload 21 0) (fa1 (tri_dup 22) (fa1 (tri_getI 25 12 76) (fa1 (tri_push 26 (.inl 1)) (fa1 (tri_bin 27 (fun x y => wr (x + y))) (fa1 (tri_putI 30 12 76) (fa1 (tri_vret) (fa0))))))))))))))))))
set_option maxRecDepth 100000 in
set_option maxHeartbeats 4000000 in
theorem ks_X12_builds (G : Wp) (l : Launch) : ∀ e ∈ k_X12_builds, Snd loR G l RX12 cX12_builds 2 none rm_X12_builds e.1 e.2 :=
  fa1 (s_aload_n (kf := 0) (j := 0) (by decide +kernel) rfl) <|
  fa1 (s_getI (ci := 12) (f := 76) (idx := 450) (C := RX12) (T := TX12) (NF := 83) (by decide +kernel) rfl (by decide) inG_X12 (by decide) w_1314 li_X12_76) <|
  fa1 (s_sipush (n := 200) (v := 200) (by decide +kernel) (by decide +kernel) (p32 rfl)) <|
  fa1 (s_cmpge (off := 13) (by decide +kernel) (by decide)) <|
  fa1 (s_aload_n (kf := 0) (j := 0) (by decide +kernel) rfl) <|
  fa1 (s_getR (t2 := 20) (g := (fun _ => 47)) (ci := 12) (f := 75) (idx := 153) (C := RX12) (T := TX12) (NF := 83) (by decide +kernel) rfl (by decide) inG_X12 (by decide) w_1313 lr_X12_75 (by decide)) <|
  fa1 (s_aload_n (kf := 0) (j := 0) (by decide +kernel) rfl) <|
  fa1 (s_getI (ci := 12) (f := 76) (idx := 450) (C := RX12) (T := TX12) (NF := 83) (by decide +kernel) rfl (by decide) inG_X12 (by decide) w_1314 li_X12_76) <|
  fa1 (s_iload_n (kf := 1) (j := 1) (by decide +kernel) rfl) <|
  fa1 (s_iast (by decide +kernel) lt_loR_20) <|
  fa1 (s_aload_n (kf := 0) (j := 0) (by decide +kernel) rfl) <|
  fa1 (s_dup (by decide +kernel)) <|
  fa1 (s_getI (ci := 12) (f := 76) (idx := 450) (C := RX12) (T := TX12) (NF := 83) (by decide +kernel) rfl (by decide) inG_X12 (by decide) w_1314 li_X12_76) <|
  fa1 (s_iconst (n := 1) (v := 1) (by decide +kernel) (by decide +kernel) (p32 rfl)) <|
  fa1 (s_iadd (by decide +kernel)) <|
  fa1 (s_putI (ci := 12) (f := 76) (idx := 450) (C := RX12) (T := TX12) (NF := 83) (by decide +kernel) rfl (by decide) inG_X12 (by decide) w_1314 tyX12 tyX12_ok nmX12 rfl (by decide +kernel) li_X12_76) <|
  fa1 (s_vret (by decide +kernel) rfl) <| fa0
theorem gg_X12_builds {G : Wp} {l : Launch} : GoodM loR G l yX12_builds cX12_builds 2 none rm_X12_builds f_X12_builds := met_of kt_X12_builds (lkp_snd (ks_X12_builds G l)) (by decide +kernel) rfl (by decide)
noncomputable def k_X12_firstWord : List (Nat × Ins) := [
  (0, i_push 1 (.inl 0)),
  (1, i_istore 2 1),
  (2, i_iload 3 1),
  (3, i_aload 4 0),
  (4, i_getI 7 12 74),
  (7, i_cmpge 10 40),
  (10, i_aload 11 0),
  (11, i_getR 14 12 20 (fun _ => 46)),
  (14, i_iload 15 1),
  (15, i_ald 16 20 lnR),
  (16, i_push 18 (.inl 12)),
  (18, i_cmpeq 21 34),
  (21, i_aload 22 0),
  (22, i_aload 23 0),
  (23, i_getR 26 12 20 (fun _ => 46)),
  (26, i_iload 27 1),
  (27, i_ald 28 20 lnR),
  (28, i_callI 31 2 (rcv 12) f_X12_has),
  (31, i_ifne 34 40),
  (34, i_iinc 37 1 (1)),
  (37, i_goto 2),
  (40, i_iload 41 1),
  (41, i_iret)]
noncomputable def kc_X12_firstWord : Nat → Option Ins := lkp k_X12_firstWord
noncomputable def f_X12_firstWord : List AV → Mem → Option Rs := den 2 kc_X12_firstWord
abbrev rm_X12_firstWord : Room := { frames := 2, cells := 0, slots := 0, locals := 45 }
set_option maxRecDepth 100000 in
theorem kt_X12_firstWord : TriC kc_X12_firstWord := lkp_tri (fa1 (tri_push 1 (.inl 0)) (fa1 (tri_istore 2 1) (fa1 (tri_iload 3 1) (fa1 (tri_aload 4 0) (fa1 (tri_getI 7 12 74) (fa1 (tri_cmpge 10 40) (fa1 (tri_aload 11 0) (fa1 (tri_getR 14 12 20 (fun _ => 46)) (fa1 (tri_iload 15 1) (fa1 (tri_ald 16 20 lnR) (fa1 (tri_push 18 (.inl 12)) (fa1 (tri_cmpeq 21 34) (fa1 (tri_aload 22 0) (fa1 (tri_aload 23 0) (fa1 (tri_getR 26 12 20 (fun _ => 46)) (fa1 (tri_iload 27 1) (fa1 (tri_ald 28 20 lnR) (fa1 (tri_callI 31 2 (rcv 12) f_X12_has) (fa1 (tri_ifne 34 40) (fa1 (tri_iinc 37 1 (1)) (fa1 (tri_goto 2) (fa1 (tri_iload 41 1) (fa1 (tri_iret) (fa0))))))))))))))))))))))))
set_option maxRecDepth 100000 in
set_option maxHeartbeats 4000000 in
theorem ks_X12_firstWord (G : Wp) (l : Launch) : ∀ e ∈ k_X12_firstWord, Snd loR G l RX12 cX12_firstWord 2 (some .int) rm_X12_firstWord e.1 e.2 :=
  fa1 (s_iconst (n := 0) (v := 0) (by decide +kernel) (by decide +kernel) (p32 rfl)) <|
  fa1 (s_istore_n (kf := 1) (j := 1) (by decide +kernel) rfl (by decide)) <|
  fa1 (s_iload_n (kf := 1) (j := 1) (by decide +kernel) rfl) <|
  fa1 (s_aload_n (kf := 0) (j := 0) (by decide +kernel) rfl) <|
  fa1 (s_getI (ci := 12) (f := 74) (idx := 453) (C := RX12) (T := TX12) (NF := 83) (by decide +kernel) rfl (by decide) inG_X12 (by decide) w_1312 li_X12_74) <|
  fa1 (s_cmpge (off := 33) (by decide +kernel) (by decide)) <|
  fa1 (s_aload_n (kf := 0) (j := 0) (by decide +kernel) rfl) <|
  fa1 (s_getR (t2 := 20) (g := (fun _ => 46)) (ci := 12) (f := 73) (idx := 150) (C := RX12) (T := TX12) (NF := 83) (by decide +kernel) rfl (by decide) inG_X12 (by decide) w_1311 lr_X12_73 (by decide)) <|
  fa1 (s_iload_n (kf := 1) (j := 1) (by decide +kernel) rfl) <|
  fa1 (s_iald (by decide +kernel)) <|
  fa1 (s_bipush (n := 12) (v := 12) (by decide +kernel) (by decide +kernel) (p32 rfl)) <|
  fa1 (s_cmpeq (off := 16) (by decide +kernel) (by decide)) <|
  fa1 (s_aload_n (kf := 0) (j := 0) (by decide +kernel) rfl) <|
  fa1 (s_aload_n (kf := 0) (j := 0) (by decide +kernel) rfl) <|
  fa1 (s_getR (t2 := 20) (g := (fun _ => 46)) (ci := 12) (f := 73) (idx := 150) (C := RX12) (T := TX12) (NF := 83) (by decide +kernel) rfl (by decide) inG_X12 (by decide) w_1311 lr_X12_73 (by decide)) <|
  fa1 (s_iload_n (kf := 1) (j := 1) (by decide +kernel) rfl) <|
  fa1 (s_iald (by decide +kernel)) <|
  fa1 (s_vcallI (n := 1) (ci := 12) (C := RX12) (T := TX12) (NF := 83) (idx := 181) (y := yX12_has) (by decide +kernel) (gg_X12_has) rfl (by decide) yv_X12_has (all5 w_1543 w_1545 w_51 w_113 w_1546) rfl rfl ⟨by decide, by decide⟩) <|
  fa1 (s_ifne (off := 9) (by decide +kernel) (by decide)) <|
  fa1 (s_iinc (j := 1) (d := 1) (by decide +kernel) (by decide)) <|
  fa1 (s_goto (off := -35) (by decide +kernel) (by decide)) <|
  fa1 (s_iload_n (kf := 1) (j := 1) (by decide +kernel) rfl) <|
  fa1 (s_iret (by decide +kernel) rfl) <| fa0
theorem gg_X12_firstWord {G : Wp} {l : Launch} : GoodM loR G l yX12_firstWord cX12_firstWord 2 (some .int) rm_X12_firstWord f_X12_firstWord := met_of kt_X12_firstWord (lkp_snd (ks_X12_firstWord G l)) (by decide +kernel) rfl (by decide)
