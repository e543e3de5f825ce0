noncomputable def k_X12_leansOf : List (Nat × Ins) := [
  (0, i_aload 1 0),
  (1, i_iload 2 1),
  (2, i_callI 5 2 (rcv 12) f_X12_usesOf),
  (5, i_istore 6 2),
  (6, i_push 7 (.inl 0)),
  (7, i_istore 8 3),
  (8, i_iload 9 3),
  (9, i_aload 10 0),
  (10, i_getI 13 12 5),
  (13, i_cmpge 16 63),
  (16, i_push 17 (.inl 0)),
  (17, i_istore 19 4),
  (19, i_iload 21 4),
  (21, i_aload 22 0),
  (22, i_getI 25 12 5),
  (25, i_cmpge 28 57),
  (28, i_iload 29 2),
  (29, i_iload 30 2),
  (30, i_iload 32 4),
  (32, i_bin 33 bShr),
  (33, i_push 34 (.inl 1)),
  (34, i_bin 35 bAnd),
  (35, i_push 36 (.inl 1)),
  (36, i_cmpne 39 48),
  (39, i_aload 40 0),
  (40, i_iload 42 4),
  (42, i_callI 45 2 (rcv 12) f_X12_usesOf),
  (45, i_goto 49),
  (48, i_push 49 (.inl 0)),
  (49, i_bin 50 bOr),
  (50, i_istore 51 2),
  (51, i_iinc 54 4 (1)),
  (54, i_goto 19),
  (57, i_iinc 60 3 (1)),
  (60, i_goto 8),
  (63, i_iload 64 2),
  (64, i_iret)]
noncomputable def kc_X12_leansOf : Nat → Option Ins := lkp k_X12_leansOf
noncomputable def f_X12_leansOf : List AV → Mem → Option Rs := den 5 kc_X12_leansOf
abbrev rm_X12_leansOf : Room := { frames := 1, cells := 0, slots := 0, locals := 23 }
set_option maxRecDepth 100000 in
theorem kt_X12_leansOf : TriC kc_X12_leansOf := lkp_tri (fa1 (tri_aload 1 0) (fa1 (tri_iload 2 1) (fa1 (tri_callI 5 2 (rcv 12) f_X12_usesOf) (fa1 (tri_istore 6 2) (fa1 (tri_push 7 (.inl 0)) (fa1 (tri_istore 8 3) (fa1 (tri_iload 9 3) (fa1 (tri_aload 10 0) (fa1 (tri_getI 13 12 5) (fa1 (tri_cmpge 16 63) (fa1 (tri_push 17 (.inl 0)) (fa1 (tri_istore 19 4) (fa1 (tri_iload 21 4) (fa1 (tri_aload 22 0) (fa1 (tri_getI 25 12 5) (fa1 (tri_cmpge 28 57) (fa1 (tri_iload 29 2) (fa1 (tri_iload 30 2) (fa1 (tri_iload 32 4) (fa1 (tri_bin 33 bShr) (fa1 (tri_push 34 (.inl 1)) (fa1 (tri_bin 35 bAnd) (fa1 (tri_push 36 (.inl 1)) (fa1 (tri_cmpne 39 48) (fa1 (tri_aload 40 0) (fa1 (tri_iload 42 4) (fa1 (tri_callI 45 2 (rcv 12) f_X12_usesOf) (fa1 (tri_goto 49) (fa1 (tri_push 49 (.inl 0)) (fa1 (tri_bin 50 bOr) (fa1 (tri_istore 51 2) (fa1 (tri_iinc 54 4 (1)) (fa1 (tri_goto 19) (fa1 (tri_iinc 60 3 (1)) (fa1 (tri_goto 8) (fa1 (tri_iload 64 2) (fa1 (tri_iret) (fa0))))))))))))))))))))))))))))))))))))))
set_option maxRecDepth 100000 in
set_option maxHeartbeats 4000000 in
theorem ks_X12_leansOf (G : Wp) (l : Launch) : ∀ e ∈ k_X12_leansOf, Snd loR G l RX12 cX12_leansOf 5 (some .int) rm_X12_leansOf e.1 e.2 :=
  fa1 (s_aload_n (kf := 0) (j := 0) (by decide +kernel) rfl) <|
  fa1 (s_iload_n (kf := 1) (j := 1) (by decide +kernel) rfl) <|
  fa1 (s_vcallI (n := 1) (ci := 12) (C := RX12) (T := TX12) (NF := 83) (idx := 355) (y := yX12_usesOf) (by decide +kernel) (gg_X12_usesOf) rfl (by decide) yv_X12_usesOf (all5 w_1590 w_1592 w_58 w_113 w_1593) rfl rfl ⟨by decide, by decide⟩) <|
  fa1 (s_istore_n (kf := 2) (j := 2) (by decide +kernel) rfl (by decide)) <|
  fa1 (s_iconst (n := 0) (v := 0) (by decide +kernel) (by decide +kernel) (p32 rfl)) <|
  fa1 (s_istore_n (kf := 3) (j := 3) (by decide +kernel) rfl (by decide)) <|
  fa1 (s_iload_n (kf := 3) (j := 3) (by decide +kernel) rfl) <|
  fa1 (s_aload_n (kf := 0) (j := 0) (by decide +kernel) rfl) <|
  fa1 (s_getI (ci := 12) (f := 5) (idx := 184) (C := RX12) (T := TX12) (NF := 83) (by decide +kernel) rfl (by decide) inG_X12 (by decide) w_1243 li_X12_5) <|
  fa1 (s_cmpge (off := 50) (by decide +kernel) (by decide)) <|
  fa1 (s_iconst (n := 0) (v := 0) (by decide +kernel) (by decide +kernel) (p32 rfl)) <|
  fa1 (s_istore (j := 4) (by decide +kernel) (by decide)) <|
  fa1 (s_iload (j := 4) (by decide +kernel)) <|
  fa1 (s_aload_n (kf := 0) (j := 0) (by decide +kernel) rfl) <|
  fa1 (s_getI (ci := 12) (f := 5) (idx := 184) (C := RX12) (T := TX12) (NF := 83) (by decide +kernel) rfl (by decide) inG_X12 (by decide) w_1243 li_X12_5) <|
  fa1 (s_cmpge (off := 32) (by decide +kernel) (by decide)) <|
  fa1 (s_iload_n (kf := 2) (j := 2) (by decide +kernel) rfl) <|
  fa1 (s_iload_n (kf := 2) (j := 2) (by decide +kernel) rfl) <|
  fa1 (s_iload (j := 4) (by decide +kernel)) <|
  fa1 (s_ishr (by decide +kernel)) <|
  fa1 (s_iconst (n := 1) (v := 1) (by decide +kernel) (by decide +kernel) (p32 rfl)) <|
  fa1 (s_iand (by decide +kernel)) <|
  fa1 (s_iconst (n := 1) (v := 1) (by decide +kernel) (by decide +kernel) (p32 rfl)) <|
  fa1 (s_cmpne (off := 12) (by decide +kernel) (by decide)) <|
  fa1 (s_aload_n (kf := 0) (j := 0) (by decide +kernel) rfl) <|
  fa1 (s_iload (j := 4) (by decide +kernel)) <|
  fa1 (s_vcallI (n := 1) (ci := 12) (C := RX12) (T := TX12) (NF := 83) (idx := 355) (y := yX12_usesOf) (by decide +kernel) (gg_X12_usesOf) rfl (by decide) yv_X12_usesOf (all5 w_1590 w_1592 w_58 w_113 w_1593) rfl rfl ⟨by decide, by decide⟩) <|
  fa1 (s_goto (off := 4) (by decide +kernel) (by decide)) <|
  fa1 (s_iconst (n := 0) (v := 0) (by decide +kernel) (by decide +kernel) (p32 rfl)) <|
  fa1 (s_ior (by decide +kernel)) <|
  fa1 (s_istore_n (kf := 2) (j := 2) (by decide +kernel) rfl (by decide)) <|
  fa1 (s_iinc (j := 4) (d := 1) (by decide +kernel) (by decide)) <|
  fa1 (s_goto (off := -35) (by decide +kernel) (by decide)) <|
  fa1 (s_iinc (j := 3) (d := 1) (by decide +kernel) (by decide)) <|
  fa1 (s_goto (off := -52) (by decide +kernel) (by decide)) <|
  fa1 (s_iload_n (kf := 2) (j := 2) (by decide +kernel) rfl) <|
  fa1 (s_iret (by decide +kernel) rfl) <| fa0
theorem gg_X12_leansOf {G : Wp} {l : Launch} : GoodM loR G l yX12_leansOf cX12_leansOf 5 (some .int) rm_X12_leansOf f_X12_leansOf := met_of kt_X12_leansOf (lkp_snd (ks_X12_leansOf G l)) (by decide +kernel) rfl (by decide)
noncomputable def k_X12_leaning : List (Nat × Ins) := [
  (0, i_push 1 (.inl 0)),
  (1, i_istore 2 2),
  (2, i_push 3 (.inl 0)),
  (3, i_istore 4 3),
  (4, i_iload 5 3),
  (5, i_aload 6 0),
  (6, i_getI 9 12 5),
  (9, i_cmpge 12 41),
  (12, i_iload 13 2),
  (13, i_aload 14 0),
  (14, i_iload 15 3),
  (15, i_callI 18 2 (rcv 12) f_X12_leansOf),
  (18, i_iload 19 1),
  (19, i_bin 20 bShr),
  (20, i_push 21 (.inl 1)),
  (21, i_bin 22 bAnd),
  (22, i_push 23 (.inl 1)),
  (23, i_cmpne 26 32),
  (26, i_push 27 (.inl 1)),
  (27, i_iload 28 3),
  (28, i_bin 29 bShl),
  (29, i_goto 33),
  (32, i_push 33 (.inl 0)),
  (33, i_bin 34 bOr),
  (34, i_istore 35 2),
  (35, i_iinc 38 3 (1)),
  (38, i_goto 4),
  (41, i_iload 42 2),
  (42, i_iret)]
noncomputable def kc_X12_leaning : Nat → Option Ins := lkp k_X12_leaning
noncomputable def f_X12_leaning : List AV → Mem → Option Rs := den 4 kc_X12_leaning
abbrev rm_X12_leaning : Room := { frames := 2, cells := 0, slots := 0, locals := 47 }
set_option maxRecDepth 100000 in
theorem kt_X12_leaning : TriC kc_X12_leaning := lkp_tri (fa1 (tri_push 1 (.inl 0)) (fa1 (tri_istore 2 2) (fa1 (tri_push 3 (.inl 0)) (fa1 (tri_istore 4 3) (fa1 (tri_iload 5 3) (fa1 (tri_aload 6 0) (fa1 (tri_getI 9 12 5) (fa1 (tri_cmpge 12 41) (fa1 (tri_iload 13 2) (fa1 (tri_aload 14 0) (fa1 (tri_iload 15 3) (fa1 (tri_callI 18 2 (rcv 12) f_X12_leansOf) (fa1 (tri_iload 19 1) (fa1 (tri_bin 20 bShr) (fa1 (tri_push 21 (.inl 1)) (fa1 (tri_bin 22 bAnd) (fa1 (tri_push 23 (.inl 1)) (fa1 (tri_cmpne 26 32) (fa1 (tri_push 27 (.inl 1)) (fa1 (tri_iload 28 3) (fa1 (tri_bin 29 bShl) (fa1 (tri_goto 33) (fa1 (tri_push 33 (.inl 0)) (fa1 (tri_bin 34 bOr) (fa1 (tri_istore 35 2) (fa1 (tri_iinc 38 3 (1)) (fa1 (tri_goto 4) (fa1 (tri_iload 42 2) (fa1 (tri_iret) (fa0))))))))))))))))))))))))))))))
set_option maxRecDepth 100000 in
set_option maxHeartbeats 4000000 in
theorem ks_X12_leaning (G : Wp) (l : Launch) : ∀ e ∈ k_X12_leaning, Snd loR G l RX12 cX12_leaning 4 (some .int) rm_X12_leaning e.1 e.2 :=
  fa1 (s_iconst (n := 0) (v := 0) (by decide +kernel) (by decide +kernel) (p32 rfl)) <|
  fa1 (s_istore_n (kf := 2) (j := 2) (by decide +kernel) rfl (by decide)) <|
  fa1 (s_iconst (n := 0) (v := 0) (by decide +kernel) (by decide +kernel) (p32 rfl)) <|
  fa1 (s_istore_n (kf := 3) (j := 3) (by decide +kernel) rfl (by decide)) <|
  fa1 (s_iload_n (kf := 3) (j := 3) (by decide +kernel) rfl) <|
  fa1 (s_aload_n (kf := 0) (j := 0) (by decide +kernel) rfl) <|
  fa1 (s_getI (ci := 12) (f := 5) (idx := 184) (C := RX12) (T := TX12) (NF := 83) (by decide +kernel) rfl (by decide) inG_X12 (by decide) w_1243 li_X12_5) <|
  fa1 (s_cmpge (off := 32) (by decide +kernel) (by decide)) <|
  fa1 (s_iload_n (kf := 2) (j := 2) (by decide +kernel) rfl) <|
  fa1 (s_aload_n (kf := 0) (j := 0) (by decide +kernel) rfl) <|
  fa1 (s_iload_n (kf := 3) (j := 3) (by decide +kernel) rfl) <|
  fa1 (s_vcallI (n := 1) (ci := 12) (C := RX12) (T := TX12) (NF := 83) (idx := 293) (y := yX12_leansOf) (by decide +kernel) (gg_X12_leansOf) rfl (by decide) yv_X12_leansOf (all5 w_1586 w_1588 w_57 w_113 w_1589) rfl rfl ⟨by decide, by decide⟩) <|
  fa1 (s_iload_n (kf := 1) (j := 1) (by decide +kernel) rfl) <|
  fa1 (s_ishr (by decide +kernel)) <|
  fa1 (s_iconst (n := 1) (v := 1) (by decide +kernel) (by decide +kernel) (p32 rfl)) <|
  fa1 (s_iand (by decide +kernel)) <|
  fa1 (s_iconst (n := 1) (v := 1) (by decide +kernel) (by decide +kernel) (p32 rfl)) <|
  fa1 (s_cmpne (off := 9) (by decide +kernel) (by decide)) <|
  fa1 (s_iconst (n := 1) (v := 1) (by decide +kernel) (by decide +kernel) (p32 rfl)) <|
  fa1 (s_iload_n (kf := 3) (j := 3) (by decide +kernel) rfl) <|
  fa1 (s_ishl (by decide +kernel)) <|
  fa1 (s_goto (off := 4) (by decide +kernel) (by decide)) <|
  fa1 (s_iconst (n := 0) (v := 0) (by decide +kernel) (by decide +kernel) (p32 rfl)) <|
  fa1 (s_ior (by decide +kernel)) <|
  fa1 (s_istore_n (kf := 2) (j := 2) (by decide +kernel) rfl (by decide)) <|
  fa1 (s_iinc (j := 3) (d := 1) (by decide +kernel) (by decide)) <|
  fa1 (s_goto (off := -34) (by decide +kernel) (by decide)) <|
  fa1 (s_iload_n (kf := 2) (j := 2) (by decide +kernel) rfl) <|
  fa1 (s_iret (by decide +kernel) rfl) <| fa0
theorem gg_X12_leaning {G : Wp} {l : Launch} : GoodM loR G l yX12_leaning cX12_leaning 4 (some .int) rm_X12_leaning f_X12_leaning := met_of kt_X12_leaning (lkp_snd (ks_X12_leaning G l)) (by decide +kernel) rfl (by decide)
noncomputable def k_X12_of : List (Nat × Ins) := [
  (0, i_aload 1 0),
  (1, i_iload 2 1),
  (2, i_callI 5 2 (rcv 12) f_X12_isSaying),
  (5, i_ifeq 8 20),
  (8, i_iload 9 2),
  (9, i_i2l 10),
  (10, i_push 11 (.inr (.inl 0))),
  (11, i_push 14 (.inr (.inl (8)))),
  (14, i_callI 17 3 anyv f_X12_in),
  (17, i_ifne 20 22),
  (20, i_push 21 (.inl (-1))),
  (21, i_iret),
  (22, i_iload 23 2),
  (23, i_switch 163 (0) [68, 75, 82, 89, 98, 109, 132, 154]),
  (68, i_aload 69 0),
  (69, i_getR 72 12 20 (fun _ => 7)),
  (72, i_iload 73 1),
  (73, i_ald 74 20 lnR),
  (74, i_iret),
  (75, i_aload 76 0),
  (76, i_getR 79 12 20 (fun _ => 8)),
  (79, i_iload 80 1),
  (80, i_ald 81 20 lnR),
  (81, i_iret),
  (82, i_aload 83 0),
  (83, i_getR 86 12 20 (fun _ => 9)),
  (86, i_iload 87 1),
  (87, i_ald 88 20 lnR),
  (88, i_iret),
  (89, i_aload 90 0),
  (90, i_getR 93 12 20 (fun _ => 6)),
  (93, i_push 94 (.inl 2)),
  (94, i_iload 95 1),
  (95, i_bin 96 (fun x y => wr (x * y))),
  (96, i_ald 97 20 lnR),
  (97, i_iret),
  (98, i_aload 99 0),
  (99, i_getR 102 12 20 (fun _ => 6)),
  (102, i_push 103 (.inl 2)),
  (103, i_iload 104 1),
  (104, i_bin 105 (fun x y => wr (x * y))),
  (105, i_push 106 (.inl 1)),
  (106, i_bin 107 (fun x y => wr (x + y))),
  (107, i_ald 108 20 lnR),
  (108, i_iret),
  (109, i_aload 110 0),
  (110, i_getR 113 12 20 (fun _ => 10)),
  (113, i_iload 114 1),
  (114, i_ald 115 20 lnR),
  (115, i_push 117 (.inl (-4))),
  (117, i_cmpne 120 125),
  (120, i_push 122 (.inl (-4))),
  (122, i_goto 131),
  (125, i_aload 126 0),
  (126, i_getR 129 12 20 (fun _ => 11)),
  (129, i_iload 130 1),
  (130, i_ald 131 20 lnR),
  (131, i_iret),
  (132, i_aload 133 0),
  (133, i_getR 136 12 20 (fun _ => 7)),
  (136, i_iload 137 1),
  (137, i_ald 138 20 lnR),
  (138, i_push 139 (.inl 3)),
  (139, i_cmpne 142 151),
  (142, i_aload 143 0),
  (143, i_getR 146 12 20 (fun _ => 12)),
  (146, i_iload 147 1),
  (147, i_ald 148 20 lnR),
  (148, i_goto 153),
  (151, i_push 153 (.inl (-4))),
  (153, i_iret),
  (154, i_aload 155 0),
  (155, i_iload 156 1),
  (156, i_callI 159 2 (rcv 12) f_X12_leansOf),
  (159, i_callI 162 1 anyv f_X12_bits),
  (162, i_iret),
  (163, i_aload 164 0),
  (164, i_iload 165 1),
  (165, i_callI 168 2 (rcv 12) f_X12_leaning),
  (168, i_callI 171 1 anyv f_X12_bits),
  (171, i_iret)]
noncomputable def kc_X12_of : Nat → Option Ins := lkp k_X12_of
noncomputable def f_X12_of : List AV → Mem → Option Rs := den 3 kc_X12_of
abbrev rm_X12_of : Room := { frames := 3, cells := 0, slots := 0, locals := 70 }
set_option maxRecDepth 100000 in
theorem kt_X12_of : TriC kc_X12_of := lkp_tri (fa1 (tri_aload 1 0) (fa1 (tri_iload 2 1) (fa1 (tri_callI 5 2 (rcv 12) f_X12_isSaying) (fa1 (tri_ifeq 8 20) (fa1 (tri_iload 9 2) (fa1 (tri_i2l 10) (fa1 (tri_push 11 (.inr (.inl 0))) (fa1 (tri_push 14 (.inr (.inl (8)))) (fa1 (tri_callI 17 3 anyv f_X12_in) (fa1 (tri_ifne 20 22) (fa1 (tri_push 21 (.inl (-1))) (fa1 (tri_iret) (fa1 (tri_iload 23 2) (fa1 (tri_switch 163 (0) [68, 75, 82, 89, 98, 109, 132, 154]) (fa1 (tri_aload 69 0) (fa1 (tri_getR 72 12 20 (fun _ => 7)) (fa1 (tri_iload 73 1) (fa1 (tri_ald 74 20 lnR) (fa1 (tri_iret) (fa1 (tri_aload 76 0) (fa1 (tri_getR 79 12 20 (fun _ => 8)) (fa1 (tri_iload 80 1) (fa1 (tri_ald 81 20 lnR) (fa1 (tri_iret) (fa1 (tri_aload 83 0) (fa1 (tri_getR 86 12 20 (fun _ => 9)) (fa1 (tri_iload 87 1) (fa1 (tri_ald 88 20 lnR) (fa1 (tri_iret) (fa1 (tri_aload 90 0) (fa1 (tri_getR 93 12 20 (fun _ => 6)) (fa1 (tri_push 94 (.inl 2)) (fa1 (tri_iload 95 1) (fa1 (tri_bin 96 (fun x y => wr (x * y))) (fa1 (tri_ald 97 20 lnR) (fa1 (tri_iret) (fa1 (tri_aload 99 0) (fa1 (tri_getR 102 12 20 (fun _ => 6)) (fa1 (tri_push 103 (.inl 2)) (fa1 (tri_iload 104 1) (fa1 (tri_bin 105 (fun x y => wr (x * y))) (fa1 (tri_push 106 (.inl 1)) (fa1 (tri_bin 107 (fun x y => wr (x + y))) (fa1 (tri_ald 108 20 lnR) (fa1 (tri_iret) (fa1 (tri_aload 110 0) (fa1 (tri_getR 113 12 20 (fun _ => 10)) (fa1 (tri_iload 114 1) (fa1 (tri_ald 115 20 lnR) (fa1 (tri_push 117 (.inl (-4))) (fa1 (tri_cmpne 120 125) (fa1 (tri_push 122 (.inl (-4))) (fa1 (tri_goto 131) (fa1 (tri_aload 126 0) (fa1 (tri_getR 129 12 20 (fun _ => 11)) (fa1 (tri_iload 130 1) (fa1 (tri_ald 131 20 lnR) (fa1 (tri_iret) (fa1 (tri_aload 133 0) (fa1 (tri_getR 136 12 20 (fun _ => 7)) (fa1 (tri_iload 137 1) (fa1 (tri_ald 138 20 lnR) (fa1 (tri_push 139 (.inl 3)) (fa1 (tri_cmpne 142 151) (fa1 (tri_aload 143 0) (fa1 (tri_getR 146 12 20 (fun _ => 12)) (fa1 (tri_iload 147 1) (fa1 (tri_ald 148 20 lnR) (fa1 (tri_goto 153) (fa1 (tri_push 153 (.inl (-4))) (fa1 (tri_iret) (fa1 (tri_aload 155 0) (fa1 (tri_iload 156 1) (fa1 (tri_callI 159 2 (rcv 12) f_X12_leansOf) (fa1 (tri_callI 162 1 anyv f_X12_bits) (fa1 (tri_iret) (fa1 (tri_aload 164 0) (fa1 (tri_iload 165 1) (fa1 (tri_callI 168 2 (rcv 12) f_X12_leaning) (fa1 (tri_callI 171 1 anyv f_X12_bits) (fa1 (tri_iret) (fa0))))))))))))))))))))))))))))))))))))))))))))))))))))))))))))))))))))))))))))))))))
set_option maxRecDepth 100000 in
set_option maxHeartbeats 4000000 in
theorem ks_X12_of (G : Wp) (l : Launch) : ∀ e ∈ k_X12_of, Snd loR G l RX12 cX12_of 3 (some .int) rm_X12_of e.1 e.2 :=
  fa1 (s_aload_n (kf := 0) (j := 0) (by decide +kernel) rfl) <|
  fa1 (s_iload_n (kf := 1) (j := 1) (by decide +kernel) rfl) <|
  fa1 (s_vcallI (n := 1) (ci := 12) (C := RX12) (T := TX12) (NF := 83) (idx := 287) (y := yX12_isSaying) (by decide +kernel) (gg_X12_isSaying) rfl (by decide) yv_X12_isSaying (all5 w_1581 w_1583 w_56 w_113 w_1584) rfl rfl ⟨by decide, by decide⟩) <|
  fa1 (s_ifeq (off := 15) (by decide +kernel) (by decide)) <|
  fa1 (s_iload_n (kf := 2) (j := 2) (by decide +kernel) rfl) <|
  fa1 (s_i2l (by decide +kernel)) <|
  fa1 (s_lconst (n := 0) (v := 0) (by decide +kernel) (by decide +kernel) (p64 rfl)) <|
  fa1 (s_ldc2 (idx := 291) (v := 8) (by decide +kernel) w_1585 (p64 rfl)) <|
  fa1 (s_scallI (n := 3) (idx := 187) (y := yX12_in) (by decide +kernel) (gg_X12_in) yv_X12_in (all4 w_1498 w_1499 w_113 w_1500) rfl rfl ⟨by decide, by decide⟩) <|
  fa1 (s_ifne (off := 5) (by decide +kernel) (by decide)) <|
  fa1 (s_iconst (n := -1) (v := -1) (by decide +kernel) (by decide +kernel) (p32 rfl)) <|
  fa1 (s_iret (by decide +kernel) rfl) <|
  fa1 (s_iload_n (kf := 2) (j := 2) (by decide +kernel) rfl) <|
  fa1 (s_switch (dflt := 140) (lo := 0) (hhi := 7) (offs := #[45, 52, 59, 66, 75, 86, 109, 131]) (len := 45) (by decide +kernel) (by decide) (by decide +kernel) (by decide)) <|
  fa1 (s_aload_n (kf := 0) (j := 0) (by decide +kernel) rfl) <|
  fa1 (s_getR (t2 := 20) (g := (fun _ => 7)) (ci := 12) (f := 8) (idx := 28) (C := RX12) (T := TX12) (NF := 83) (by decide +kernel) rfl (by decide) inG_X12 (by decide) w_1246 lr_X12_8 (by decide)) <|
  fa1 (s_iload_n (kf := 1) (j := 1) (by decide +kernel) rfl) <|
  fa1 (s_iald (by decide +kernel)) <|
  fa1 (s_iret (by decide +kernel) rfl) <|
  fa1 (s_aload_n (kf := 0) (j := 0) (by decide +kernel) rfl) <|
  fa1 (s_getR (t2 := 20) (g := (fun _ => 8)) (ci := 12) (f := 9) (idx := 31) (C := RX12) (T := TX12) (NF := 83) (by decide +kernel) rfl (by decide) inG_X12 (by decide) w_1247 lr_X12_9 (by decide)) <|
  fa1 (s_iload_n (kf := 1) (j := 1) (by decide +kernel) rfl) <|
  fa1 (s_iald (by decide +kernel)) <|
  fa1 (s_iret (by decide +kernel) rfl) <|
  fa1 (s_aload_n (kf := 0) (j := 0) (by decide +kernel) rfl) <|
  fa1 (s_getR (t2 := 20) (g := (fun _ => 9)) (ci := 12) (f := 10) (idx := 34) (C := RX12) (T := TX12) (NF := 83) (by decide +kernel) rfl (by decide) inG_X12 (by decide) w_1248 lr_X12_10 (by decide)) <|
  fa1 (s_iload_n (kf := 1) (j := 1) (by decide +kernel) rfl) <|
  fa1 (s_iald (by decide +kernel)) <|
  fa1 (s_iret (by decide +kernel) rfl) <|
  fa1 (s_aload_n (kf := 0) (j := 0) (by decide +kernel) rfl) <|
  fa1 (s_getR (t2 := 20) (g := (fun _ => 6)) (ci := 12) (f := 7) (idx := 25) (C := RX12) (T := TX12) (NF := 83) (by decide +kernel) rfl (by decide) inG_X12 (by decide) w_1245 lr_X12_7 (by decide)) <|
  fa1 (s_iconst (n := 2) (v := 2) (by decide +kernel) (by decide +kernel) (p32 rfl)) <|
  fa1 (s_iload_n (kf := 1) (j := 1) (by decide +kernel) rfl) <|
  fa1 (s_imul (by decide +kernel)) <|
  fa1 (s_iald (by decide +kernel)) <|
  fa1 (s_iret (by decide +kernel) rfl) <|
  fa1 (s_aload_n (kf := 0) (j := 0) (by decide +kernel) rfl) <|
  fa1 (s_getR (t2 := 20) (g := (fun _ => 6)) (ci := 12) (f := 7) (idx := 25) (C := RX12) (T := TX12) (NF := 83) (by decide +kernel) rfl (by decide) inG_X12 (by decide) w_1245 lr_X12_7 (by decide)) <|
  fa1 (s_iconst (n := 2) (v := 2) (by decide +kernel) (by decide +kernel) (p32 rfl)) <|
  fa1 (s_iload_n (kf := 1) (j := 1) (by decide +kernel) rfl) <|
  fa1 (s_imul (by decide +kernel)) <|
  fa1 (s_iconst (n := 1) (v := 1) (by decide +kernel) (by decide +kernel) (p32 rfl)) <|
  fa1 (s_iadd (by decide +kernel)) <|
  fa1 (s_iald (by decide +kernel)) <|
  fa1 (s_iret (by decide +kernel) rfl) <|
  fa1 (s_aload_n (kf := 0) (j := 0) (by decide +kernel) rfl) <|
  fa1 (s_getR (t2 := 20) (g := (fun _ => 10)) (ci := 12) (f := 11) (idx := 37) (C := RX12) (T := TX12) (NF := 83) (by decide +kernel) rfl (by decide) inG_X12 (by decide) w_1249 lr_X12_11 (by decide)) <|
  fa1 (s_iload_n (kf := 1) (j := 1) (by decide +kernel) rfl) <|
  fa1 (s_iald (by decide +kernel)) <|
  fa1 (s_bipush (n := -4) (v := -4) (by decide +kernel) (by decide +kernel) (p32 rfl)) <|
  fa1 (s_cmpne (off := 8) (by decide +kernel) (by decide)) <|
  fa1 (s_bipush (n := -4) (v := -4) (by decide +kernel) (by decide +kernel) (p32 rfl)) <|
  fa1 (s_goto (off := 9) (by decide +kernel) (by decide)) <|
  fa1 (s_aload_n (kf := 0) (j := 0) (by decide +kernel) rfl) <|
  fa1 (s_getR (t2 := 20) (g := (fun _ => 11)) (ci := 12) (f := 12) (idx := 40) (C := RX12) (T := TX12) (NF := 83) (by decide +kernel) rfl (by decide) inG_X12 (by decide) w_1250 lr_X12_12 (by decide)) <|
  fa1 (s_iload_n (kf := 1) (j := 1) (by decide +kernel) rfl) <|
  fa1 (s_iald (by decide +kernel)) <|
  fa1 (s_iret (by decide +kernel) rfl) <|
  fa1 (s_aload_n (kf := 0) (j := 0) (by decide +kernel) rfl) <|
  fa1 (s_getR (t2 := 20) (g := (fun _ => 7)) (ci := 12) (f := 8) (idx := 28) (C := RX12) (T := TX12) (NF := 83) (by decide +kernel) rfl (by decide) inG_X12 (by decide) w_1246 lr_X12_8 (by decide)) <|
  fa1 (s_iload_n (kf := 1) (j := 1) (by decide +kernel) rfl) <|
  fa1 (s_iald (by decide +kernel)) <|
  fa1 (s_iconst (n := 3) (v := 3) (by decide +kernel) (by decide +kernel) (p32 rfl)) <|
  fa1 (s_cmpne (off := 12) (by decide +kernel) (by decide)) <|
  fa1 (s_aload_n (kf := 0) (j := 0) (by decide +kernel) rfl) <|
  fa1 (s_getR (t2 := 20) (g := (fun _ => 12)) (ci := 12) (f := 13) (idx := 43) (C := RX12) (T := TX12) (NF := 83) (by decide +kernel) rfl (by decide) inG_X12 (by decide) w_1251 lr_X12_13 (by decide)) <|
  fa1 (s_iload_n (kf := 1) (j := 1) (by decide +kernel) rfl) <|
  fa1 (s_iald (by decide +kernel)) <|
  fa1 (s_goto (off := 5) (by decide +kernel) (by decide)) <|
  fa1 (s_bipush (n := -4) (v := -4) (by decide +kernel) (by decide +kernel) (p32 rfl)) <|
  fa1 (s_iret (by decide +kernel) rfl) <|
  fa1 (s_aload_n (kf := 0) (j := 0) (by decide +kernel) rfl) <|
  fa1 (s_iload_n (kf := 1) (j := 1) (by decide +kernel) rfl) <|
  fa1 (s_vcallI (n := 1) (ci := 12) (C := RX12) (T := TX12) (NF := 83) (idx := 293) (y := yX12_leansOf) (by decide +kernel) (gg_X12_leansOf) rfl (by decide) yv_X12_leansOf (all5 w_1586 w_1588 w_57 w_113 w_1589) rfl rfl ⟨by decide, by decide⟩) <|
  fa1 (s_scallI (n := 1) (idx := 296) (y := yX12_bits) (by decide +kernel) (gg_X12_bits) yv_X12_bits (all4 w_1594 w_1595 w_113 w_1596) rfl rfl ⟨by decide, by decide⟩) <|
  fa1 (s_iret (by decide +kernel) rfl) <|
  fa1 (s_aload_n (kf := 0) (j := 0) (by decide +kernel) rfl) <|
  fa1 (s_iload_n (kf := 1) (j := 1) (by decide +kernel) rfl) <|
  fa1 (s_vcallI (n := 1) (ci := 12) (C := RX12) (T := TX12) (NF := 83) (idx := 299) (y := yX12_leaning) (by decide +kernel) (gg_X12_leaning) rfl (by decide) yv_X12_leaning (all5 w_1597 w_1599 w_59 w_113 w_1600) rfl rfl ⟨by decide, by decide⟩) <|
  fa1 (s_scallI (n := 1) (idx := 296) (y := yX12_bits) (by decide +kernel) (gg_X12_bits) yv_X12_bits (all4 w_1594 w_1595 w_113 w_1596) rfl rfl ⟨by decide, by decide⟩) <|
  fa1 (s_iret (by decide +kernel) rfl) <| fa0
theorem gg_X12_of {G : Wp} {l : Launch} : GoodM loR G l yX12_of cX12_of 3 (some .int) rm_X12_of f_X12_of := met_of kt_X12_of (lkp_snd (ks_X12_of G l)) (by decide +kernel) rfl (by decide)
noncomputable def k_X12_sign : List (Nat × Ins) := [
  (0, i_aload 1 0),
  (1, i_iload 2 1),
  (2, i_callI 5 2 (rcv 12) f_X12_isSaying),
  (5, i_ifeq 8 22),
  (8, i_iload 9 2),
  (9, i_i2l 10),
  (10, i_push 11 (.inr (.inl 0))),
  (11, i_push 12 (.inr (.inl 1))),
  (12, i_callI 15 3 anyv f_X12_in),
  (15, i_ifeq 18 22),
  (18, i_iload 19 3),
  (19, i_ifge 22 24),
  (22, i_push 23 (.inl (-1))),
  (23, i_iret),
  (24, i_iload 25 3),
  (25, i_aload 26 0),
  (26, i_getR 29 12 20 (fun _ => 6)),
  (29, i_push 30 (.inl 2)),
  (30, i_iload 31 1),
  (31, i_bin 32 (fun x y => wr (x * y))),
  (32, i_iload 33 2),
  (33, i_bin 34 (fun x y => wr (x + y))),
  (34, i_ald 35 20 lnR),
  (35, i_cmpge 38 57),
  (38, i_aload 39 0),
  (39, i_getR 42 12 20 (fun _ => 5)),
  (42, i_push 44 (.inl 40)),
  (44, i_iload 45 1),
  (45, i_bin 46 (fun x y => wr (x * y))),
  (46, i_push 48 (.inl 20)),
  (48, i_iload 49 2),
  (49, i_bin 50 (fun x y => wr (x * y))),
  (50, i_bin 51 (fun x y => wr (x + y))),
  (51, i_iload 52 3),
  (52, i_bin 53 (fun x y => wr (x + y))),
  (53, i_ald 54 20 lnR),
  (54, i_goto 59),
  (57, i_push 59 (.inl (-4))),
  (59, i_iret)]
noncomputable def kc_X12_sign : Nat → Option Ins := lkp k_X12_sign
noncomputable def f_X12_sign : List AV → Mem → Option Rs := den 4 kc_X12_sign
abbrev rm_X12_sign : Room := { frames := 2, cells := 0, slots := 0, locals := 46 }
set_option maxRecDepth 100000 in
theorem kt_X12_sign : TriC kc_X12_sign := lkp_tri (fa1 (tri_aload 1 0) (fa1 (tri_iload 2 1) (fa1 (tri_callI 5 2 (rcv 12) f_X12_isSaying) (fa1 (tri_ifeq 8 22) (fa1 (tri_iload 9 2) (fa1 (tri_i2l 10) (fa1 (tri_push 11 (.inr (.inl 0))) (fa1 (tri_push 12 (.inr (.inl 1))) (fa1 (tri_callI 15 3 anyv f_X12_in) (fa1 (tri_ifeq 18 22) (fa1 (tri_iload 19 3) (fa1 (tri_ifge 22 24) (fa1 (tri_push 23 (.inl (-1))) (fa1 (tri_iret) (fa1 (tri_iload 25 3) (fa1 (tri_aload 26 0) (fa1 (tri_getR 29 12 20 (fun _ => 6)) (fa1 (tri_push 30 (.inl 2)) (fa1 (tri_iload 31 1) (fa1 (tri_bin 32 (fun x y => wr (x * y))) (fa1 (tri_iload 33 2) (fa1 (tri_bin 34 (fun x y => wr (x + y))) (fa1 (tri_ald 35 20 lnR) (fa1 (tri_cmpge 38 57) (fa1 (tri_aload 39 0) (fa1 (tri_getR 42 12 20 (fun _ => 5)) (fa1 (tri_push 44 (.inl 40)) (fa1 (tri_iload 45 1) (fa1 (tri_bin 46 (fun x y => wr (x * y))) (fa1 (tri_push 48 (.inl 20)) (fa1 (tri_iload 49 2) (fa1 (tri_bin 50 (fun x y => wr (x * y))) (fa1 (tri_bin 51 (fun x y => wr (x + y))) (fa1 (tri_iload 52 3) (fa1 (tri_bin 53 (fun x y => wr (x + y))) (fa1 (tri_ald 54 20 lnR) (fa1 (tri_goto 59) (fa1 (tri_push 59 (.inl (-4))) (fa1 (tri_iret) (fa0))))))))))))))))))))))))))))))))))))))))
set_option maxRecDepth 100000 in
set_option maxHeartbeats 4000000 in
theorem ks_X12_sign (G : Wp) (l : Launch) : ∀ e ∈ k_X12_sign, Snd loR G l RX12 cX12_sign 4 (some .int) rm_X12_sign e.1 e.2 :=
  fa1 (s_aload_n (kf := 0) (j := 0) (by decide +kernel) rfl) <|
  fa1 (s_iload_n (kf := 1) (j := 1) (by decide +kernel) rfl) <|
  fa1 (s_vcallI (n := 1) (ci := 12) (C := RX12) (T := TX12) (NF := 83) (idx := 287) (y := yX12_isSaying) (by decide +kernel) (gg_X12_isSaying) rfl (by decide) yv_X12_isSaying (all5 w_1581 w_1583 w_56 w_113 w_1584) rfl rfl ⟨by decide, by decide⟩) <|
  fa1 (s_ifeq (off := 17) (by decide +kernel) (by decide)) <|
  fa1 (s_iload_n (kf := 2) (j := 2) (by decide +kernel) rfl) <|
  fa1 (s_i2l (by decide +kernel)) <|
  fa1 (s_lconst (n := 0) (v := 0) (by decide +kernel) (by decide +kernel) (p64 rfl)) <|
  fa1 (s_lconst (n := 1) (v := 1) (by decide +kernel) (by decide +kernel) (p64 rfl)) <|
  fa1 (s_scallI (n := 3) (idx := 187) (y := yX12_in) (by decide +kernel) (gg_X12_in) yv_X12_in (all4 w_1498 w_1499 w_113 w_1500) rfl rfl ⟨by decide, by decide⟩) <|
  fa1 (s_ifeq (off := 7) (by decide +kernel) (by decide)) <|
  fa1 (s_iload_n (kf := 3) (j := 3) (by decide +kernel) rfl) <|
  fa1 (s_ifge (off := 5) (by decide +kernel) (by decide)) <|
  fa1 (s_iconst (n := -1) (v := -1) (by decide +kernel) (by decide +kernel) (p32 rfl)) <|
  fa1 (s_iret (by decide +kernel) rfl) <|
  fa1 (s_iload_n (kf := 3) (j := 3) (by decide +kernel) rfl) <|
  fa1 (s_aload_n (kf := 0) (j := 0) (by decide +kernel) rfl) <|
  fa1 (s_getR (t2 := 20) (g := (fun _ => 6)) (ci := 12) (f := 7) (idx := 25) (C := RX12) (T := TX12) (NF := 83) (by decide +kernel) rfl (by decide) inG_X12 (by decide) w_1245 lr_X12_7 (by decide)) <|
  fa1 (s_iconst (n := 2) (v := 2) (by decide +kernel) (by decide +kernel) (p32 rfl)) <|
  fa1 (s_iload_n (kf := 1) (j := 1) (by decide +kernel) rfl) <|
  fa1 (s_imul (by decide +kernel)) <|
  fa1 (s_iload_n (kf := 2) (j := 2) (by decide +kernel) rfl) <|
  fa1 (s_iadd (by decide +kernel)) <|
  fa1 (s_iald (by decide +kernel)) <|
  fa1 (s_cmpge (off := 22) (by decide +kernel) (by decide)) <|
  fa1 (s_aload_n (kf := 0) (j := 0) (by decide +kernel) rfl) <|
  fa1 (s_getR (t2 := 20) (g := (fun _ => 5)) (ci := 12) (f := 6) (idx := 22) (C := RX12) (T := TX12) (NF := 83) (by decide +kernel) rfl (by decide) inG_X12 (by decide) w_1244 lr_X12_6 (by decide)) <|
  fa1 (s_bipush (n := 40) (v := 40) (by decide +kernel) (by decide +kernel) (p32 rfl)) <|
  fa1 (s_iload_n (kf := 1) (j := 1) (by decide +kernel) rfl) <|
  fa1 (s_imul (by decide +kernel)) <|
  fa1 (s_bipush (n := 20) (v := 20) (by decide +kernel) (by decide +kernel) (p32 rfl)) <|
  fa1 (s_iload_n (kf := 2) (j := 2) (by decide +kernel) rfl) <|
  fa1 (s_imul (by decide +kernel)) <|
  fa1 (s_iadd (by decide +kernel)) <|
  fa1 (s_iload_n (kf := 3) (j := 3) (by decide +kernel) rfl) <|
  fa1 (s_iadd (by decide +kernel)) <|
  fa1 (s_iald (by decide +kernel)) <|
  fa1 (s_goto (off := 5) (by decide +kernel) (by decide)) <|
  fa1 (s_bipush (n := -4) (v := -4) (by decide +kernel) (by decide +kernel) (p32 rfl)) <|
  fa1 (s_iret (by decide +kernel) rfl) <| fa0
theorem gg_X12_sign {G : Wp} {l : Launch} : GoodM loR G l yX12_sign cX12_sign 4 (some .int) rm_X12_sign f_X12_sign := met_of kt_X12_sign (lkp_snd (ks_X12_sign G l)) (by decide +kernel) rfl (by decide)
noncomputable def k_X12_begins : List (Nat × Ins) := [
  (0, i_aload 1 0),
  (1, i_aload 2 0),
  (2, i_getR 5 12 20 (fun _ => 6)),
  (5, i_push 6 (.inl 2)),
  (6, i_iload 7 1),
  (7, i_bin 8 (fun x y => wr (x * y))),
  (8, i_ald 9 20 lnR),
  (9, i_putI 12 12 36),
  (12, i_push 13 (.inl 0)),
  (13, i_istore 14 2),
  (14, i_iload 15 2),
  (15, i_aload 16 0),
  (16, i_getI 19 12 36),
  (19, i_cmpge 22 45),
  (22, i_aload 23 0),
  (23, i_getR 26 12 20 (fun _ => 20)),
  (26, i_iload 27 2),
  (27, i_aload 28 0),
  (28, i_getR 31 12 20 (fun _ => 5)),
  (31, i_push 33 (.inl 40)),
  (33, i_iload 34 1),
  (34, i_bin 35 (fun x y => wr (x * y))),
  (35, i_iload 36 2),
  (36, i_bin 37 (fun x y => wr (x + y))),
  (37, i_ald 38 20 lnR),
  (38, i_ast 39 20 lnR id),
  (39, i_iinc 42 2 (1)),
  (42, i_goto 14),
  (45, i_vret)]
noncomputable def kc_X12_begins : Nat → Option Ins := lkp k_X12_begins
noncomputable def f_X12_begins : List AV → Mem → Option Rs := den 3 kc_X12_begins
abbrev rm_X12_begins : Room := { frames := 0, cells := 0, slots := 0, locals := 0 }
set_option maxRecDepth 100000 in
theorem kt_X12_begins : TriC kc_X12_begins := lkp_tri (fa1 (tri_aload 1 0) (fa1 (tri_aload 2 0) (fa1 (tri_getR 5 12 20 (fun _ => 6)) (fa1 (tri_push 6 (.inl 2)) (fa1 (tri_iload 7 1) (fa1 (tri_bin 8 (fun x y => wr (x * y))) (fa1 (tri_ald 9 20 lnR) (fa1 (tri_putI 12 12 36) (fa1 (tri_push 13 (.inl 0)) (fa1 (tri_istore 14 2) (fa1 (tri_iload 15 2) (fa1 (tri_aload 16 0) (fa1 (tri_getI 19 12 36) (fa1 (tri_cmpge 22 45) (fa1 (tri_aload 23 0) (fa1 (tri_getR 26 12 20 (fun _ => 20)) (fa1 (tri_iload 27 2) (fa1 (tri_aload 28 0) (fa1 (tri_getR 31 12 20 (fun _ => 5)) (fa1 (tri_push 33 (.inl 40)) (fa1 (tri_iload 34 1) (fa1 (tri_bin 35 (fun x y => wr (x * y))) (fa1 (tri_iload 36 2) (fa1 (tri_bin 37 (fun x y => wr (x + y))) (fa1 (tri_ald 38 20 lnR) (fa1 (tri_ast 39 20 lnR id) (fa1 (tri_iinc 42 2 (1)) (fa1 (tri_goto 14) (fa1 (tri_vret) (fa0))))))))))))))))))))))))))))))
set_option maxRecDepth 100000 in
set_option maxHeartbeats 4000000 in
theorem ks_X12_begins (G : Wp) (l : Launch) : ∀ e ∈ k_X12_begins, Snd loR G l RX12 cX12_begins 3 none rm_X12_begins e.1 e.2 :=
  fa1 (s_aload_n (kf := 0) (j := 0) (by decide +kernel) rfl) <|
  fa1 (s_aload_n (kf := 0) (j := 0) (by decide +kernel) rfl) <|
  fa1 (s_getR (t2 := 20) (g := (fun _ => 6)) (ci := 12) (f := 7) (idx := 25) (C := RX12) (T := TX12) (NF := 83) (by decide +kernel) rfl (by decide) inG_X12 (by decide) w_1245 lr_X12_7 (by decide)) <|
  fa1 (s_iconst (n := 2) (v := 2) (by decide +kernel) (by decide +kernel) (p32 rfl)) <|
  fa1 (s_iload_n (kf := 1) (j := 1) (by decide +kernel) rfl) <|
  fa1 (s_imul (by decide +kernel)) <|
  fa1 (s_iald (by decide +kernel)) <|
  fa1 (s_putI (ci := 12) (f := 36) (idx := 311) (C := RX12) (T := TX12) (NF := 83) (by decide +kernel) rfl (by decide) inG_X12 (by decide) w_1274 tyX12 tyX12_ok nmX12 rfl (by decide +kernel) li_X12_36) <|
  fa1 (s_iconst (n := 0) (v := 0) (by decide +kernel) (by decide +kernel) (p32 rfl)) <|
  fa1 (s_istore_n (kf := 2) (j := 2) (by decide +kernel) rfl (by decide)) <|
  fa1 (s_iload_n (kf := 2) (j := 2) (by decide +kernel) rfl) <|
  fa1 (s_aload_n (kf := 0) (j := 0) (by decide +kernel) rfl) <|
  fa1 (s_getI (ci := 12) (f := 36) (idx := 311) (C := RX12) (T := TX12) (NF := 83) (by decide +kernel) rfl (by decide) inG_X12 (by decide) w_1274 li_X12_36) <|
  fa1 (s_cmpge (off := 26) (by decide +kernel) (by decide)) <|
  fa1 (s_aload_n (kf := 0) (j := 0) (by decide +kernel) rfl) <|
  fa1 (s_getR (t2 := 20) (g := (fun _ => 20)) (ci := 12) (f := 35) (idx := 67) (C := RX12) (T := TX12) (NF := 83) (by decide +kernel) rfl (by decide) inG_X12 (by decide) w_1273 lr_X12_35 (by decide)) <|
  fa1 (s_iload_n (kf := 2) (j := 2) (by decide +kernel) rfl) <|
  fa1 (s_aload_n (kf := 0) (j := 0) (by decide +kernel) rfl) <|
  fa1 (s_getR (t2 := 20) (g := (fun _ => 5)) (ci := 12) (f := 6) (idx := 22) (C := RX12) (T := TX12) (NF := 83) (by decide +kernel) rfl (by decide) inG_X12 (by decide) w_1244 lr_X12_6 (by decide)) <|
  fa1 (s_bipush (n := 40) (v := 40) (by decide +kernel) (by decide +kernel) (p32 rfl)) <|
  fa1 (s_iload_n (kf := 1) (j := 1) (by decide +kernel) rfl) <|
  fa1 (s_imul (by decide +kernel)) <|
  fa1 (s_iload_n (kf := 2) (j := 2) (by decide +kernel) rfl) <|
  fa1 (s_iadd (by decide +kernel)) <|
  fa1 (s_iald (by decide +kernel)) <|
  fa1 (s_iast (by decide +kernel) lt_loR_20) <|
  fa1 (s_iinc (j := 2) (d := 1) (by decide +kernel) (by decide)) <|
  fa1 (s_goto (off := -28) (by decide +kernel) (by decide)) <|
  fa1 (s_vret (by decide +kernel) rfl) <| fa0
theorem gg_X12_begins {G : Wp} {l : Launch} : GoodM loR G l yX12_begins cX12_begins 3 none rm_X12_begins f_X12_begins := met_of kt_X12_begins (lkp_snd (ks_X12_begins G l)) (by decide +kernel) rfl (by decide)
noncomputable def k_X12_goes : List (Nat × Ins) := [
  (0, i_aload 1 0),
  (1, i_aload 2 0),
  (2, i_getI 5 12 38),
  (5, i_putI 8 12 36),
  (8, i_push 9 (.inl 0)),
  (9, i_istore 10 1),
  (10, i_iload 11 1),
  (11, i_aload 12 0),
  (12, i_getI 15 12 38),
  (15, i_cmpge 18 36),
  (18, i_aload 19 0),
  (19, i_getR 22 12 20 (fun _ => 20)),
  (22, i_iload 23 1),
  (23, i_aload 24 0),
  (24, i_getR 27 12 20 (fun _ => 21)),
  (27, i_iload 28 1),
  (28, i_ald 29 20 lnR),
  (29, i_ast 30 20 lnR id),
  (30, i_iinc 33 1 (1)),
  (33, i_goto 10),
  (36, i_vret)]
noncomputable def kc_X12_goes : Nat → Option Ins := lkp k_X12_goes
noncomputable def f_X12_goes : List AV → Mem → Option Rs := den 2 kc_X12_goes
abbrev rm_X12_goes : Room := { frames := 0, cells := 0, slots := 0, locals := 0 }
set_option maxRecDepth 100000 in
theorem kt_X12_goes : TriC kc_X12_goes := lkp_tri (fa1 (tri_aload 1 0) (fa1 (tri_aload 2 0) (fa1 (tri_getI 5 12 38) (fa1 (tri_putI 8 12 36) (fa1 (tri_push 9 (.inl 0)) (fa1 (tri_istore 10 1) (fa1 (tri_iload 11 1) (fa1 (tri_aload 12 0) (fa1 (tri_getI 15 12 38) (fa1 (tri_cmpge 18 36) (fa1 (tri_aload 19 0) (fa1 (tri_getR 22 12 20 (fun _ => 20)) (fa1 (tri_iload 23 1) (fa1 (tri_aload 24 0) (fa1 (tri_getR 27 12 20 (fun _ => 21)) (fa1 (tri_iload 28 1) (fa1 (tri_ald 29 20 lnR) (fa1 (tri_ast 30 20 lnR id) (fa1 (tri_iinc 33 1 (1)) (fa1 (tri_goto 10) (fa1 (tri_vret) (fa0))))))))))))))))))))))
set_option maxRecDepth 100000 in
set_option maxHeartbeats 4000000 in
theorem ks_X12_goes (G : Wp) (l : Launch) : ∀ e ∈ k_X12_goes, Snd loR G l RX12 cX12_goes 2 none rm_X12_goes e.1 e.2 :=
  fa1 (s_aload_n (kf := 0) (j := 0) (by decide +kernel) rfl) <|
  fa1 (s_aload_n (kf := 0) (j := 0) (by decide +kernel) rfl) <|
  fa1 (s_getI (ci := 12) (f := 38) (idx := 324) (C := RX12) (T := TX12) (NF := 83) (by decide +kernel) rfl (by decide) inG_X12 (by decide) w_1276 li_X12_38) <|
  fa1 (s_putI (ci := 12) (f := 36) (idx := 311) (C := RX12) (T := TX12) (NF := 83) (by decide +kernel) rfl (by decide) inG_X12 (by decide) w_1274 tyX12 tyX12_ok nmX12 rfl (by decide +kernel) li_X12_36) <|
  fa1 (s_iconst (n := 0) (v := 0) (by decide +kernel) (by decide +kernel) (p32 rfl)) <|
  fa1 (s_istore_n (kf := 1) (j := 1) (by decide +kernel) rfl (by decide)) <|
  fa1 (s_iload_n (kf := 1) (j := 1) (by decide +kernel) rfl) <|
  fa1 (s_aload_n (kf := 0) (j := 0) (by decide +kernel) rfl) <|
  fa1 (s_getI (ci := 12) (f := 38) (idx := 324) (C := RX12) (T := TX12) (NF := 83) (by decide +kernel) rfl (by decide) inG_X12 (by decide) w_1276 li_X12_38) <|
  fa1 (s_cmpge (off := 21) (by decide +kernel) (by decide)) <|
  fa1 (s_aload_n (kf := 0) (j := 0) (by decide +kernel) rfl) <|
  fa1 (s_getR (t2 := 20) (g := (fun _ => 20)) (ci := 12) (f := 35) (idx := 67) (C := RX12) (T := TX12) (NF := 83) (by decide +kernel) rfl (by decide) inG_X12 (by decide) w_1273 lr_X12_35 (by decide)) <|
  fa1 (s_iload_n (kf := 1) (j := 1) (by decide +kernel) rfl) <|
  fa1 (s_aload_n (kf := 0) (j := 0) (by decide +kernel) rfl) <|
  fa1 (s_getR (t2 := 20) (g := (fun _ => 21)) (ci := 12) (f := 37) (idx := 70) (C := RX12) (T := TX12) (NF := 83) (by decide +kernel) rfl (by decide) inG_X12 (by decide) w_1275 lr_X12_37 (by decide)) <|
  fa1 (s_iload_n (kf := 1) (j := 1) (by decide +kernel) rfl) <|
  fa1 (s_iald (by decide +kernel)) <|
  fa1 (s_iast (by decide +kernel) lt_loR_20) <|
  fa1 (s_iinc (j := 1) (d := 1) (by decide +kernel) (by decide)) <|
  fa1 (s_goto (off := -23) (by decide +kernel) (by decide)) <|
  fa1 (s_vret (by decide +kernel) rfl) <| fa0
theorem gg_X12_goes {G : Wp} {l : Launch} : GoodM loR G l yX12_goes cX12_goes 2 none rm_X12_goes f_X12_goes := met_of kt_X12_goes (lkp_snd (ks_X12_goes G l)) (by decide +kernel) rfl (by decide)
noncomputable def k_X12_copiesMeaning : List (Nat × Ins) := [
  (0, i_push 1 (.inl 0)),
  (1, i_istore 2 3),
  (2, i_iload 3 3),
  (3, i_aload 4 0),
  (4, i_getR 7 12 20 (fun _ => 3)),
  (7, i_iload 8 1),
  (8, i_ald 9 20 lnR),
  (9, i_cmpge 12 59),
  (12, i_iload 13 2),
  (13, i_ifeq 16 36),
  (16, i_aload 17 0),
  (17, i_getR 20 12 20 (fun _ => 24)),
  (20, i_iload 21 3),
  (21, i_aload 22 0),
  (22, i_getR 25 12 20 (fun _ => 4)),
  (25, i_push 27 (.inl 20)),
  (27, i_iload 28 1),
  (28, i_bin 29 (fun x y => wr (x * y))),
  (29, i_iload 30 3),
  (30, i_bin 31 (fun x y => wr (x + y))),
  (31, i_ald 32 20 lnR),
  (32, i_ast 33 20 lnR id),
  (33, i_goto 53),
  (36, i_aload 37 0),
  (37, i_getR 40 12 20 (fun _ => 25)),
  (40, i_iload 41 3),
  (41, i_aload 42 0),
  (42, i_getR 45 12 20 (fun _ => 4)),
  (45, i_push 47 (.inl 20)),
  (47, i_iload 48 1),
  (48, i_bin 49 (fun x y => wr (x * y))),
  (49, i_iload 50 3),
  (50, i_bin 51 (fun x y => wr (x + y))),
  (51, i_ald 52 20 lnR),
  (52, i_ast 53 20 lnR id),
  (53, i_iinc 56 3 (1)),
  (56, i_goto 2),
  (59, i_aload 60 0),
  (60, i_iload 61 2),
  (61, i_ifeq 64 73),
  (64, i_aload 65 0),
  (65, i_getR 68 12 20 (fun _ => 3)),
  (68, i_iload 69 1),
  (69, i_ald 70 20 lnR),
  (70, i_goto 77),
  (73, i_aload 74 0),
  (74, i_getI 77 12 42),
  (77, i_putI 80 12 42),
  (80, i_aload 81 0),
  (81, i_iload 82 2),
  (82, i_ifeq 85 92),
  (85, i_aload 86 0),
  (86, i_getI 89 12 44),
  (89, i_goto 98),
  (92, i_aload 93 0),
  (93, i_getR 96 12 20 (fun _ => 3)),
  (96, i_iload 97 1),
  (97, i_ald 98 20 lnR),
  (98, i_putI 101 12 44),
  (101, i_vret)]
noncomputable def kc_X12_copiesMeaning : Nat → Option Ins := lkp k_X12_copiesMeaning
noncomputable def f_X12_copiesMeaning : List AV → Mem → Option Rs := den 4 kc_X12_copiesMeaning
abbrev rm_X12_copiesMeaning : Room := { frames := 0, cells := 0, slots := 0, locals := 0 }
set_option maxRecDepth 100000 in
theorem kt_X12_copiesMeaning : TriC kc_X12_copiesMeaning := lkp_tri (fa1 (tri_push 1 (.inl 0)) (fa1 (tri_istore 2 3) (fa1 (tri_iload 3 3) (fa1 (tri_aload 4 0) (fa1 (tri_getR 7 12 20 (fun _ => 3)) (fa1 (tri_iload 8 1) (fa1 (tri_ald 9 20 lnR) (fa1 (tri_cmpge 12 59) (fa1 (tri_iload 13 2) (fa1 (tri_ifeq 16 36) (fa1 (tri_aload 17 0) (fa1 (tri_getR 20 12 20 (fun _ => 24)) (fa1 (tri_iload 21 3) (fa1 (tri_aload 22 0) (fa1 (tri_getR 25 12 20 (fun _ => 4)) (fa1 (tri_push 27 (.inl 20)) (fa1 (tri_iload 28 1) (fa1 (tri_bin 29 (fun x y => wr (x * y))) (fa1 (tri_iload 30 3) (fa1 (tri_bin 31 (fun x y => wr (x + y))) (fa1 (tri_ald 32 20 lnR) (fa1 (tri_ast 33 20 lnR id) (fa1 (tri_goto 53) (fa1 (tri_aload 37 0) (fa1 (tri_getR 40 12 20 (fun _ => 25)) (fa1 (tri_iload 41 3) (fa1 (tri_aload 42 0) (fa1 (tri_getR 45 12 20 (fun _ => 4)) (fa1 (tri_push 47 (.inl 20)) (fa1 (tri_iload 48 1) (fa1 (tri_bin 49 (fun x y => wr (x * y))) (fa1 (tri_iload 50 3) (fa1 (tri_bin 51 (fun x y => wr (x + y))) (fa1 (tri_ald 52 20 lnR) (fa1 (tri_ast 53 20 lnR id) (fa1 (tri_iinc 56 3 (1)) (fa1 (tri_goto 2) (fa1 (tri_aload 60 0) (fa1 (tri_iload 61 2) (fa1 (tri_ifeq 64 73) (fa1 (tri_aload 65 0) (fa1 (tri_getR 68 12 20 (fun _ => 3)) (fa1 (tri_iload 69 1) (fa1 (tri_ald 70 20 lnR) (fa1 (tri_goto 77) (fa1 (tri_aload 74 0) (fa1 (tri_getI 77 12 42) (fa1 (tri_putI 80 12 42) (fa1 (tri_aload 81 0) (fa1 (tri_iload 82 2) (fa1 (tri_ifeq 85 92) (fa1 (tri_aload 86 0) (fa1 (tri_getI 89 12 44) (fa1 (tri_goto 98) (fa1 (tri_aload 93 0) (fa1 (tri_getR 96 12 20 (fun _ => 3)) (fa1 (tri_iload 97 1) (fa1 (tri_ald 98 20 lnR) (fa1 (tri_putI 101 12 44) (fa1 (tri_vret) (fa0)))))))))))))))))))))))))))))))))))))))))))))))))))))))))))))
set_option maxRecDepth 100000 in
set_option maxHeartbeats 4000000 in
theorem ks_X12_copiesMeaning (G : Wp) (l : Launch) : ∀ e ∈ k_X12_copiesMeaning, Snd loR G l RX12 cX12_copiesMeaning 4 none rm_X12_copiesMeaning e.1 e.2 :=
  fa1 (s_iconst (n := 0) (v := 0) (by decide +kernel) (by decide +kernel) (p32 rfl)) <|
  fa1 (s_istore_n (kf := 3) (j := 3) (by decide +kernel) rfl (by decide)) <|
  fa1 (s_iload_n (kf := 3) (j := 3) (by decide +kernel) rfl) <|
  fa1 (s_aload_n (kf := 0) (j := 0) (by decide +kernel) rfl) <|
  fa1 (s_getR (t2 := 20) (g := (fun _ => 3)) (ci := 12) (f := 3) (idx := 16) (C := RX12) (T := TX12) (NF := 83) (by decide +kernel) rfl (by decide) inG_X12 (by decide) w_1241 lr_X12_3 (by decide)) <|
  fa1 (s_iload_n (kf := 1) (j := 1) (by decide +kernel) rfl) <|
  fa1 (s_iald (by decide +kernel)) <|
  fa1 (s_cmpge (off := 50) (by decide +kernel) (by decide)) <|
  fa1 (s_iload_n (kf := 2) (j := 2) (by decide +kernel) rfl) <|
  fa1 (s_ifeq (off := 23) (by decide +kernel) (by decide)) <|
  fa1 (s_aload_n (kf := 0) (j := 0) (by decide +kernel) rfl) <|
  fa1 (s_getR (t2 := 20) (g := (fun _ => 24)) (ci := 12) (f := 41) (idx := 79) (C := RX12) (T := TX12) (NF := 83) (by decide +kernel) rfl (by decide) inG_X12 (by decide) w_1279 lr_X12_41 (by decide)) <|
  fa1 (s_iload_n (kf := 3) (j := 3) (by decide +kernel) rfl) <|
  fa1 (s_aload_n (kf := 0) (j := 0) (by decide +kernel) rfl) <|
  fa1 (s_getR (t2 := 20) (g := (fun _ => 4)) (ci := 12) (f := 4) (idx := 19) (C := RX12) (T := TX12) (NF := 83) (by decide +kernel) rfl (by decide) inG_X12 (by decide) w_1242 lr_X12_4 (by decide)) <|
  fa1 (s_bipush (n := 20) (v := 20) (by decide +kernel) (by decide +kernel) (p32 rfl)) <|
  fa1 (s_iload_n (kf := 1) (j := 1) (by decide +kernel) rfl) <|
  fa1 (s_imul (by decide +kernel)) <|
  fa1 (s_iload_n (kf := 3) (j := 3) (by decide +kernel) rfl) <|
  fa1 (s_iadd (by decide +kernel)) <|
  fa1 (s_iald (by decide +kernel)) <|
  fa1 (s_iast (by decide +kernel) lt_loR_20) <|
  fa1 (s_goto (off := 20) (by decide +kernel) (by decide)) <|
  fa1 (s_aload_n (kf := 0) (j := 0) (by decide +kernel) rfl) <|
  fa1 (s_getR (t2 := 20) (g := (fun _ => 25)) (ci := 12) (f := 43) (idx := 82) (C := RX12) (T := TX12) (NF := 83) (by decide +kernel) rfl (by decide) inG_X12 (by decide) w_1281 lr_X12_43 (by decide)) <|
  fa1 (s_iload_n (kf := 3) (j := 3) (by decide +kernel) rfl) <|
  fa1 (s_aload_n (kf := 0) (j := 0) (by decide +kernel) rfl) <|
  fa1 (s_getR (t2 := 20) (g := (fun _ => 4)) (ci := 12) (f := 4) (idx := 19) (C := RX12) (T := TX12) (NF := 83) (by decide +kernel) rfl (by decide) inG_X12 (by decide) w_1242 lr_X12_4 (by decide)) <|
  fa1 (s_bipush (n := 20) (v := 20) (by decide +kernel) (by decide +kernel) (p32 rfl)) <|
  fa1 (s_iload_n (kf := 1) (j := 1) (by decide +kernel) rfl) <|
  fa1 (s_imul (by decide +kernel)) <|
  fa1 (s_iload_n (kf := 3) (j := 3) (by decide +kernel) rfl) <|
  fa1 (s_iadd (by decide +kernel)) <|
  fa1 (s_iald (by decide +kernel)) <|
  fa1 (s_iast (by decide +kernel) lt_loR_20) <|
  fa1 (s_iinc (j := 3) (d := 1) (by decide +kernel) (by decide)) <|
  fa1 (s_goto (off := -54) (by decide +kernel) (by decide)) <|
  fa1 (s_aload_n (kf := 0) (j := 0) (by decide +kernel) rfl) <|
  fa1 (s_iload_n (kf := 2) (j := 2) (by decide +kernel) rfl) <|
  fa1 (s_ifeq (off := 12) (by decide +kernel) (by decide)) <|
  fa1 (s_aload_n (kf := 0) (j := 0) (by decide +kernel) rfl) <|
  fa1 (s_getR (t2 := 20) (g := (fun _ => 3)) (ci := 12) (f := 3) (idx := 16) (C := RX12) (T := TX12) (NF := 83) (by decide +kernel) rfl (by decide) inG_X12 (by decide) w_1241 lr_X12_3 (by decide)) <|
  fa1 (s_iload_n (kf := 1) (j := 1) (by decide +kernel) rfl) <|
  fa1 (s_iald (by decide +kernel)) <|
  fa1 (s_goto (off := 7) (by decide +kernel) (by decide)) <|
  fa1 (s_aload_n (kf := 0) (j := 0) (by decide +kernel) rfl) <|
  fa1 (s_getI (ci := 12) (f := 42) (idx := 314) (C := RX12) (T := TX12) (NF := 83) (by decide +kernel) rfl (by decide) inG_X12 (by decide) w_1280 li_X12_42) <|
  fa1 (s_putI (ci := 12) (f := 42) (idx := 314) (C := RX12) (T := TX12) (NF := 83) (by decide +kernel) rfl (by decide) inG_X12 (by decide) w_1280 tyX12 tyX12_ok nmX12 rfl (by decide +kernel) li_X12_42) <|
  fa1 (s_aload_n (kf := 0) (j := 0) (by decide +kernel) rfl) <|
  fa1 (s_iload_n (kf := 2) (j := 2) (by decide +kernel) rfl) <|
  fa1 (s_ifeq (off := 10) (by decide +kernel) (by decide)) <|
  fa1 (s_aload_n (kf := 0) (j := 0) (by decide +kernel) rfl) <|
  fa1 (s_getI (ci := 12) (f := 44) (idx := 321) (C := RX12) (T := TX12) (NF := 83) (by decide +kernel) rfl (by decide) inG_X12 (by decide) w_1282 li_X12_44) <|
  fa1 (s_goto (off := 9) (by decide +kernel) (by decide)) <|
  fa1 (s_aload_n (kf := 0) (j := 0) (by decide +kernel) rfl) <|
  fa1 (s_getR (t2 := 20) (g := (fun _ => 3)) (ci := 12) (f := 3) (idx := 16) (C := RX12) (T := TX12) (NF := 83) (by decide +kernel) rfl (by decide) inG_X12 (by decide) w_1241 lr_X12_3 (by decide)) <|
  fa1 (s_iload_n (kf := 1) (j := 1) (by decide +kernel) rfl) <|
  fa1 (s_iald (by decide +kernel)) <|
  fa1 (s_putI (ci := 12) (f := 44) (idx := 321) (C := RX12) (T := TX12) (NF := 83) (by decide +kernel) rfl (by decide) inG_X12 (by decide) w_1282 tyX12 tyX12_ok nmX12 rfl (by decide +kernel) li_X12_44) <|
  fa1 (s_vret (by decide +kernel) rfl) <| fa0
theorem gg_X12_copiesMeaning {G : Wp} {l : Launch} : GoodM loR G l yX12_copiesMeaning cX12_copiesMeaning 4 none rm_X12_copiesMeaning f_X12_copiesMeaning := met_of kt_X12_copiesMeaning (lkp_snd (ks_X12_copiesMeaning G l)) (by decide +kernel) rfl (by decide)
noncomputable def k_X12_copiesSide : List (Nat × Ins) := [
  (0, i_aload 1 0),
  (1, i_getR 4 12 20 (fun _ => 6)),
  (4, i_push 5 (.inl 2)),
  (5, i_iload 6 1),
  (6, i_bin 7 (fun x y => wr (x * y))),
  (7, i_iload 8 2),
  (8, i_bin 9 (fun x y => wr (x + y))),
  (9, i_ald 10 20 lnR),
  (10, i_istore 12 4),
  (12, i_push 13 (.inl 0)),
  (13, i_istore 15 5),
  (15, i_iload 17 5),
  (17, i_iload 19 4),
  (19, i_cmpge 22 72),
  (22, i_aload 23 0),
  (23, i_getR 26 12 20 (fun _ => 5)),
  (26, i_push 28 (.inl 40)),
  (28, i_iload 29 1),
  (29, i_bin 30 (fun x y => wr (x * y))),
  (30, i_push 32 (.inl 20)),
  (32, i_iload 33 2),
  (33, i_bin 34 (fun x y => wr (x * y))),
  (34, i_bin 35 (fun x y => wr (x + y))),
  (35, i_iload 37 5),
  (37, i_bin 38 (fun x y => wr (x + y))),
  (38, i_ald 39 20 lnR),
  (39, i_istore 41 6),
  (41, i_iload 42 3),
  (42, i_ifeq 45 57),
  (45, i_aload 46 0),
  (46, i_getR 49 12 20 (fun _ => 24)),
  (49, i_iload 51 5),
  (51, i_iload 53 6),
  (53, i_ast 54 20 lnR id),
  (54, i_goto 66),
  (57, i_aload 58 0),
  (58, i_getR 61 12 20 (fun _ => 25)),
  (61, i_iload 63 5),
  (63, i_iload 65 6),
  (65, i_ast 66 20 lnR id),
  (66, i_iinc 69 5 (1)),
  (69, i_goto 15),
  (72, i_aload 73 0),
  (73, i_iload 74 3),
  (74, i_ifeq 77 82),
  (77, i_iload 79 4),
  (79, i_goto 86),
  (82, i_aload 83 0),
  (83, i_getI 86 12 42),
  (86, i_putI 89 12 42),
  (89, i_aload 90 0),
  (90, i_iload 91 3),
  (91, i_ifeq 94 101),
  (94, i_aload 95 0),
  (95, i_getI 98 12 44),
  (98, i_goto 103),
  (101, i_iload 103 4),
  (103, i_putI 106 12 44),
  (106, i_vret)]
noncomputable def kc_X12_copiesSide : Nat → Option Ins := lkp k_X12_copiesSide
noncomputable def f_X12_copiesSide : List AV → Mem → Option Rs := den 7 kc_X12_copiesSide
abbrev rm_X12_copiesSide : Room := { frames := 0, cells := 0, slots := 0, locals := 0 }
set_option maxRecDepth 100000 in
theorem kt_X12_copiesSide : TriC kc_X12_copiesSide := lkp_tri (fa1 (tri_aload 1 0) (fa1 (tri_getR 4 12 20 (fun _ => 6)) (fa1 (tri_push 5 (.inl 2)) (fa1 (tri_iload 6 1) (fa1 (tri_bin 7 (fun x y => wr (x * y))) (fa1 (tri_iload 8 2) (fa1 (tri_bin 9 (fun x y => wr (x + y))) (fa1 (tri_ald 10 20 lnR) (fa1 (tri_istore 12 4) (fa1 (tri_push 13 (.inl 0)) (fa1 (tri_istore 15 5) (fa1 (tri_iload 17 5) (fa1 (tri_iload 19 4) (fa1 (tri_cmpge 22 72) (fa1 (tri_aload 23 0) (fa1 (tri_getR 26 12 20 (fun _ => 5)) (fa1 (tri_push 28 (.inl 40)) (fa1 (tri_iload 29 1) (fa1 (tri_bin 30 (fun x y => wr (x * y))) (fa1 (tri_push 32 (.inl 20)) (fa1 (tri_iload 33 2) (fa1 (tri_bin 34 (fun x y => wr (x * y))) (fa1 (tri_bin 35 (fun x y => wr (x + y))) (fa1 (tri_iload 37 5) (fa1 (tri_bin 38 (fun x y => wr (x + y))) (fa1 (tri_ald 39 20 lnR) (fa1 (tri_istore 41 6) (fa1 (tri_iload 42 3) (fa1 (tri_ifeq 45 57) (fa1 (tri_aload 46 0) (fa1 (tri_getR 49 12 20 (fun _ => 24)) (fa1 (tri_iload 51 5) (fa1 (tri_iload 53 6) (fa1 (tri_ast 54 20 lnR id) (fa1 (tri_goto 66) (fa1 (tri_aload 58 0) (fa1 (tri_getR 61 12 20 (fun _ => 25)) (fa1 (tri_iload 63 5) (fa1 (tri_iload 65 6) (fa1 (tri_ast 66 20 lnR id) (fa1 (tri_iinc 69 5 (1)) (fa1 (tri_goto 15) (fa1 (tri_aload 73 0) (fa1 (tri_iload 74 3) (fa1 (tri_ifeq 77 82) (fa1 (tri_iload 79 4) (fa1 (tri_goto 86) (fa1 (tri_aload 83 0) (fa1 (tri_getI 86 12 42) (fa1 (tri_putI 89 12 42) (fa1 (tri_aload 90 0) (fa1 (tri_iload 91 3) (fa1 (tri_ifeq 94 101) (fa1 (tri_aload 95 0) (fa1 (tri_getI 98 12 44) (fa1 (tri_goto 103) (fa1 (tri_iload 103 4) (fa1 (tri_putI 106 12 44) (fa1 (tri_vret) (fa0))))))))))))))))))))))))))))))))))))))))))))))))))))))))))))
set_option maxRecDepth 100000 in
set_option maxHeartbeats 4000000 in
theorem ks_X12_copiesSide (G : Wp) (l : Launch) : ∀ e ∈ k_X12_copiesSide, Snd loR G l RX12 cX12_copiesSide 7 none rm_X12_copiesSide e.1 e.2 :=
  fa1 (s_aload_n (kf := 0) (j := 0) (by decide +kernel) rfl) <|
  fa1 (s_getR (t2 := 20) (g := (fun _ => 6)) (ci := 12) (f := 7) (idx := 25) (C := RX12) (T := TX12) (NF := 83) (by decide +kernel) rfl (by decide) inG_X12 (by decide) w_1245 lr_X12_7 (by decide)) <|
  fa1 (s_iconst (n := 2) (v := 2) (by decide +kernel) (by decide +kernel) (p32 rfl)) <|
  fa1 (s_iload_n (kf := 1) (j := 1) (by decide +kernel) rfl) <|
  fa1 (s_imul (by decide +kernel)) <|
  fa1 (s_iload_n (kf := 2) (j := 2) (by decide +kernel) rfl) <|
  fa1 (s_iadd (by decide +kernel)) <|
  fa1 (s_iald (by decide +kernel)) <|
  fa1 (s_istore (j := 4) (by decide +kernel) (by decide)) <|
  fa1 (s_iconst (n := 0) (v := 0) (by decide +kernel) (by decide +kernel) (p32 rfl)) <|
  fa1 (s_istore (j := 5) (by decide +kernel) (by decide)) <|
  fa1 (s_iload (j := 5) (by decide +kernel)) <|
  fa1 (s_iload (j := 4) (by decide +kernel)) <|
  fa1 (s_cmpge (off := 53) (by decide +kernel) (by decide)) <|
  fa1 (s_aload_n (kf := 0) (j := 0) (by decide +kernel) rfl) <|
  fa1 (s_getR (t2 := 20) (g := (fun _ => 5)) (ci := 12) (f := 6) (idx := 22) (C := RX12) (T := TX12) (NF := 83) (by decide +kernel) rfl (by decide) inG_X12 (by decide) w_1244 lr_X12_6 (by decide)) <|
  fa1 (s_bipush (n := 40) (v := 40) (by decide +kernel) (by decide +kernel) (p32 rfl)) <|
  fa1 (s_iload_n (kf := 1) (j := 1) (by decide +kernel) rfl) <|
  fa1 (s_imul (by decide +kernel)) <|
  fa1 (s_bipush (n := 20) (v := 20) (by decide +kernel) (by decide +kernel) (p32 rfl)) <|
  fa1 (s_iload_n (kf := 2) (j := 2) (by decide +kernel) rfl) <|
  fa1 (s_imul (by decide +kernel)) <|
  fa1 (s_iadd (by decide +kernel)) <|
  fa1 (s_iload (j := 5) (by decide +kernel)) <|
  fa1 (s_iadd (by decide +kernel)) <|
  fa1 (s_iald (by decide +kernel)) <|
  fa1 (s_istore (j := 6) (by decide +kernel) (by decide)) <|
  fa1 (s_iload_n (kf := 3) (j := 3) (by decide +kernel) rfl) <|
  fa1 (s_ifeq (off := 15) (by decide +kernel) (by decide)) <|
  fa1 (s_aload_n (kf := 0) (j := 0) (by decide +kernel) rfl) <|
  fa1 (s_getR (t2 := 20) (g := (fun _ => 24)) (ci := 12) (f := 41) (idx := 79) (C := RX12) (T := TX12) (NF := 83) (by decide +kernel) rfl (by decide) inG_X12 (by decide) w_1279 lr_X12_41 (by decide)) <|
  fa1 (s_iload (j := 5) (by decide +kernel)) <|
  fa1 (s_iload (j := 6) (by decide +kernel)) <|
  fa1 (s_iast (by decide +kernel) lt_loR_20) <|
  fa1 (s_goto (off := 12) (by decide +kernel) (by decide)) <|
  fa1 (s_aload_n (kf := 0) (j := 0) (by decide +kernel) rfl) <|
  fa1 (s_getR (t2 := 20) (g := (fun _ => 25)) (ci := 12) (f := 43) (idx := 82) (C := RX12) (T := TX12) (NF := 83) (by decide +kernel) rfl (by decide) inG_X12 (by decide) w_1281 lr_X12_43 (by decide)) <|
  fa1 (s_iload (j := 5) (by decide +kernel)) <|
  fa1 (s_iload (j := 6) (by decide +kernel)) <|
  fa1 (s_iast (by decide +kernel) lt_loR_20) <|
  fa1 (s_iinc (j := 5) (d := 1) (by decide +kernel) (by decide)) <|
  fa1 (s_goto (off := -54) (by decide +kernel) (by decide)) <|
  fa1 (s_aload_n (kf := 0) (j := 0) (by decide +kernel) rfl) <|
  fa1 (s_iload_n (kf := 3) (j := 3) (by decide +kernel) rfl) <|
  fa1 (s_ifeq (off := 8) (by decide +kernel) (by decide)) <|
  fa1 (s_iload (j := 4) (by decide +kernel)) <|
  fa1 (s_goto (off := 7) (by decide +kernel) (by decide)) <|
  fa1 (s_aload_n (kf := 0) (j := 0) (by decide +kernel) rfl) <|
  fa1 (s_getI (ci := 12) (f := 42) (idx := 314) (C := RX12) (T := TX12) (NF := 83) (by decide +kernel) rfl (by decide) inG_X12 (by decide) w_1280 li_X12_42) <|
  fa1 (s_putI (ci := 12) (f := 42) (idx := 314) (C := RX12) (T := TX12) (NF := 83) (by decide +kernel) rfl (by decide) inG_X12 (by decide) w_1280 tyX12 tyX12_ok nmX12 rfl (by decide +kernel) li_X12_42) <|
  fa1 (s_aload_n (kf := 0) (j := 0) (by decide +kernel) rfl) <|
  fa1 (s_iload_n (kf := 3) (j := 3) (by decide +kernel) rfl) <|
  fa1 (s_ifeq (off := 10) (by decide +kernel) (by decide)) <|
  fa1 (s_aload_n (kf := 0) (j := 0) (by decide +kernel) rfl) <|
  fa1 (s_getI (ci := 12) (f := 44) (idx := 321) (C := RX12) (T := TX12) (NF := 83) (by decide +kernel) rfl (by decide) inG_X12 (by decide) w_1282 li_X12_44) <|
  fa1 (s_goto (off := 5) (by decide +kernel) (by decide)) <|
  fa1 (s_iload (j := 4) (by decide +kernel)) <|
  fa1 (s_putI (ci := 12) (f := 44) (idx := 321) (C := RX12) (T := TX12) (NF := 83) (by decide +kernel) rfl (by decide) inG_X12 (by decide) w_1282 tyX12 tyX12_ok nmX12 rfl (by decide +kernel) li_X12_44) <|
  fa1 (s_vret (by decide +kernel) rfl) <| fa0
theorem gg_X12_copiesSide {G : Wp} {l : Launch} : GoodM loR G l yX12_copiesSide cX12_copiesSide 7 none rm_X12_copiesSide f_X12_copiesSide := met_of kt_X12_copiesSide (lkp_snd (ks_X12_copiesSide G l)) (by decide +kernel) rfl (by decide)
noncomputable def k_X12_copiesWord : List (Nat × Ins) := [
  (0, i_push 1 (.inl 0)),
  (1, i_istore 2 3),
  (2, i_iload 3 3),
  (3, i_aload 4 0),
  (4, i_getR 7 12 20 (fun _ => 2)),
  (7, i_iload 8 1),
  (8, i_ald 9 20 lnR),
  (9, i_cmpgt 12 62),
  (12, i_iload 13 3),
  (13, i_ifne 16 25),
  (16, i_aload 17 0),
  (17, i_getR 20 12 20 (fun _ => 1)),
  (20, i_iload 21 1),
  (21, i_ald 22 20 lnR),
  (22, i_goto 31),
  (25, i_push 27 (.inl 23)),
  (27, i_iload 28 3),
  (28, i_bin 29 (fun x y => wr (x + y))),
  (29, i_push 30 (.inl 1)),
  (30, i_bin 31 (fun x y => wr (x - y))),
  (31, i_istore 33 4),
  (33, i_iload 34 2),
  (34, i_ifeq 37 48),
  (37, i_aload 38 0),
  (38, i_getR 41 12 20 (fun _ => 24)),
  (41, i_iload 42 3),
  (42, i_iload 44 4),
  (44, i_ast 45 20 lnR id),
  (45, i_goto 56),
  (48, i_aload 49 0),
  (49, i_getR 52 12 20 (fun _ => 25)),
  (52, i_iload 53 3),
  (53, i_iload 55 4),
  (55, i_ast 56 20 lnR id),
  (56, i_iinc 59 3 (1)),
  (59, i_goto 2),
  (62, i_aload 63 0),
  (63, i_iload 64 2),
  (64, i_ifeq 67 78),
  (67, i_push 68 (.inl 1)),
  (68, i_aload 69 0),
  (69, i_getR 72 12 20 (fun _ => 2)),
  (72, i_iload 73 1),
  (73, i_ald 74 20 lnR),
  (74, i_bin 75 (fun x y => wr (x + y))),
  (75, i_goto 82),
  (78, i_aload 79 0),
  (79, i_getI 82 12 42),
  (82, i_putI 85 12 42),
  (85, i_aload 86 0),
  (86, i_iload 87 2),
  (87, i_ifeq 90 97),
  (90, i_aload 91 0),
  (91, i_getI 94 12 44),
  (94, i_goto 105),
  (97, i_push 98 (.inl 1)),
  (98, i_aload 99 0),
  (99, i_getR 102 12 20 (fun _ => 2)),
  (102, i_iload 103 1),
  (103, i_ald 104 20 lnR),
  (104, i_bin 105 (fun x y => wr (x + y))),
  (105, i_putI 108 12 44),
  (108, i_vret)]
noncomputable def kc_X12_copiesWord : Nat → Option Ins := lkp k_X12_copiesWord
noncomputable def f_X12_copiesWord : List AV → Mem → Option Rs := den 5 kc_X12_copiesWord
abbrev rm_X12_copiesWord : Room := { frames := 0, cells := 0, slots := 0, locals := 0 }
set_option maxRecDepth 100000 in
theorem kt_X12_copiesWord : TriC kc_X12_copiesWord := lkp_tri (fa1 (tri_push 1 (.inl 0)) (fa1 (tri_istore 2 3) (fa1 (tri_iload 3 3) (fa1 (tri_aload 4 0) (fa1 (tri_getR 7 12 20 (fun _ => 2)) (fa1 (tri_iload 8 1) (fa1 (tri_ald 9 20 lnR) (fa1 (tri_cmpgt 12 62) (fa1 (tri_iload 13 3) (fa1 (tri_ifne 16 25) (fa1 (tri_aload 17 0) (fa1 (tri_getR 20 12 20 (fun _ => 1)) (fa1 (tri_iload 21 1) (fa1 (tri_ald 22 20 lnR) (fa1 (tri_goto 31) (fa1 (tri_push 27 (.inl 23)) (fa1 (tri_iload 28 3) (fa1 (tri_bin 29 (fun x y => wr (x + y))) (fa1 (tri_push 30 (.inl 1)) (fa1 (tri_bin 31 (fun x y => wr (x - y))) (fa1 (tri_istore 33 4) (fa1 (tri_iload 34 2) (fa1 (tri_ifeq 37 48) (fa1 (tri_aload 38 0) (fa1 (tri_getR 41 12 20 (fun _ => 24)) (fa1 (tri_iload 42 3) (fa1 (tri_iload 44 4) (fa1 (tri_ast 45 20 lnR id) (fa1 (tri_goto 56) (fa1 (tri_aload 49 0) (fa1 (tri_getR 52 12 20 (fun _ => 25)) (fa1 (tri_iload 53 3) (fa1 (tri_iload 55 4) (fa1 (tri_ast 56 20 lnR id) (fa1 (tri_iinc 59 3 (1)) (fa1 (tri_goto 2) (fa1 (tri_aload 63 0) (fa1 (tri_iload 64 2) (fa1 (tri_ifeq 67 78) (fa1 (tri_push 68 (.inl 1)) (fa1 (tri_aload 69 0) (fa1 (tri_getR 72 12 20 (fun _ => 2)) (fa1 (tri_iload 73 1) (fa1 (tri_ald 74 20 lnR) (fa1 (tri_bin 75 (fun x y => wr (x + y))) (fa1 (tri_goto 82) (fa1 (tri_aload 79 0) (fa1 (tri_getI 82 12 42) (fa1 (tri_putI 85 12 42) (fa1 (tri_aload 86 0) (fa1 (tri_iload 87 2) (fa1 (tri_ifeq 90 97) (fa1 (tri_aload 91 0) (fa1 (tri_getI 94 12 44) (fa1 (tri_goto 105) (fa1 (tri_push 98 (.inl 1)) (fa1 (tri_aload 99 0) (fa1 (tri_getR 102 12 20 (fun _ => 2)) (fa1 (tri_iload 103 1) (fa1 (tri_ald 104 20 lnR) (fa1 (tri_bin 105 (fun x y => wr (x + y))) (fa1 (tri_putI 108 12 44) (fa1 (tri_vret) (fa0))))))))))))))))))))))))))))))))))))))))))))))))))))))))))))))))
set_option maxRecDepth 100000 in
set_option maxHeartbeats 4000000 in
theorem ks_X12_copiesWord (G : Wp) (l : Launch) : ∀ e ∈ k_X12_copiesWord, Snd loR G l RX12 cX12_copiesWord 5 none rm_X12_copiesWord e.1 e.2 :=
  fa1 (s_iconst (n := 0) (v := 0) (by decide +kernel) (by decide +kernel) (p32 rfl)) <|
  fa1 (s_istore_n (kf := 3) (j := 3) (by decide +kernel) rfl (by decide)) <|
  fa1 (s_iload_n (kf := 3) (j := 3) (by decide +kernel) rfl) <|
  fa1 (s_aload_n (kf := 0) (j := 0) (by decide +kernel) rfl) <|
  fa1 (s_getR (t2 := 20) (g := (fun _ => 2)) (ci := 12) (f := 2) (idx := 13) (C := RX12) (T := TX12) (NF := 83) (by decide +kernel) rfl (by decide) inG_X12 (by decide) w_1240 lr_X12_2 (by decide)) <|
  fa1 (s_iload_n (kf := 1) (j := 1) (by decide +kernel) rfl) <|
  fa1 (s_iald (by decide +kernel)) <|
  fa1 (s_cmpgt (off := 53) (by decide +kernel) (by decide)) <|
  fa1 (s_iload_n (kf := 3) (j := 3) (by decide +kernel) rfl) <|
  fa1 (s_ifne (off := 12) (by decide +kernel) (by decide)) <|
  fa1 (s_aload_n (kf := 0) (j := 0) (by decide +kernel) rfl) <|
  fa1 (s_getR (t2 := 20) (g := (fun _ => 1)) (ci := 12) (f := 1) (idx := 7) (C := RX12) (T := TX12) (NF := 83) (by decide +kernel) rfl (by decide) inG_X12 (by decide) w_1239 lr_X12_1 (by decide)) <|
  fa1 (s_iload_n (kf := 1) (j := 1) (by decide +kernel) rfl) <|
  fa1 (s_iald (by decide +kernel)) <|
  fa1 (s_goto (off := 9) (by decide +kernel) (by decide)) <|
  fa1 (s_bipush (n := 23) (v := 23) (by decide +kernel) (by decide +kernel) (p32 rfl)) <|
  fa1 (s_iload_n (kf := 3) (j := 3) (by decide +kernel) rfl) <|
  fa1 (s_iadd (by decide +kernel)) <|
  fa1 (s_iconst (n := 1) (v := 1) (by decide +kernel) (by decide +kernel) (p32 rfl)) <|
  fa1 (s_isub (by decide +kernel)) <|
  fa1 (s_istore (j := 4) (by decide +kernel) (by decide)) <|
  fa1 (s_iload_n (kf := 2) (j := 2) (by decide +kernel) rfl) <|
  fa1 (s_ifeq (off := 14) (by decide +kernel) (by decide)) <|
  fa1 (s_aload_n (kf := 0) (j := 0) (by decide +kernel) rfl) <|
  fa1 (s_getR (t2 := 20) (g := (fun _ => 24)) (ci := 12) (f := 41) (idx := 79) (C := RX12) (T := TX12) (NF := 83) (by decide +kernel) rfl (by decide) inG_X12 (by decide) w_1279 lr_X12_41 (by decide)) <|
  fa1 (s_iload_n (kf := 3) (j := 3) (by decide +kernel) rfl) <|
  fa1 (s_iload (j := 4) (by decide +kernel)) <|
  fa1 (s_iast (by decide +kernel) lt_loR_20) <|
  fa1 (s_goto (off := 11) (by decide +kernel) (by decide)) <|
  fa1 (s_aload_n (kf := 0) (j := 0) (by decide +kernel) rfl) <|
  fa1 (s_getR (t2 := 20) (g := (fun _ => 25)) (ci := 12) (f := 43) (idx := 82) (C := RX12) (T := TX12) (NF := 83) (by decide +kernel) rfl (by decide) inG_X12 (by decide) w_1281 lr_X12_43 (by decide)) <|
  fa1 (s_iload_n (kf := 3) (j := 3) (by decide +kernel) rfl) <|
  fa1 (s_iload (j := 4) (by decide +kernel)) <|
  fa1 (s_iast (by decide +kernel) lt_loR_20) <|
  fa1 (s_iinc (j := 3) (d := 1) (by decide +kernel) (by decide)) <|
  fa1 (s_goto (off := -57) (by decide +kernel) (by decide)) <|
  fa1 (s_aload_n (kf := 0) (j := 0) (by decide +kernel) rfl) <|
  fa1 (s_iload_n (kf := 2) (j := 2) (by decide +kernel) rfl) <|
  fa1 (s_ifeq (off := 14) (by decide +kernel) (by decide)) <|
  fa1 (s_iconst (n := 1) (v := 1) (by decide +kernel) (by decide +kernel) (p32 rfl)) <|
  fa1 (s_aload_n (kf := 0) (j := 0) (by decide +kernel) rfl) <|
  fa1 (s_getR (t2 := 20) (g := (fun _ => 2)) (ci := 12) (f := 2) (idx := 13) (C := RX12) (T := TX12) (NF := 83) (by decide +kernel) rfl (by decide) inG_X12 (by decide) w_1240 lr_X12_2 (by decide)) <|
  fa1 (s_iload_n (kf := 1) (j := 1) (by decide +kernel) rfl) <|
  fa1 (s_iald (by decide +kernel)) <|
  fa1 (s_iadd (by decide +kernel)) <|
  fa1 (s_goto (off := 7) (by decide +kernel) (by decide)) <|
  fa1 (s_aload_n (kf := 0) (j := 0) (by decide +kernel) rfl) <|
  fa1 (s_getI (ci := 12) (f := 42) (idx := 314) (C := RX12) (T := TX12) (NF := 83) (by decide +kernel) rfl (by decide) inG_X12 (by decide) w_1280 li_X12_42) <|
  fa1 (s_putI (ci := 12) (f := 42) (idx := 314) (C := RX12) (T := TX12) (NF := 83) (by decide +kernel) rfl (by decide) inG_X12 (by decide) w_1280 tyX12 tyX12_ok nmX12 rfl (by decide +kernel) li_X12_42) <|
  fa1 (s_aload_n (kf := 0) (j := 0) (by decide +kernel) rfl) <|
  fa1 (s_iload_n (kf := 2) (j := 2) (by decide +kernel) rfl) <|
  fa1 (s_ifeq (off := 10) (by decide +kernel) (by decide)) <|
  fa1 (s_aload_n (kf := 0) (j := 0) (by decide +kernel) rfl) <|
  fa1 (s_getI (ci := 12) (f := 44) (idx := 321) (C := RX12) (T := TX12) (NF := 83) (by decide +kernel) rfl (by decide) inG_X12 (by decide) w_1282 li_X12_44) <|
  fa1 (s_goto (off := 11) (by decide +kernel) (by decide)) <|
  fa1 (s_iconst (n := 1) (v := 1) (by decide +kernel) (by decide +kernel) (p32 rfl)) <|
  fa1 (s_aload_n (kf := 0) (j := 0) (by decide +kernel) rfl) <|
  fa1 (s_getR (t2 := 20) (g := (fun _ => 2)) (ci := 12) (f := 2) (idx := 13) (C := RX12) (T := TX12) (NF := 83) (by decide +kernel) rfl (by decide) inG_X12 (by decide) w_1240 lr_X12_2 (by decide)) <|
  fa1 (s_iload_n (kf := 1) (j := 1) (by decide +kernel) rfl) <|
  fa1 (s_iald (by decide +kernel)) <|
  fa1 (s_iadd (by decide +kernel)) <|
  fa1 (s_putI (ci := 12) (f := 44) (idx := 321) (C := RX12) (T := TX12) (NF := 83) (by decide +kernel) rfl (by decide) inG_X12 (by decide) w_1282 tyX12 tyX12_ok nmX12 rfl (by decide +kernel) li_X12_44) <|
  fa1 (s_vret (by decide +kernel) rfl) <| fa0
theorem gg_X12_copiesWord {G : Wp} {l : Launch} : GoodM loR G l yX12_copiesWord cX12_copiesWord 5 none rm_X12_copiesWord f_X12_copiesWord := met_of kt_X12_copiesWord (lkp_snd (ks_X12_copiesWord G l)) (by decide +kernel) rfl (by decide)
noncomputable def k_X12_alike : List (Nat × Ins) := [
  (0, i_push 1 (.inl 1)),
  (1, i_istore 3 4),
  (3, i_push 4 (.inl 0)),
  (4, i_istore 6 5),
  (6, i_iload 8 5),
  (8, i_iload 9 3),
  (9, i_cmpge 12 51),
  (12, i_iload 14 4),
  (14, i_ifeq 17 51),
  (17, i_aload 18 0),
  (18, i_getR 21 12 20 (fun _ => 20)),
  (21, i_iload 22 1),
  (22, i_iload 24 5),
  (24, i_bin 25 (fun x y => wr (x + y))),
  (25, i_ald 26 20 lnR),
  (26, i_aload 27 0),
  (27, i_getR 30 12 20 (fun _ => 20)),
  (30, i_iload 31 2),
  (31, i_iload 33 5),
  (33, i_bin 34 (fun x y => wr (x + y))),
  (34, i_ald 35 20 lnR),
  (35, i_cmpne 38 42),
  (38, i_push 39 (.inl 1)),
  (39, i_goto 43),
  (42, i_push 43 (.inl 0)),
  (43, i_istore 45 4),
  (45, i_iinc 48 5 (1)),
  (48, i_goto 6),
  (51, i_iload 53 4),
  (53, i_zret)]
noncomputable def kc_X12_alike : Nat → Option Ins := lkp k_X12_alike
noncomputable def f_X12_alike : List AV → Mem → Option Rs := den 6 kc_X12_alike
abbrev rm_X12_alike : Room := { frames := 0, cells := 0, slots := 0, locals := 0 }
set_option maxRecDepth 100000 in
theorem kt_X12_alike : TriC kc_X12_alike := lkp_tri (fa1 (tri_push 1 (.inl 1)) (fa1 (tri_istore 3 4) (fa1 (tri_push 4 (.inl 0)) (fa1 (tri_istore 6 5) (fa1 (tri_iload 8 5) (fa1 (tri_iload 9 3) (fa1 (tri_cmpge 12 51) (fa1 (tri_iload 14 4) (fa1 (tri_ifeq 17 51) (fa1 (tri_aload 18 0) (fa1 (tri_getR 21 12 20 (fun _ => 20)) (fa1 (tri_iload 22 1) (fa1 (tri_iload 24 5) (fa1 (tri_bin 25 (fun x y => wr (x + y))) (fa1 (tri_ald 26 20 lnR) (fa1 (tri_aload 27 0) (fa1 (tri_getR 30 12 20 (fun _ => 20)) (fa1 (tri_iload 31 2) (fa1 (tri_iload 33 5) (fa1 (tri_bin 34 (fun x y => wr (x + y))) (fa1 (tri_ald 35 20 lnR) (fa1 (tri_cmpne 38 42) (fa1 (tri_push 39 (.inl 1)) (fa1 (tri_goto 43) (fa1 (tri_push 43 (.inl 0)) (fa1 (tri_istore 45 4) (fa1 (tri_iinc 48 5 (1)) (fa1 (tri_goto 6) (fa1 (tri_iload 53 4) (fa1 (tri_zret) (fa0)))))))))))))))))))))))))))))))
set_option maxRecDepth 100000 in
set_option maxHeartbeats 4000000 in
theorem ks_X12_alike (G : Wp) (l : Launch) : ∀ e ∈ k_X12_alike, Snd loR G l RX12 cX12_alike 6 (some .boolean) rm_X12_alike e.1 e.2 :=
  fa1 (s_iconst (n := 1) (v := 1) (by decide +kernel) (by decide +kernel) (p32 rfl)) <|
  fa1 (s_istore (j := 4) (by decide +kernel) (by decide)) <|
  fa1 (s_iconst (n := 0) (v := 0) (by decide +kernel) (by decide +kernel) (p32 rfl)) <|
  fa1 (s_istore (j := 5) (by decide +kernel) (by decide)) <|
  fa1 (s_iload (j := 5) (by decide +kernel)) <|
  fa1 (s_iload_n (kf := 3) (j := 3) (by decide +kernel) rfl) <|
  fa1 (s_cmpge (off := 42) (by decide +kernel) (by decide)) <|
  fa1 (s_iload (j := 4) (by decide +kernel)) <|
  fa1 (s_ifeq (off := 37) (by decide +kernel) (by decide)) <|
  fa1 (s_aload_n (kf := 0) (j := 0) (by decide +kernel) rfl) <|
  fa1 (s_getR (t2 := 20) (g := (fun _ => 20)) (ci := 12) (f := 35) (idx := 67) (C := RX12) (T := TX12) (NF := 83) (by decide +kernel) rfl (by decide) inG_X12 (by decide) w_1273 lr_X12_35 (by decide)) <|
  fa1 (s_iload_n (kf := 1) (j := 1) (by decide +kernel) rfl) <|
  fa1 (s_iload (j := 5) (by decide +kernel)) <|
  fa1 (s_iadd (by decide +kernel)) <|
  fa1 (s_iald (by decide +kernel)) <|
  fa1 (s_aload_n (kf := 0) (j := 0) (by decide +kernel) rfl) <|
  fa1 (s_getR (t2 := 20) (g := (fun _ => 20)) (ci := 12) (f := 35) (idx := 67) (C := RX12) (T := TX12) (NF := 83) (by decide +kernel) rfl (by decide) inG_X12 (by decide) w_1273 lr_X12_35 (by decide)) <|
  fa1 (s_iload_n (kf := 2) (j := 2) (by decide +kernel) rfl) <|
  fa1 (s_iload (j := 5) (by decide +kernel)) <|
  fa1 (s_iadd (by decide +kernel)) <|
  fa1 (s_iald (by decide +kernel)) <|
  fa1 (s_cmpne (off := 7) (by decide +kernel) (by decide)) <|
  fa1 (s_iconst (n := 1) (v := 1) (by decide +kernel) (by decide +kernel) (p32 rfl)) <|
  fa1 (s_goto (off := 4) (by decide +kernel) (by decide)) <|
  fa1 (s_iconst (n := 0) (v := 0) (by decide +kernel) (by decide +kernel) (p32 rfl)) <|
  fa1 (s_istore (j := 4) (by decide +kernel) (by decide)) <|
  fa1 (s_iinc (j := 5) (d := 1) (by decide +kernel) (by decide)) <|
  fa1 (s_goto (off := -42) (by decide +kernel) (by decide)) <|
  fa1 (s_iload (j := 4) (by decide +kernel)) <|
  fa1 (s_zret (by decide +kernel) rfl) <| fa0
theorem gg_X12_alike {G : Wp} {l : Launch} : GoodM loR G l yX12_alike cX12_alike 6 (some .boolean) rm_X12_alike f_X12_alike := met_of kt_X12_alike (lkp_snd (ks_X12_alike G l)) (by decide +kernel) rfl (by decide)
noncomputable def k_X12_fits : List (Nat × Ins) := [
  (0, i_push 1 (.inl 0)),
  (1, i_istore 2 3),
  (2, i_iload 3 3),
  (3, i_push 4 (.inl 3)),
  (4, i_cmpge 7 21),
  (7, i_aload 8 0),
  (8, i_getR 11 12 20 (fun _ => 22)),
  (11, i_iload 12 3),
  (12, i_push 14 (.inl (-4))),
  (14, i_ast 15 20 lnR id),
  (15, i_iinc 18 3 (1)),
  (18, i_goto 2),
  (21, i_iload 22 1),
  (22, i_istore 23 3),
  (23, i_push 24 (.inl 0)),
  (24, i_istore 26 4),
  (26, i_iload 28 4),
  (28, i_aload 29 0),
  (29, i_getI 32 12 42),
  (32, i_cmpge 35 180),
  (35, i_iload 36 3),
  (36, i_iload 37 2),
  (37, i_cmplt 40 42),
  (40, i_push 41 (.inl 0)),
  (41, i_zret),
  (42, i_aload 43 0),
  (43, i_getR 46 12 20 (fun _ => 24)),
  (46, i_iload 48 4),
  (48, i_ald 49 20 lnR),
  (49, i_push 51 (.inl 23)),
  (51, i_cmplt 54 153),
  (54, i_aload 55 0),
  (55, i_getR 58 12 20 (fun _ => 24)),
  (58, i_iload 60 4),
  (60, i_ald 61 20 lnR),
  (61, i_push 63 (.inl 23)),
  (63, i_bin 64 (fun x y => wr (x - y))),
  (64, i_istore 66 5),
  (66, i_aload 67 0),
  (67, i_aload 68 0),
  (68, i_getR 71 12 20 (fun _ => 20)),
  (71, i_iload 72 3),
  (72, i_iload 73 2),
  (73, i_callI 76 4 (rcv 12) f_X12_endAt),
  (76, i_istore 78 6),
  (78, i_aload 79 0),
  (79, i_getR 82 12 20 (fun _ => 22)),
  (82, i_iload 84 5),
  (84, i_ald 85 20 lnR),
  (85, i_push 87 (.inl (-4))),
  (87, i_cmpne 90 112),
  (90, i_aload 91 0),
  (91, i_getR 94 12 20 (fun _ => 22)),
  (94, i_iload 96 5),
  (96, i_iload 97 3),
  (97, i_ast 98 20 lnR id),
  (98, i_aload 99 0),
  (99, i_getR 102 12 20 (fun _ => 23)),
  (102, i_iload 104 5),
  (104, i_iload 106 6),
  (106, i_iload 107 3),
  (107, i_bin 108 (fun x y => wr (x - y))),
  (108, i_ast 109 20 lnR id),
  (109, i_goto 147),
  (112, i_aload 113 0),
  (113, i_getR 116 12 20 (fun _ => 23)),
  (116, i_iload 118 5),
  (118, i_ald 119 20 lnR),
  (119, i_iload 121 6),
  (121, i_iload 122 3),
  (122, i_bin 123 (fun x y => wr (x - y))),
  (123, i_cmpne 126 145),
  (126, i_aload 127 0),
  (127, i_aload 128 0),
  (128, i_getR 131 12 20 (fun _ => 22)),
  (131, i_iload 133 5),
  (133, i_ald 134 20 lnR),
  (134, i_iload 135 3),
  (135, i_iload 137 6),
  (137, i_iload 138 3),
  (138, i_bin 139 (fun x y => wr (x - y))),
  (139, i_callI 142 4 (rcv 12) f_X12_alike),
  (142, i_ifne 145 147),
  (145, i_push 146 (.inl 0)),
  (146, i_zret),
  (147, i_iload 149 6),
  (149, i_istore 150 3),
  (150, i_goto 174),
  (153, i_aload 154 0),
  (154, i_getR 157 12 20 (fun _ => 20)),
  (157, i_iload 158 3),
  (158, i_ald 159 20 lnR),
  (159, i_aload 160 0),
  (160, i_getR 163 12 20 (fun _ => 24)),
  (163, i_iload 165 4),
  (165, i_ald 166 20 lnR),
  (166, i_cmpeq 169 171),
  (169, i_push 170 (.inl 0)),
  (170, i_zret),
  (171, i_iinc 174 3 (1)),
  (174, i_iinc 177 4 (1)),
  (177, i_goto 26),
  (180, i_iload 181 3),
  (181, i_iload 182 2),
  (182, i_cmpne 185 189),
  (185, i_push 186 (.inl 1)),
  (186, i_goto 190),
  (189, i_push 190 (.inl 0)),
  (190, i_zret)]
noncomputable def kc_X12_fits : Nat → Option Ins := lkp k_X12_fits
noncomputable def f_X12_fits : List AV → Mem → Option Rs := den 7 kc_X12_fits
abbrev rm_X12_fits : Room := { frames := 3, cells := 0, slots := 0, locals := 71 }
set_option maxRecDepth 100000 in
theorem kt_X12_fits : TriC kc_X12_fits := lkp_tri (fa1 (tri_push 1 (.inl 0)) (fa1 (tri_istore 2 3) (fa1 (tri_iload 3 3) (fa1 (tri_push 4 (.inl 3)) (fa1 (tri_cmpge 7 21) (fa1 (tri_aload 8 0) (fa1 (tri_getR 11 12 20 (fun _ => 22)) (fa1 (tri_iload 12 3) (fa1 (tri_push 14 (.inl (-4))) (fa1 (tri_ast 15 20 lnR id) (fa1 (tri_iinc 18 3 (1)) (fa1 (tri_goto 2) (fa1 (tri_iload 22 1) (fa1 (tri_istore 23 3) (fa1 (tri_push 24 (.inl 0)) (fa1 (tri_istore 26 4) (fa1 (tri_iload 28 4) (fa1 (tri_aload 29 0) (fa1 (tri_getI 32 12 42) (fa1 (tri_cmpge 35 180) (fa1 (tri_iload 36 3) (fa1 (tri_iload 37 2) (fa1 (tri_cmplt 40 42) (fa1 (tri_push 41 (.inl 0)) (fa1 (tri_zret) (fa1 (tri_aload 43 0) (fa1 (tri_getR 46 12 20 (fun _ => 24)) (fa1 (tri_iload 48 4) (fa1 (tri_ald 49 20 lnR) (fa1 (tri_push 51 (.inl 23)) (fa1 (tri_cmplt 54 153) (fa1 (tri_aload 55 0) (fa1 (tri_getR 58 12 20 (fun _ => 24)) (fa1 (tri_iload 60 4) (fa1 (tri_ald 61 20 lnR) (fa1 (tri_push 63 (.inl 23)) (fa1 (tri_bin 64 (fun x y => wr (x - y))) (fa1 (tri_istore 66 5) (fa1 (tri_aload 67 0) (fa1 (tri_aload 68 0) (fa1 (tri_getR 71 12 20 (fun _ => 20)) (fa1 (tri_iload 72 3) (fa1 (tri_iload 73 2) (fa1 (tri_callI 76 4 (rcv 12) f_X12_endAt) (fa1 (tri_istore 78 6) (fa1 (tri_aload 79 0) (fa1 (tri_getR 82 12 20 (fun _ => 22)) (fa1 (tri_iload 84 5) (fa1 (tri_ald 85 20 lnR) (fa1 (tri_push 87 (.inl (-4))) (fa1 (tri_cmpne 90 112) (fa1 (tri_aload 91 0) (fa1 (tri_getR 94 12 20 (fun _ => 22)) (fa1 (tri_iload 96 5) (fa1 (tri_iload 97 3) (fa1 (tri_ast 98 20 lnR id) (fa1 (tri_aload 99 0) (fa1 (tri_getR 102 12 20 (fun _ => 23)) (fa1 (tri_iload 104 5) (fa1 (tri_iload 106 6) (fa1 (tri_iload 107 3) (fa1 (tri_bin 108 (fun x y => wr (x - y))) (fa1 (tri_ast 109 20 lnR id) (fa1 (tri_goto 147) (fa1 (tri_aload 113 0) (fa1 (tri_getR 116 12 20 (fun _ => 23)) (fa1 (tri_iload 118 5) (fa1 (tri_ald 119 20 lnR) (fa1 (tri_iload 121 6) (fa1 (tri_iload 122 3) (fa1 (tri_bin 123 (fun x y => wr (x - y))) (fa1 (tri_cmpne 126 145) (fa1 (tri_aload 127 0) (fa1 (tri_aload 128 0) (fa1 (tri_getR 131 12 20 (fun _ => 22)) (fa1 (tri_iload 133 5) (fa1 (tri_ald 134 20 lnR) (fa1 (tri_iload 135 3) (fa1 (tri_iload 137 6) (fa1 (tri_iload 138 3) (fa1 (tri_bin 139 (fun x y => wr (x - y))) (fa1 (tri_callI 142 4 (rcv 12) f_X12_alike) (fa1 (tri_ifne 145 147) (fa1 (tri_push 146 (.inl 0)) (fa1 (tri_zret) (fa1 (tri_iload 149 6) (fa1 (tri_istore 150 3) (fa1 (tri_goto 174) (fa1 (tri_aload 154 0) (fa1 (tri_getR 157 12 20 (fun _ => 20)) (fa1 (tri_iload 158 3) (fa1 (tri_ald 159 20 lnR) (fa1 (tri_aload 160 0) (fa1 (tri_getR 163 12 20 (fun _ => 24)) (fa1 (tri_iload 165 4) (fa1 (tri_ald 166 20 lnR) (fa1 (tri_cmpeq 169 171) (fa1 (tri_push 170 (.inl 0)) (fa1 (tri_zret) (fa1 (tri_iinc 174 3 (1)) (fa1 (tri_iinc 177 4 (1)) (fa1 (tri_goto 26) (fa1 (tri_iload 181 3) (fa1 (tri_iload 182 2) (fa1 (tri_cmpne 185 189) (fa1 (tri_push 186 (.inl 1)) (fa1 (tri_goto 190) (fa1 (tri_push 190 (.inl 0)) (fa1 (tri_zret) (fa0))))))))))))))))))))))))))))))))))))))))))))))))))))))))))))))))))))))))))))))))))))))))))))))))))))))))))))))
set_option maxRecDepth 100000 in
set_option maxHeartbeats 4000000 in
theorem ks_X12_fits (G : Wp) (l : Launch) : ∀ e ∈ k_X12_fits, Snd loR G l RX12 cX12_fits 7 (some .boolean) rm_X12_fits e.1 e.2 :=
  fa1 (s_iconst (n := 0) (v := 0) (by decide +kernel) (by decide +kernel) (p32 rfl)) <|
  fa1 (s_istore_n (kf := 3) (j := 3) (by decide +kernel) rfl (by decide)) <|
  fa1 (s_iload_n (kf := 3) (j := 3) (by decide +kernel) rfl) <|
  fa1 (s_iconst (n := 3) (v := 3) (by decide +kernel) (by decide +kernel) (p32 rfl)) <|
  fa1 (s_cmpge (off := 17) (by decide +kernel) (by decide)) <|
  fa1 (s_aload_n (kf := 0) (j := 0) (by decide +kernel) rfl) <|
  fa1 (s_getR (t2 := 20) (g := (fun _ => 22)) (ci := 12) (f := 39) (idx := 73) (C := RX12) (T := TX12) (NF := 83) (by decide +kernel) rfl (by decide) inG_X12 (by decide) w_1277 lr_X12_39 (by decide)) <|
  fa1 (s_iload_n (kf := 3) (j := 3) (by decide +kernel) rfl) <|
  fa1 (s_bipush (n := -4) (v := -4) (by decide +kernel) (by decide +kernel) (p32 rfl)) <|
  fa1 (s_iast (by decide +kernel) lt_loR_20) <|
  fa1 (s_iinc (j := 3) (d := 1) (by decide +kernel) (by decide)) <|
  fa1 (s_goto (off := -16) (by decide +kernel) (by decide)) <|
  fa1 (s_iload_n (kf := 1) (j := 1) (by decide +kernel) rfl) <|
  fa1 (s_istore_n (kf := 3) (j := 3) (by decide +kernel) rfl (by decide)) <|
  fa1 (s_iconst (n := 0) (v := 0) (by decide +kernel) (by decide +kernel) (p32 rfl)) <|
  fa1 (s_istore (j := 4) (by decide +kernel) (by decide)) <|
  fa1 (s_iload (j := 4) (by decide +kernel)) <|
  fa1 (s_aload_n (kf := 0) (j := 0) (by decide +kernel) rfl) <|
  fa1 (s_getI (ci := 12) (f := 42) (idx := 314) (C := RX12) (T := TX12) (NF := 83) (by decide +kernel) rfl (by decide) inG_X12 (by decide) w_1280 li_X12_42) <|
  fa1 (s_cmpge (off := 148) (by decide +kernel) (by decide)) <|
  fa1 (s_iload_n (kf := 3) (j := 3) (by decide +kernel) rfl) <|
  fa1 (s_iload_n (kf := 2) (j := 2) (by decide +kernel) rfl) <|
  fa1 (s_cmplt (off := 5) (by decide +kernel) (by decide)) <|
  fa1 (s_iconst (n := 0) (v := 0) (by decide +kernel) (by decide +kernel) (p32 rfl)) <|
  fa1 (s_zret (by decide +kernel) rfl) <|
  fa1 (s_aload_n (kf := 0) (j := 0) (by decide +kernel) rfl) <|
  fa1 (s_getR (t2 := 20) (g := (fun _ => 24)) (ci := 12) (f := 41) (idx := 79) (C := RX12) (T := TX12) (NF := 83) (by decide +kernel) rfl (by decide) inG_X12 (by decide) w_1279 lr_X12_41 (by decide)) <|
  fa1 (s_iload (j := 4) (by decide +kernel)) <|
  fa1 (s_iald (by decide +kernel)) <|
  fa1 (s_bipush (n := 23) (v := 23) (by decide +kernel) (by decide +kernel) (p32 rfl)) <|
  fa1 (s_cmplt (off := 102) (by decide +kernel) (by decide)) <|
  fa1 (s_aload_n (kf := 0) (j := 0) (by decide +kernel) rfl) <|
  fa1 (s_getR (t2 := 20) (g := (fun _ => 24)) (ci := 12) (f := 41) (idx := 79) (C := RX12) (T := TX12) (NF := 83) (by decide +kernel) rfl (by decide) inG_X12 (by decide) w_1279 lr_X12_41 (by decide)) <|
  fa1 (s_iload (j := 4) (by decide +kernel)) <|
  fa1 (s_iald (by decide +kernel)) <|
  fa1 (s_bipush (n := 23) (v := 23) (by decide +kernel) (by decide +kernel) (p32 rfl)) <|
  fa1 (s_isub (by decide +kernel)) <|
  fa1 (s_istore (j := 5) (by decide +kernel) (by decide)) <|
  fa1 (s_aload_n (kf := 0) (j := 0) (by decide +kernel) rfl) <|
  fa1 (s_aload_n (kf := 0) (j := 0) (by decide +kernel) rfl) <|
  fa1 (s_getR (t2 := 20) (g := (fun _ => 20)) (ci := 12) (f := 35) (idx := 67) (C := RX12) (T := TX12) (NF := 83) (by decide +kernel) rfl (by decide) inG_X12 (by decide) w_1273 lr_X12_35 (by decide)) <|
  fa1 (s_iload_n (kf := 3) (j := 3) (by decide +kernel) rfl) <|
  fa1 (s_iload_n (kf := 2) (j := 2) (by decide +kernel) rfl) <|
  fa1 (s_vcallI (n := 3) (ci := 12) (C := RX12) (T := TX12) (NF := 83) (idx := 238) (y := yX12_endAt) (by decide +kernel) (gg_X12_endAt) rfl (by decide) yv_X12_endAt (all5 w_1539 w_1541 w_50 w_113 w_1542) rfl rfl ⟨by decide, by decide⟩) <|
  fa1 (s_istore (j := 6) (by decide +kernel) (by decide)) <|
  fa1 (s_aload_n (kf := 0) (j := 0) (by decide +kernel) rfl) <|
  fa1 (s_getR (t2 := 20) (g := (fun _ => 22)) (ci := 12) (f := 39) (idx := 73) (C := RX12) (T := TX12) (NF := 83) (by decide +kernel) rfl (by decide) inG_X12 (by decide) w_1277 lr_X12_39 (by decide)) <|
  fa1 (s_iload (j := 5) (by decide +kernel)) <|
  fa1 (s_iald (by decide +kernel)) <|
  fa1 (s_bipush (n := -4) (v := -4) (by decide +kernel) (by decide +kernel) (p32 rfl)) <|
  fa1 (s_cmpne (off := 25) (by decide +kernel) (by decide)) <|
  fa1 (s_aload_n (kf := 0) (j := 0) (by decide +kernel) rfl) <|
  fa1 (s_getR (t2 := 20) (g := (fun _ => 22)) (ci := 12) (f := 39) (idx := 73) (C := RX12) (T := TX12) (NF := 83) (by decide +kernel) rfl (by decide) inG_X12 (by decide) w_1277 lr_X12_39 (by decide)) <|
  fa1 (s_iload (j := 5) (by decide +kernel)) <|
  fa1 (s_iload_n (kf := 3) (j := 3) (by decide +kernel) rfl) <|
  fa1 (s_iast (by decide +kernel) lt_loR_20) <|
  fa1 (s_aload_n (kf := 0) (j := 0) (by decide +kernel) rfl) <|
  fa1 (s_getR (t2 := 20) (g := (fun _ => 23)) (ci := 12) (f := 40) (idx := 76) (C := RX12) (T := TX12) (NF := 83) (by decide +kernel) rfl (by decide) inG_X12 (by decide) w_1278 lr_X12_40 (by decide)) <|
  fa1 (s_iload (j := 5) (by decide +kernel)) <|
  fa1 (s_iload (j := 6) (by decide +kernel)) <|
  fa1 (s_iload_n (kf := 3) (j := 3) (by decide +kernel) rfl) <|
  fa1 (s_isub (by decide +kernel)) <|
  fa1 (s_iast (by decide +kernel) lt_loR_20) <|
  fa1 (s_goto (off := 38) (by decide +kernel) (by decide)) <|
  fa1 (s_aload_n (kf := 0) (j := 0) (by decide +kernel) rfl) <|
  fa1 (s_getR (t2 := 20) (g := (fun _ => 23)) (ci := 12) (f := 40) (idx := 76) (C := RX12) (T := TX12) (NF := 83) (by decide +kernel) rfl (by decide) inG_X12 (by decide) w_1278 lr_X12_40 (by decide)) <|
  fa1 (s_iload (j := 5) (by decide +kernel)) <|
  fa1 (s_iald (by decide +kernel)) <|
  fa1 (s_iload (j := 6) (by decide +kernel)) <|
  fa1 (s_iload_n (kf := 3) (j := 3) (by decide +kernel) rfl) <|
  fa1 (s_isub (by decide +kernel)) <|
  fa1 (s_cmpne (off := 22) (by decide +kernel) (by decide)) <|
  fa1 (s_aload_n (kf := 0) (j := 0) (by decide +kernel) rfl) <|
  fa1 (s_aload_n (kf := 0) (j := 0) (by decide +kernel) rfl) <|
  fa1 (s_getR (t2 := 20) (g := (fun _ => 22)) (ci := 12) (f := 39) (idx := 73) (C := RX12) (T := TX12) (NF := 83) (by decide +kernel) rfl (by decide) inG_X12 (by decide) w_1277 lr_X12_39 (by decide)) <|
  fa1 (s_iload (j := 5) (by decide +kernel)) <|
  fa1 (s_iald (by decide +kernel)) <|
  fa1 (s_iload_n (kf := 3) (j := 3) (by decide +kernel) rfl) <|
  fa1 (s_iload (j := 6) (by decide +kernel)) <|
  fa1 (s_iload_n (kf := 3) (j := 3) (by decide +kernel) rfl) <|
  fa1 (s_isub (by decide +kernel)) <|
  fa1 (s_vcallI (n := 3) (ci := 12) (C := RX12) (T := TX12) (NF := 83) (idx := 317) (y := yX12_alike) (by decide +kernel) (gg_X12_alike) rfl (by decide) yv_X12_alike (all5 w_1642 w_1644 w_68 w_113 w_1645) rfl rfl ⟨by decide, by decide⟩) <|
  fa1 (s_ifne (off := 5) (by decide +kernel) (by decide)) <|
  fa1 (s_iconst (n := 0) (v := 0) (by decide +kernel) (by decide +kernel) (p32 rfl)) <|
  fa1 (s_zret (by decide +kernel) rfl) <|
  fa1 (s_iload (j := 6) (by decide +kernel)) <|
  fa1 (s_istore_n (kf := 3) (j := 3) (by decide +kernel) rfl (by decide)) <|
  fa1 (s_goto (off := 24) (by decide +kernel) (by decide)) <|
  fa1 (s_aload_n (kf := 0) (j := 0) (by decide +kernel) rfl) <|
  fa1 (s_getR (t2 := 20) (g := (fun _ => 20)) (ci := 12) (f := 35) (idx := 67) (C := RX12) (T := TX12) (NF := 83) (by decide +kernel) rfl (by decide) inG_X12 (by decide) w_1273 lr_X12_35 (by decide)) <|
  fa1 (s_iload_n (kf := 3) (j := 3) (by decide +kernel) rfl) <|
  fa1 (s_iald (by decide +kernel)) <|
  fa1 (s_aload_n (kf := 0) (j := 0) (by decide +kernel) rfl) <|
  fa1 (s_getR (t2 := 20) (g := (fun _ => 24)) (ci := 12) (f := 41) (idx := 79) (C := RX12) (T := TX12) (NF := 83) (by decide +kernel) rfl (by decide) inG_X12 (by decide) w_1279 lr_X12_41 (by decide)) <|
  fa1 (s_iload (j := 4) (by decide +kernel)) <|
  fa1 (s_iald (by decide +kernel)) <|
  fa1 (s_cmpeq (off := 5) (by decide +kernel) (by decide)) <|
  fa1 (s_iconst (n := 0) (v := 0) (by decide +kernel) (by decide +kernel) (p32 rfl)) <|
  fa1 (s_zret (by decide +kernel) rfl) <|
  fa1 (s_iinc (j := 3) (d := 1) (by decide +kernel) (by decide)) <|
  fa1 (s_iinc (j := 4) (d := 1) (by decide +kernel) (by decide)) <|
  fa1 (s_goto (off := -151) (by decide +kernel) (by decide)) <|
  fa1 (s_iload_n (kf := 3) (j := 3) (by decide +kernel) rfl) <|
  fa1 (s_iload_n (kf := 2) (j := 2) (by decide +kernel) rfl) <|
  fa1 (s_cmpne (off := 7) (by decide +kernel) (by decide)) <|
  fa1 (s_iconst (n := 1) (v := 1) (by decide +kernel) (by decide +kernel) (p32 rfl)) <|
  fa1 (s_goto (off := 4) (by decide +kernel) (by decide)) <|
  fa1 (s_iconst (n := 0) (v := 0) (by decide +kernel) (by decide +kernel) (p32 rfl)) <|
  fa1 (s_zret (by decide +kernel) rfl) <| fa0
theorem gg_X12_fits {G : Wp} {l : Launch} : GoodM loR G l yX12_fits cX12_fits 7 (some .boolean) rm_X12_fits f_X12_fits := met_of kt_X12_fits (lkp_snd (ks_X12_fits G l)) (by decide +kernel) rfl (by decide)
noncomputable def k_X12_puts : List (Nat × Ins) := [
  (0, i_aload 1 0),
  (1, i_getI 4 12 36),
  (4, i_iload 5 2),
  (5, i_iload 6 1),
  (6, i_bin 7 (fun x y => wr (x - y))),
  (7, i_bin 8 (fun x y => wr (x - y))),
  (8, i_istore 9 3),
  (9, i_push 10 (.inl 0)),
  (10, i_istore 12 4),
  (12, i_iload 14 4),
  (14, i_aload 15 0),
  (15, i_getI 18 12 44),
  (18, i_cmpge 21 78),
  (21, i_aload 22 0),
  (22, i_getR 25 12 20 (fun _ => 25)),
  (25, i_iload 27 4),
  (27, i_ald 28 20 lnR),
  (28, i_push 30 (.inl 23)),
  (30, i_bin 31 (fun x y => wr (x - y))),
  (31, i_istore 33 5),
  (33, i_iload 35 5),
  (35, i_iflt 38 53),
  (38, i_aload 39 0),
  (39, i_getR 42 12 20 (fun _ => 22)),
  (42, i_iload 44 5),
  (44, i_ald 45 20 lnR),
  (45, i_push 47 (.inl (-4))),
  (47, i_cmpne 50 53),
  (50, i_push 52 (.inl (-23))),
  (52, i_iret),
  (53, i_iload 54 3),
  (54, i_iload 56 5),
  (56, i_iflt 59 69),
  (59, i_aload 60 0),
  (60, i_getR 63 12 20 (fun _ => 23)),
  (63, i_iload 65 5),
  (65, i_ald 66 20 lnR),
  (66, i_goto 70),
  (69, i_push 70 (.inl 1)),
  (70, i_bin 71 (fun x y => wr (x + y))),
  (71, i_istore 72 3),
  (72, i_iinc 75 4 (1)),
  (75, i_goto 12),
  (78, i_iload 79 3),
  (79, i_push 81 (.inl 20)),
  (81, i_cmple 84 87),
  (84, i_push 86 (.inl (-24))),
  (86, i_iret),
  (87, i_aload 88 0),
  (88, i_push 89 (.inl 0)),
  (89, i_putI 92 12 38),
  (92, i_push 93 (.inl 0)),
  (93, i_istore 95 4),
  (95, i_iload 97 4),
  (97, i_iload 98 1),
  (98, i_cmpge 101 133),
  (101, i_aload 102 0),
  (102, i_getR 105 12 20 (fun _ => 21)),
  (105, i_aload 106 0),
  (106, i_getI 109 12 38),
  (109, i_aload 110 0),
  (110, i_getR 113 12 20 (fun _ => 20)),
  (113, i_iload 115 4),
  (115, i_ald 116 20 lnR),
  (116, i_ast 117 20 lnR id),
  (117, i_aload 118 0),
  (118, i_dup 119),
  (119, i_getI 122 12 38),
  (122, i_push 123 (.inl 1)),
  (123, i_bin 124 (fun x y => wr (x + y))),
  (124, i_putI 127 12 38),
  (127, i_iinc 130 4 (1)),
  (130, i_goto 95),
  (133, i_push 134 (.inl 0)),
  (134, i_istore 136 4),
  (136, i_iload 138 4),
  (138, i_aload 139 0),
  (139, i_getI 142 12 44),
  (142, i_cmpge 145 242),
  (145, i_aload 146 0),
  (146, i_getR 149 12 20 (fun _ => 25)),
  (149, i_iload 151 4),
  (151, i_ald 152 20 lnR),
  (152, i_push 154 (.inl 23)),
  (154, i_bin 155 (fun x y => wr (x - y))),
  (155, i_istore 157 5),
  (157, i_push 158 (.inl 0)),
  (158, i_istore 160 6),
  (160, i_iload 162 6),
  (162, i_iload 164 5),
  (164, i_iflt 167 177),
  (167, i_aload 168 0),
  (168, i_getR 171 12 20 (fun _ => 23)),
  (171, i_iload 173 5),
  (173, i_ald 174 20 lnR),
  (174, i_goto 178),
  (177, i_push 178 (.inl 1)),
  (178, i_cmpge 181 236),
  (181, i_aload 182 0),
  (182, i_getR 185 12 20 (fun _ => 21)),
  (185, i_aload 186 0),
  (186, i_getI 189 12 38),
  (189, i_iload 191 5),
  (191, i_iflt 194 212),
  (194, i_aload 195 0),
  (195, i_getR 198 12 20 (fun _ => 20)),
  (198, i_aload 199 0),
  (199, i_getR 202 12 20 (fun _ => 22)),
  (202, i_iload 204 5),
  (204, i_ald 205 20 lnR),
  (205, i_iload 207 6),
  (207, i_bin 208 (fun x y => wr (x + y))),
  (208, i_ald 209 20 lnR),
  (209, i_goto 219),
  (212, i_aload 213 0),
  (213, i_getR 216 12 20 (fun _ => 25)),
  (216, i_iload 218 4),
  (218, i_ald 219 20 lnR),
  (219, i_ast 220 20 lnR id),
  (220, i_aload 221 0),
  (221, i_dup 222),
  (222, i_getI 225 12 38),
  (225, i_push 226 (.inl 1)),
  (226, i_bin 227 (fun x y => wr (x + y))),
  (227, i_putI 230 12 38),
  (230, i_iinc 233 6 (1)),
  (233, i_goto 160),
  (236, i_iinc 239 4 (1)),
  (239, i_goto 136),
  (242, i_iload 243 2),
  (243, i_istore 245 4),
  (245, i_iload 247 4),
  (247, i_aload 248 0),
  (248, i_getI 251 12 36),
  (251, i_cmpge 254 286),
  (254, i_aload 255 0),
  (255, i_getR 258 12 20 (fun _ => 21)),
  (258, i_aload 259 0),
  (259, i_getI 262 12 38),
  (262, i_aload 263 0),
  (263, i_getR 266 12 20 (fun _ => 20)),
  (266, i_iload 268 4),
  (268, i_ald 269 20 lnR),
  (269, i_ast 270 20 lnR id),
  (270, i_aload 271 0),
  (271, i_dup 272),
  (272, i_getI 275 12 38),
  (275, i_push 276 (.inl 1)),
  (276, i_bin 277 (fun x y => wr (x + y))),
  (277, i_putI 280 12 38),
  (280, i_iinc 283 4 (1)),
  (283, i_goto 245),
  (286, i_push 287 (.inl 0)),
  (287, i_iret)]
noncomputable def kc_X12_puts : Nat → Option Ins := lkp k_X12_puts
noncomputable def f_X12_puts : List AV → Mem → Option Rs := den 7 kc_X12_puts
abbrev rm_X12_puts : Room := { frames := 0, cells := 0, slots := 0, locals := 0 }
set_option maxRecDepth 100000 in
theorem kt_X12_puts : TriC kc_X12_puts := lkp_tri (fa1 (tri_aload 1 0) (fa1 (tri_getI 4 12 36) (fa1 (tri_iload 5 2) (fa1 (tri_iload 6 1) (fa1 (tri_bin 7 (fun x y => wr (x - y))) (fa1 (tri_bin 8 (fun x y => wr (x - y))) (fa1 (tri_istore 9 3) (fa1 (tri_push 10 (.inl 0)) (fa1 (tri_istore 12 4) (fa1 (tri_iload 14 4) (fa1 (tri_aload 15 0) (fa1 (tri_getI 18 12 44) (fa1 (tri_cmpge 21 78) (fa1 (tri_aload 22 0) (fa1 (tri_getR 25 12 20 (fun _ => 25)) (fa1 (tri_iload 27 4) (fa1 (tri_ald 28 20 lnR) (fa1 (tri_push 30 (.inl 23)) (fa1 (tri_bin 31 (fun x y => wr (x - y))) (fa1 (tri_istore 33 5) (fa1 (tri_iload 35 5) (fa1 (tri_iflt 38 53) (fa1 (tri_aload 39 0) (fa1 (tri_getR 42 12 20 (fun _ => 22)) (fa1 (tri_iload 44 5) (fa1 (tri_ald 45 20 lnR) (fa1 (tri_push 47 (.inl (-4))) (fa1 (tri_cmpne 50 53) (fa1 (tri_push 52 (.inl (-23))) (fa1 (tri_iret) (fa1 (tri_iload 54 3) (fa1 (tri_iload 56 5) (fa1 (tri_iflt 59 69) (fa1 (tri_aload 60 0) (fa1 (tri_getR 63 12 20 (fun _ => 23)) (fa1 (tri_iload 65 5) (fa1 (tri_ald 66 20 lnR) (fa1 (tri_goto 70) (fa1 (tri_push 70 (.inl 1)) (fa1 (tri_bin 71 (fun x y => wr (x + y))) (fa1 (tri_istore 72 3) (fa1 (tri_iinc 75 4 (1)) (fa1 (tri_goto 12) (fa1 (tri_iload 79 3) (fa1 (tri_push 81 (.inl 20)) (fa1 (tri_cmple 84 87) (fa1 (tri_push 86 (.inl (-24))) (fa1 (tri_iret) (fa1 (tri_aload 88 0) (fa1 (tri_push 89 (.inl 0)) (fa1 (tri_putI 92 12 38) (fa1 (tri_push 93 (.inl 0)) (fa1 (tri_istore 95 4) (fa1 (tri_iload 97 4) (fa1 (tri_iload 98 1) (fa1 (tri_cmpge 101 133) (fa1 (tri_aload 102 0) (fa1 (tri_getR 105 12 20 (fun _ => 21)) (fa1 (tri_aload 106 0) (fa1 (tri_getI 109 12 38) (fa1 (tri_aload 110 0) (fa1 (tri_getR 113 12 20 (fun _ => 20)) (fa1 (tri_iload 115 4) (fa1 (tri_ald 116 20 lnR) (fa1 (tri_ast 117 20 lnR id) (fa1 (tri_aload 118 0) (fa1 (tri_dup 119) (fa1 (tri_getI 122 12 38) (fa1 (tri_push 123 (.inl 1)) (fa1 (tri_bin 124 (fun x y => wr (x + y))) (fa1 (tri_putI 127 12 38) (fa1 (tri_iinc 130 4 (1)) (fa1 (tri_goto 95) (fa1 (tri_push 134 (.inl 0)) (fa1 (tri_istore 136 4) (fa1 (tri_iload 138 4) (fa1 (tri_aload 139 0) (fa1 (tri_getI 142 12 44) (fa1 (tri_cmpge 145 242) (fa1 (tri_aload 146 0) (fa1 (tri_getR 149 12 20 (fun _ => 25)) (fa1 (tri_iload 151 4) (fa1 (tri_ald 152 20 lnR) (fa1 (tri_push 154 (.inl 23)) (fa1 (tri_bin 155 (fun x y => wr (x - y))) (fa1 (tri_istore 157 5) (fa1 (tri_push 158 (.inl 0)) (fa1 (tri_istore 160 6) (fa1 (tri_iload 162 6) (fa1 (tri_iload 164 5) (fa1 (tri_iflt 167 177) (fa1 (tri_aload 168 0) (fa1 (tri_getR 171 12 20 (fun _ => 23)) (fa1 (tri_iload 173 5) (fa1 (tri_ald 174 20 lnR) (fa1 (tri_goto 178) (fa1 (tri_push 178 (.inl 1)) (fa1 (tri_cmpge 181 236) (fa1 (tri_aload 182 0) (fa1 (tri_getR 185 12 20 (fun _ => 21)) (fa1 (tri_aload 186 0) (fa1 (tri_getI 189 12 38) (fa1 (tri_iload 191 5) (fa1 (tri_iflt 194 212) (fa1 (tri_aload 195 0) (fa1 (tri_getR 198 12 20 (fun _ => 20)) (fa1 (tri_aload 199 0) (fa1 (tri_getR 202 12 20 (fun _ => 22)) (fa1 (tri_iload 204 5) (fa1 (tri_ald 205 20 lnR) (fa1 (tri_iload 207 6) (fa1 (tri_bin 208 (fun x y => wr (x + y))) (fa1 (tri_ald 209 20 lnR) (fa1 (tri_goto 219) (fa1 (tri_aload 213 0) (fa1 (tri_getR 216 12 20 (fun _ => 25)) (fa1 (tri_iload 218 4) (fa1 (tri_ald 219 20 lnR) (fa1 (tri_ast 220 20 lnR id) (fa1 (tri_aload 221 0) (fa1 (tri_dup 222) (fa1 (tri_getI 225 12 38) (fa1 (tri_push 226 (.inl 1)) (fa1 (tri_bin 227 (fun x y => wr (x + y))) (fa1 (tri_putI 230 12 38) (fa1 (tri_iinc 233 6 (1)) (fa1 (tri_goto 160) (fa1 (tri_iinc 239 4 (1)) (fa1 (tri_goto 136) (fa1 (tri_iload 243 2) (fa1 (tri_istore 245 4) (fa1 (tri_iload 247 4) (fa1 (tri_aload 248 0) (fa1 (tri_getI 251 12 36) (fa1 (tri_cmpge 254 286) (fa1 (tri_aload 255 0) (fa1 (tri_getR 258 12 20 (fun _ => 21)) (fa1 (tri_aload 259 0) (fa1 (tri_getI 262 12 38) (fa1 (tri_aload 263 0) (fa1 (tri_getR 266 12 20 (fun _ => 20)) (fa1 (tri_iload 268 4) (fa1 (tri_ald 269 20 lnR) (fa1 (tri_ast 270 20 lnR id) (fa1 (tri_aload 271 0) (fa1 (tri_dup 272) (fa1 (tri_getI 275 12 38) (fa1 (tri_push 276 (.inl 1)) (fa1 (tri_bin 277 (fun x y => wr (x + y))) (fa1 (tri_putI 280 12 38) (fa1 (tri_iinc 283 4 (1)) (fa1 (tri_goto 245) (fa1 (tri_push 287 (.inl 0)) (fa1 (tri_iret) (fa0)))))))))))))))))))))))))))))))))))))))))))))))))))))))))))))))))))))))))))))))))))))))))))))))))))))))))))))))))))))))))))))))))))))))))))))))))))))))))))
set_option maxRecDepth 100000 in
set_option maxHeartbeats 4000000 in
theorem ks_X12_puts (G : Wp) (l : Launch) : ∀ e ∈ k_X12_puts, Snd loR G l RX12 cX12_puts 7 (some .int) rm_X12_puts e.1 e.2 :=
  fa1 (s_aload_n (kf := 0) (j := 0) (by decide +kernel) rfl) <|
  fa1 (s_getI (ci := 12) (f := 36) (idx := 311) (C := RX12) (T := TX12) (NF := 83) (by decide +kernel) rfl (by decide) inG_X12 (by decide) w_1274 li_X12_36) <|
  fa1 (s_iload_n (kf := 2) (j := 2) (by decide +kernel) rfl) <|
  fa1 (s_iload_n (kf := 1) (j := 1) (by decide +kernel) rfl) <|
  fa1 (s_isub (by decide +kernel)) <|
  fa1 (s_isub (by decide +kernel)) <|
  fa1 (s_istore_n (kf := 3) (j := 3) (by decide +kernel) rfl (by decide)) <|
  fa1 (s_iconst (n := 0) (v := 0) (by decide +kernel) (by decide +kernel) (p32 rfl)) <|
  fa1 (s_istore (j := 4) (by decide +kernel) (by decide)) <|
  fa1 (s_iload (j := 4) (by decide +kernel)) <|
  fa1 (s_aload_n (kf := 0) (j := 0) (by decide +kernel) rfl) <|
  fa1 (s_getI (ci := 12) (f := 44) (idx := 321) (C := RX12) (T := TX12) (NF := 83) (by decide +kernel) rfl (by decide) inG_X12 (by decide) w_1282 li_X12_44) <|
  fa1 (s_cmpge (off := 60) (by decide +kernel) (by decide)) <|
  fa1 (s_aload_n (kf := 0) (j := 0) (by decide +kernel) rfl) <|
  fa1 (s_getR (t2 := 20) (g := (fun _ => 25)) (ci := 12) (f := 43) (idx := 82) (C := RX12) (T := TX12) (NF := 83) (by decide +kernel) rfl (by decide) inG_X12 (by decide) w_1281 lr_X12_43 (by decide)) <|
  fa1 (s_iload (j := 4) (by decide +kernel)) <|
  fa1 (s_iald (by decide +kernel)) <|
  fa1 (s_bipush (n := 23) (v := 23) (by decide +kernel) (by decide +kernel) (p32 rfl)) <|
  fa1 (s_isub (by decide +kernel)) <|
  fa1 (s_istore (j := 5) (by decide +kernel) (by decide)) <|
  fa1 (s_iload (j := 5) (by decide +kernel)) <|
  fa1 (s_iflt (off := 18) (by decide +kernel) (by decide)) <|
  fa1 (s_aload_n (kf := 0) (j := 0) (by decide +kernel) rfl) <|
  fa1 (s_getR (t2 := 20) (g := (fun _ => 22)) (ci := 12) (f := 39) (idx := 73) (C := RX12) (T := TX12) (NF := 83) (by decide +kernel) rfl (by decide) inG_X12 (by decide) w_1277 lr_X12_39 (by decide)) <|
  fa1 (s_iload (j := 5) (by decide +kernel)) <|
  fa1 (s_iald (by decide +kernel)) <|
  fa1 (s_bipush (n := -4) (v := -4) (by decide +kernel) (by decide +kernel) (p32 rfl)) <|
  fa1 (s_cmpne (off := 6) (by decide +kernel) (by decide)) <|
  fa1 (s_bipush (n := -23) (v := -23) (by decide +kernel) (by decide +kernel) (p32 rfl)) <|
  fa1 (s_iret (by decide +kernel) rfl) <|
  fa1 (s_iload_n (kf := 3) (j := 3) (by decide +kernel) rfl) <|
  fa1 (s_iload (j := 5) (by decide +kernel)) <|
  fa1 (s_iflt (off := 13) (by decide +kernel) (by decide)) <|
  fa1 (s_aload_n (kf := 0) (j := 0) (by decide +kernel) rfl) <|
  fa1 (s_getR (t2 := 20) (g := (fun _ => 23)) (ci := 12) (f := 40) (idx := 76) (C := RX12) (T := TX12) (NF := 83) (by decide +kernel) rfl (by decide) inG_X12 (by decide) w_1278 lr_X12_40 (by decide)) <|
  fa1 (s_iload (j := 5) (by decide +kernel)) <|
  fa1 (s_iald (by decide +kernel)) <|
  fa1 (s_goto (off := 4) (by decide +kernel) (by decide)) <|
  fa1 (s_iconst (n := 1) (v := 1) (by decide +kernel) (by decide +kernel) (p32 rfl)) <|
  fa1 (s_iadd (by decide +kernel)) <|
  fa1 (s_istore_n (kf := 3) (j := 3) (by decide +kernel) rfl (by decide)) <|
  fa1 (s_iinc (j := 4) (d := 1) (by decide +kernel) (by decide)) <|
  fa1 (s_goto (off := -63) (by decide +kernel) (by decide)) <|
  fa1 (s_iload_n (kf := 3) (j := 3) (by decide +kernel) rfl) <|
  fa1 (s_bipush (n := 20) (v := 20) (by decide +kernel) (by decide +kernel) (p32 rfl)) <|
  fa1 (s_cmple (off := 6) (by decide +kernel) (by decide)) <|
  fa1 (s_bipush (n := -24) (v := -24) (by decide +kernel) (by decide +kernel) (p32 rfl)) <|
  fa1 (s_iret (by decide +kernel) rfl) <|
  fa1 (s_aload_n (kf := 0) (j := 0) (by decide +kernel) rfl) <|
  fa1 (s_iconst (n := 0) (v := 0) (by decide +kernel) (by decide +kernel) (p32 rfl)) <|
  fa1 (s_putI (ci := 12) (f := 38) (idx := 324) (C := RX12) (T := TX12) (NF := 83) (by decide +kernel) rfl (by decide) inG_X12 (by decide) w_1276 tyX12 tyX12_ok nmX12 rfl (by decide +kernel) li_X12_38) <|
  fa1 (s_iconst (n := 0) (v := 0) (by decide +kernel) (by decide +kernel) (p32 rfl)) <|
  fa1 (s_istore (j := 4) (by decide +kernel) (by decide)) <|
  fa1 (s_iload (j := 4) (by decide +kernel)) <|
  fa1 (s_iload_n (kf := 1) (j := 1) (by decide +kernel) rfl) <|
  fa1 (s_cmpge (off := 35) (by decide +kernel) (by decide)) <|
  fa1 (s_aload_n (kf := 0) (j := 0) (by decide +kernel) rfl) <|
  fa1 (s_getR (t2 := 20) (g := (fun _ => 21)) (ci := 12) (f := 37) (idx := 70) (C := RX12) (T := TX12) (NF := 83) (by decide +kernel) rfl (by decide) inG_X12 (by decide) w_1275 lr_X12_37 (by decide)) <|
  fa1 (s_aload_n (kf := 0) (j := 0) (by decide +kernel) rfl) <|
  fa1 (s_getI (ci := 12) (f := 38) (idx := 324) (C := RX12) (T := TX12) (NF := 83) (by decide +kernel) rfl (by decide) inG_X12 (by decide) w_1276 li_X12_38) <|
  fa1 (s_aload_n (kf := 0) (j := 0) (by decide +kernel) rfl) <|
  fa1 (s_getR (t2 := 20) (g := (fun _ => 20)) (ci := 12) (f := 35) (idx := 67) (C := RX12) (T := TX12) (NF := 83) (by decide +kernel) rfl (by decide) inG_X12 (by decide) w_1273 lr_X12_35 (by decide)) <|
  fa1 (s_iload (j := 4) (by decide +kernel)) <|
  fa1 (s_iald (by decide +kernel)) <|
  fa1 (s_iast (by decide +kernel) lt_loR_20) <|
  fa1 (s_aload_n (kf := 0) (j := 0) (by decide +kernel) rfl) <|
  fa1 (s_dup (by decide +kernel)) <|
  fa1 (s_getI (ci := 12) (f := 38) (idx := 324) (C := RX12) (T := TX12) (NF := 83) (by decide +kernel) rfl (by decide) inG_X12 (by decide) w_1276 li_X12_38) <|
  fa1 (s_iconst (n := 1) (v := 1) (by decide +kernel) (by decide +kernel) (p32 rfl)) <|
  fa1 (s_iadd (by decide +kernel)) <|
  fa1 (s_putI (ci := 12) (f := 38) (idx := 324) (C := RX12) (T := TX12) (NF := 83) (by decide +kernel) rfl (by decide) inG_X12 (by decide) w_1276 tyX12 tyX12_ok nmX12 rfl (by decide +kernel) li_X12_38) <|
  fa1 (s_iinc (j := 4) (d := 1) (by decide +kernel) (by decide)) <|
  fa1 (s_goto (off := -35) (by decide +kernel) (by decide)) <|
  fa1 (s_iconst (n := 0) (v := 0) (by decide +kernel) (by decide +kernel) (p32 rfl)) <|
  fa1 (s_istore (j := 4) (by decide +kernel) (by decide)) <|
  fa1 (s_iload (j := 4) (by decide +kernel)) <|
  fa1 (s_aload_n (kf := 0) (j := 0) (by decide +kernel) rfl) <|
  fa1 (s_getI (ci := 12) (f := 44) (idx := 321) (C := RX12) (T := TX12) (NF := 83) (by decide +kernel) rfl (by decide) inG_X12 (by decide) w_1282 li_X12_44) <|
  fa1 (s_cmpge (off := 100) (by decide +kernel) (by decide)) <|
  fa1 (s_aload_n (kf := 0) (j := 0) (by decide +kernel) rfl) <|
  fa1 (s_getR (t2 := 20) (g := (fun _ => 25)) (ci := 12) (f := 43) (idx := 82) (C := RX12) (T := TX12) (NF := 83) (by decide +kernel) rfl (by decide) inG_X12 (by decide) w_1281 lr_X12_43 (by decide)) <|
  fa1 (s_iload (j := 4) (by decide +kernel)) <|
  fa1 (s_iald (by decide +kernel)) <|
  fa1 (s_bipush (n := 23) (v := 23) (by decide +kernel) (by decide +kernel) (p32 rfl)) <|
  fa1 (s_isub (by decide +kernel)) <|
  fa1 (s_istore (j := 5) (by decide +kernel) (by decide)) <|
  fa1 (s_iconst (n := 0) (v := 0) (by decide +kernel) (by decide +kernel) (p32 rfl)) <|
  fa1 (s_istore (j := 6) (by decide +kernel) (by decide)) <|
  fa1 (s_iload (j := 6) (by decide +kernel)) <|
  fa1 (s_iload (j := 5) (by decide +kernel)) <|
  fa1 (s_iflt (off := 13) (by decide +kernel) (by decide)) <|
  fa1 (s_aload_n (kf := 0) (j := 0) (by decide +kernel) rfl) <|
  fa1 (s_getR (t2 := 20) (g := (fun _ => 23)) (ci := 12) (f := 40) (idx := 76) (C := RX12) (T := TX12) (NF := 83) (by decide +kernel) rfl (by decide) inG_X12 (by decide) w_1278 lr_X12_40 (by decide)) <|
  fa1 (s_iload (j := 5) (by decide +kernel)) <|
  fa1 (s_iald (by decide +kernel)) <|
  fa1 (s_goto (off := 4) (by decide +kernel) (by decide)) <|
  fa1 (s_iconst (n := 1) (v := 1) (by decide +kernel) (by decide +kernel) (p32 rfl)) <|
  fa1 (s_cmpge (off := 58) (by decide +kernel) (by decide)) <|
  fa1 (s_aload_n (kf := 0) (j := 0) (by decide +kernel) rfl) <|
  fa1 (s_getR (t2 := 20) (g := (fun _ => 21)) (ci := 12) (f := 37) (idx := 70) (C := RX12) (T := TX12) (NF := 83) (by decide +kernel) rfl (by decide) inG_X12 (by decide) w_1275 lr_X12_37 (by decide)) <|
  fa1 (s_aload_n (kf := 0) (j := 0) (by decide +kernel) rfl) <|
  fa1 (s_getI (ci := 12) (f := 38) (idx := 324) (C := RX12) (T := TX12) (NF := 83) (by decide +kernel) rfl (by decide) inG_X12 (by decide) w_1276 li_X12_38) <|
  fa1 (s_iload (j := 5) (by decide +kernel)) <|
  fa1 (s_iflt (off := 21) (by decide +kernel) (by decide)) <|
  fa1 (s_aload_n (kf := 0) (j := 0) (by decide +kernel) rfl) <|
  fa1 (s_getR (t2 := 20) (g := (fun _ => 20)) (ci := 12) (f := 35) (idx := 67) (C := RX12) (T := TX12) (NF := 83) (by decide +kernel) rfl (by decide) inG_X12 (by decide) w_1273 lr_X12_35 (by decide)) <|
  fa1 (s_aload_n (kf := 0) (j := 0) (by decide +kernel) rfl) <|
  fa1 (s_getR (t2 := 20) (g := (fun _ => 22)) (ci := 12) (f := 39) (idx := 73) (C := RX12) (T := TX12) (NF := 83) (by decide +kernel) rfl (by decide) inG_X12 (by decide) w_1277 lr_X12_39 (by decide)) <|
  fa1 (s_iload (j := 5) (by decide +kernel)) <|
  fa1 (s_iald (by decide +kernel)) <|
  fa1 (s_iload (j := 6) (by decide +kernel)) <|
  fa1 (s_iadd (by decide +kernel)) <|
  fa1 (s_iald (by decide +kernel)) <|
  fa1 (s_goto (off := 10) (by decide +kernel) (by decide)) <|
  fa1 (s_aload_n (kf := 0) (j := 0) (by decide +kernel) rfl) <|
  fa1 (s_getR (t2 := 20) (g := (fun _ => 25)) (ci := 12) (f := 43) (idx := 82) (C := RX12) (T := TX12) (NF := 83) (by decide +kernel) rfl (by decide) inG_X12 (by decide) w_1281 lr_X12_43 (by decide)) <|
  fa1 (s_iload (j := 4) (by decide +kernel)) <|
  fa1 (s_iald (by decide +kernel)) <|
  fa1 (s_iast (by decide +kernel) lt_loR_20) <|
  fa1 (s_aload_n (kf := 0) (j := 0) (by decide +kernel) rfl) <|
  fa1 (s_dup (by decide +kernel)) <|
  fa1 (s_getI (ci := 12) (f := 38) (idx := 324) (C := RX12) (T := TX12) (NF := 83) (by decide +kernel) rfl (by decide) inG_X12 (by decide) w_1276 li_X12_38) <|
  fa1 (s_iconst (n := 1) (v := 1) (by decide +kernel) (by decide +kernel) (p32 rfl)) <|
  fa1 (s_iadd (by decide +kernel)) <|
  fa1 (s_putI (ci := 12) (f := 38) (idx := 324) (C := RX12) (T := TX12) (NF := 83) (by decide +kernel) rfl (by decide) inG_X12 (by decide) w_1276 tyX12 tyX12_ok nmX12 rfl (by decide +kernel) li_X12_38) <|
  fa1 (s_iinc (j := 6) (d := 1) (by decide +kernel) (by decide)) <|
  fa1 (s_goto (off := -73) (by decide +kernel) (by decide)) <|
  fa1 (s_iinc (j := 4) (d := 1) (by decide +kernel) (by decide)) <|
  fa1 (s_goto (off := -103) (by decide +kernel) (by decide)) <|
  fa1 (s_iload_n (kf := 2) (j := 2) (by decide +kernel) rfl) <|
  fa1 (s_istore (j := 4) (by decide +kernel) (by decide)) <|
  fa1 (s_iload (j := 4) (by decide +kernel)) <|
  fa1 (s_aload_n (kf := 0) (j := 0) (by decide +kernel) rfl) <|
  fa1 (s_getI (ci := 12) (f := 36) (idx := 311) (C := RX12) (T := TX12) (NF := 83) (by decide +kernel) rfl (by decide) inG_X12 (by decide) w_1274 li_X12_36) <|
  fa1 (s_cmpge (off := 35) (by decide +kernel) (by decide)) <|
  fa1 (s_aload_n (kf := 0) (j := 0) (by decide +kernel) rfl) <|
  fa1 (s_getR (t2 := 20) (g := (fun _ => 21)) (ci := 12) (f := 37) (idx := 70) (C := RX12) (T := TX12) (NF := 83) (by decide +kernel) rfl (by decide) inG_X12 (by decide) w_1275 lr_X12_37 (by decide)) <|
  fa1 (s_aload_n (kf := 0) (j := 0) (by decide +kernel) rfl) <|
  fa1 (s_getI (ci := 12) (f := 38) (idx := 324) (C := RX12) (T := TX12) (NF := 83) (by decide +kernel) rfl (by decide) inG_X12 (by decide) w_1276 li_X12_38) <|
  fa1 (s_aload_n (kf := 0) (j := 0) (by decide +kernel) rfl) <|
  fa1 (s_getR (t2 := 20) (g := (fun _ => 20)) (ci := 12) (f := 35) (idx := 67) (C := RX12) (T := TX12) (NF := 83) (by decide +kernel) rfl (by decide) inG_X12 (by decide) w_1273 lr_X12_35 (by decide)) <|
  fa1 (s_iload (j := 4) (by decide +kernel)) <|
  fa1 (s_iald (by decide +kernel)) <|
  fa1 (s_iast (by decide +kernel) lt_loR_20) <|
  fa1 (s_aload_n (kf := 0) (j := 0) (by decide +kernel) rfl) <|
  fa1 (s_dup (by decide +kernel)) <|
  fa1 (s_getI (ci := 12) (f := 38) (idx := 324) (C := RX12) (T := TX12) (NF := 83) (by decide +kernel) rfl (by decide) inG_X12 (by decide) w_1276 li_X12_38) <|
  fa1 (s_iconst (n := 1) (v := 1) (by decide +kernel) (by decide +kernel) (p32 rfl)) <|
  fa1 (s_iadd (by decide +kernel)) <|
  fa1 (s_putI (ci := 12) (f := 38) (idx := 324) (C := RX12) (T := TX12) (NF := 83) (by decide +kernel) rfl (by decide) inG_X12 (by decide) w_1276 tyX12 tyX12_ok nmX12 rfl (by decide +kernel) li_X12_38) <|
  fa1 (s_iinc (j := 4) (d := 1) (by decide +kernel) (by decide)) <|
  fa1 (s_goto (off := -38) (by decide +kernel) (by decide)) <|
  fa1 (s_iconst (n := 0) (v := 0) (by decide +kernel) (by decide +kernel) (p32 rfl)) <|
  fa1 (s_iret (by decide +kernel) rfl) <| fa0
theorem gg_X12_puts {G : Wp} {l : Launch} : GoodM loR G l yX12_puts cX12_puts 7 (some .int) rm_X12_puts f_X12_puts := met_of kt_X12_puts (lkp_snd (ks_X12_puts G l)) (by decide +kernel) rfl (by decide)
noncomputable def k_X12_steps : List (Nat × Ins) := [
  (0, i_iload 1 3),
  (1, i_i2l 2),
  (2, i_push 3 (.inr (.inl 0))),
  (3, i_aload 4 0),
  (4, i_getI 7 12 36),
  (7, i_push 8 (.inl 1)),
  (8, i_bin 9 (fun x y => wr (x - y))),
  (9, i_i2l 10),
  (10, i_callI 13 3 anyv f_X12_in),
  (13, i_ifne 16 19),
  (16, i_push 18 (.inl (-20))),
  (18, i_iret),
  (19, i_aload 20 0),
  (20, i_aload 21 0),
  (21, i_getR 24 12 20 (fun _ => 20)),
  (24, i_iload 25 3),
  (25, i_aload 26 0),
  (26, i_getI 29 12 36),
  (29, i_callI 32 4 (rcv 12) f_X12_endAt),
  (32, i_istore 34 4),
  (34, i_iload 35 1),
  (35, i_push 36 (.inl 1)),
  (36, i_cmpgt 39 102),
  (39, i_aload 40 0),
  (40, i_iload 41 2),
  (41, i_callI 44 2 (rcv 12) f_X12_isSaying),
  (44, i_ifeq 47 66),
  (47, i_aload 48 0),
  (48, i_getR 51 12 20 (fun _ => 7)),
  (51, i_iload 52 2),
  (52, i_ald 53 20 lnR),
  (53, i_ifeq 56 69),
  (56, i_aload 57 0),
  (57, i_getR 60 12 20 (fun _ => 7)),
  (60, i_iload 61 2),
  (61, i_ald 62 20 lnR),
  (62, i_push 63 (.inl 2)),
  (63, i_cmpeq 66 69),
  (66, i_push 68 (.inl (-21))),
  (68, i_iret),
  (69, i_aload 70 0),
  (70, i_iload 71 2),
  (71, i_iload 72 1),
  (72, i_ifne 75 79),
  (75, i_push 76 (.inl 0)),
  (76, i_goto 80),
  (79, i_push 80 (.inl 1)),
  (80, i_push 81 (.inl 1)),
  (81, i_callV 84 4 (rcv 12) f_X12_copiesSide),
  (84, i_aload 85 0),
  (85, i_iload 86 2),
  (86, i_iload 87 1),
  (87, i_ifne 90 94),
  (90, i_push 91 (.inl 1)),
  (91, i_goto 95),
  (94, i_push 95 (.inl 0)),
  (95, i_push 96 (.inl 0)),
  (96, i_callV 99 4 (rcv 12) f_X12_copiesSide),
  (99, i_goto 169),
  (102, i_iload 103 1),
  (103, i_push 104 (.inl 2)),
  (104, i_cmpne 107 146),
  (107, i_aload 108 0),
  (108, i_aload 109 0),
  (109, i_getR 112 12 20 (fun _ => 20)),
  (112, i_iload 113 3),
  (113, i_ald 114 20 lnR),
  (114, i_callI 117 2 (rcv 12) f_X12_wordBy),
  (117, i_istore 119 5),
  (119, i_iload 121 5),
  (121, i_push 123 (.inl (-4))),
  (123, i_cmpne 126 129),
  (126, i_push 128 (.inl (-21))),
  (128, i_iret),
  (129, i_aload 130 0),
  (130, i_iload 132 5),
  (132, i_push 133 (.inl 1)),
  (133, i_callV 136 3 (rcv 12) f_X12_copiesWord),
  (136, i_aload 137 0),
  (137, i_iload 139 5),
  (139, i_push 140 (.inl 0)),
  (140, i_callV 143 3 (rcv 12) f_X12_copiesMeaning),
  (143, i_goto 169),
  (146, i_aload 147 0),
  (147, i_iload 148 2),
  (148, i_callI 151 2 (rcv 12) f_X12_isWord),
  (151, i_ifne 154 157),
  (154, i_push 156 (.inl (-21))),
  (156, i_iret),
  (157, i_aload 158 0),
  (158, i_iload 159 2),
  (159, i_push 160 (.inl 1)),
  (160, i_callV 163 3 (rcv 12) f_X12_copiesMeaning),
  (163, i_aload 164 0),
  (164, i_iload 165 2),
  (165, i_push 166 (.inl 0)),
  (166, i_callV 169 3 (rcv 12) f_X12_copiesWord),
  (169, i_aload 170 0),
  (170, i_iload 171 3),
  (171, i_iload 173 4),
  (173, i_callI 176 3 (rcv 12) f_X12_fits),
  (176, i_ifeq 179 189),
  (179, i_aload 180 0),
  (180, i_iload 181 3),
  (181, i_iload 183 4),
  (183, i_callI 186 3 (rcv 12) f_X12_puts),
  (186, i_goto 191),
  (189, i_push 191 (.inl (-22))),
  (191, i_iret)]
noncomputable def kc_X12_steps : Nat → Option Ins := lkp k_X12_steps
noncomputable def f_X12_steps : List AV → Mem → Option Rs := den 6 kc_X12_steps
abbrev rm_X12_steps : Room := { frames := 4, cells := 0, slots := 0, locals := 97 }
set_option maxRecDepth 100000 in
theorem kt_X12_steps : TriC kc_X12_steps := lkp_tri (fa1 (tri_iload 1 3) (fa1 (tri_i2l 2) (fa1 (tri_push 3 (.inr (.inl 0))) (fa1 (tri_aload 4 0) (fa1 (tri_getI 7 12 36) (fa1 (tri_push 8 (.inl 1)) (fa1 (tri_bin 9 (fun x y => wr (x - y))) (fa1 (tri_i2l 10) (fa1 (tri_callI 13 3 anyv f_X12_in) (fa1 (tri_ifne 16 19) (fa1 (tri_push 18 (.inl (-20))) (fa1 (tri_iret) (fa1 (tri_aload 20 0) (fa1 (tri_aload 21 0) (fa1 (tri_getR 24 12 20 (fun _ => 20)) (fa1 (tri_iload 25 3) (fa1 (tri_aload 26 0) (fa1 (tri_getI 29 12 36) (fa1 (tri_callI 32 4 (rcv 12) f_X12_endAt) (fa1 (tri_istore 34 4) (fa1 (tri_iload 35 1) (fa1 (tri_push 36 (.inl 1)) (fa1 (tri_cmpgt 39 102) (fa1 (tri_aload 40 0) (fa1 (tri_iload 41 2) (fa1 (tri_callI 44 2 (rcv 12) f_X12_isSaying) (fa1 (tri_ifeq 47 66) (fa1 (tri_aload 48 0) (fa1 (tri_getR 51 12 20 (fun _ => 7)) (fa1 (tri_iload 52 2) (fa1 (tri_ald 53 20 lnR) (fa1 (tri_ifeq 56 69) (fa1 (tri_aload 57 0) (fa1 (tri_getR 60 12 20 (fun _ => 7)) (fa1 (tri_iload 61 2) (fa1 (tri_ald 62 20 lnR) (fa1 (tri_push 63 (.inl 2)) (fa1 (tri_cmpeq 66 69) (fa1 (tri_push 68 (.inl (-21))) (fa1 (tri_iret) (fa1 (tri_aload 70 0) (fa1 (tri_iload 71 2) (fa1 (tri_iload 72 1) (fa1 (tri_ifne 75 79) (fa1 (tri_push 76 (.inl 0)) (fa1 (tri_goto 80) (fa1 (tri_push 80 (.inl 1)) (fa1 (tri_push 81 (.inl 1)) (fa1 (tri_callV 84 4 (rcv 12) f_X12_copiesSide) (fa1 (tri_aload 85 0) (fa1 (tri_iload 86 2) (fa1 (tri_iload 87 1) (fa1 (tri_ifne 90 94) (fa1 (tri_push 91 (.inl 1)) (fa1 (tri_goto 95) (fa1 (tri_push 95 (.inl 0)) (fa1 (tri_push 96 (.inl 0)) (fa1 (tri_callV 99 4 (rcv 12) f_X12_copiesSide) (fa1 (tri_goto 169) (fa1 (tri_iload 103 1) (fa1 (tri_push 104 (.inl 2)) (fa1 (tri_cmpne 107 146) (fa1 (tri_aload 108 0) (fa1 (tri_aload 109 0) (fa1 (tri_getR 112 12 20 (fun _ => 20)) (fa1 (tri_iload 113 3) (fa1 (tri_ald 114 20 lnR) (fa1 (tri_callI 117 2 (rcv 12) f_X12_wordBy) (fa1 (tri_istore 119 5) (fa1 (tri_iload 121 5) (fa1 (tri_push 123 (.inl (-4))) (fa1 (tri_cmpne 126 129) (fa1 (tri_push 128 (.inl (-21))) (fa1 (tri_iret) (fa1 (tri_aload 130 0) (fa1 (tri_iload 132 5) (fa1 (tri_push 133 (.inl 1)) (fa1 (tri_callV 136 3 (rcv 12) f_X12_copiesWord) (fa1 (tri_aload 137 0) (fa1 (tri_iload 139 5) (fa1 (tri_push 140 (.inl 0)) (fa1 (tri_callV 143 3 (rcv 12) f_X12_copiesMeaning) (fa1 (tri_goto 169) (fa1 (tri_aload 147 0) (fa1 (tri_iload 148 2) (fa1 (tri_callI 151 2 (rcv 12) f_X12_isWord) (fa1 (tri_ifne 154 157) (fa1 (tri_push 156 (.inl (-21))) (fa1 (tri_iret) (fa1 (tri_aload 158 0) (fa1 (tri_iload 159 2) (fa1 (tri_push 160 (.inl 1)) (fa1 (tri_callV 163 3 (rcv 12) f_X12_copiesMeaning) (fa1 (tri_aload 164 0) (fa1 (tri_iload 165 2) (fa1 (tri_push 166 (.inl 0)) (fa1 (tri_callV 169 3 (rcv 12) f_X12_copiesWord) (fa1 (tri_aload 170 0) (fa1 (tri_iload 171 3) (fa1 (tri_iload 173 4) (fa1 (tri_callI 176 3 (rcv 12) f_X12_fits) (fa1 (tri_ifeq 179 189) (fa1 (tri_aload 180 0) (fa1 (tri_iload 181 3) (fa1 (tri_iload 183 4) (fa1 (tri_callI 186 3 (rcv 12) f_X12_puts) (fa1 (tri_goto 191) (fa1 (tri_push 191 (.inl (-22))) (fa1 (tri_iret) (fa0))))))))))))))))))))))))))))))))))))))))))))))))))))))))))))))))))))))))))))))))))))))))))))))))))))))))))))))
set_option maxRecDepth 100000 in
set_option maxHeartbeats 4000000 in
theorem ks_X12_steps (G : Wp) (l : Launch) : ∀ e ∈ k_X12_steps, Snd loR G l RX12 cX12_steps 6 (some .int) rm_X12_steps e.1 e.2 :=
  fa1 (s_iload_n (kf := 3) (j := 3) (by decide +kernel) rfl) <|
  fa1 (s_i2l (by decide +kernel)) <|
  fa1 (s_lconst (n := 0) (v := 0) (by decide +kernel) (by decide +kernel) (p64 rfl)) <|
  fa1 (s_aload_n (kf := 0) (j := 0) (by decide +kernel) rfl) <|
  fa1 (s_getI (ci := 12) (f := 36) (idx := 311) (C := RX12) (T := TX12) (NF := 83) (by decide +kernel) rfl (by decide) inG_X12 (by decide) w_1274 li_X12_36) <|
  fa1 (s_iconst (n := 1) (v := 1) (by decide +kernel) (by decide +kernel) (p32 rfl)) <|
  fa1 (s_isub (by decide +kernel)) <|
  fa1 (s_i2l (by decide +kernel)) <|
  fa1 (s_scallI (n := 3) (idx := 187) (y := yX12_in) (by decide +kernel) (gg_X12_in) yv_X12_in (all4 w_1498 w_1499 w_113 w_1500) rfl rfl ⟨by decide, by decide⟩) <|
  fa1 (s_ifne (off := 6) (by decide +kernel) (by decide)) <|
  fa1 (s_bipush (n := -20) (v := -20) (by decide +kernel) (by decide +kernel) (p32 rfl)) <|
  fa1 (s_iret (by decide +kernel) rfl) <|
  fa1 (s_aload_n (kf := 0) (j := 0) (by decide +kernel) rfl) <|
  fa1 (s_aload_n (kf := 0) (j := 0) (by decide +kernel) rfl) <|
  fa1 (s_getR (t2 := 20) (g := (fun _ => 20)) (ci := 12) (f := 35) (idx := 67) (C := RX12) (T := TX12) (NF := 83) (by decide +kernel) rfl (by decide) inG_X12 (by decide) w_1273 lr_X12_35 (by decide)) <|
  fa1 (s_iload_n (kf := 3) (j := 3) (by decide +kernel) rfl) <|
  fa1 (s_aload_n (kf := 0) (j := 0) (by decide +kernel) rfl) <|
  fa1 (s_getI (ci := 12) (f := 36) (idx := 311) (C := RX12) (T := TX12) (NF := 83) (by decide +kernel) rfl (by decide) inG_X12 (by decide) w_1274 li_X12_36) <|
  fa1 (s_vcallI (n := 3) (ci := 12) (C := RX12) (T := TX12) (NF := 83) (idx := 238) (y := yX12_endAt) (by decide +kernel) (gg_X12_endAt) rfl (by decide) yv_X12_endAt (all5 w_1539 w_1541 w_50 w_113 w_1542) rfl rfl ⟨by decide, by decide⟩) <|
  fa1 (s_istore (j := 4) (by decide +kernel) (by decide)) <|
  fa1 (s_iload_n (kf := 1) (j := 1) (by decide +kernel) rfl) <|
  fa1 (s_iconst (n := 1) (v := 1) (by decide +kernel) (by decide +kernel) (p32 rfl)) <|
  fa1 (s_cmpgt (off := 66) (by decide +kernel) (by decide)) <|
  fa1 (s_aload_n (kf := 0) (j := 0) (by decide +kernel) rfl) <|
  fa1 (s_iload_n (kf := 2) (j := 2) (by decide +kernel) rfl) <|
  fa1 (s_vcallI (n := 1) (ci := 12) (C := RX12) (T := TX12) (NF := 83) (idx := 287) (y := yX12_isSaying) (by decide +kernel) (gg_X12_isSaying) rfl (by decide) yv_X12_isSaying (all5 w_1581 w_1583 w_56 w_113 w_1584) rfl rfl ⟨by decide, by decide⟩) <|
  fa1 (s_ifeq (off := 22) (by decide +kernel) (by decide)) <|
  fa1 (s_aload_n (kf := 0) (j := 0) (by decide +kernel) rfl) <|
  fa1 (s_getR (t2 := 20) (g := (fun _ => 7)) (ci := 12) (f := 8) (idx := 28) (C := RX12) (T := TX12) (NF := 83) (by decide +kernel) rfl (by decide) inG_X12 (by decide) w_1246 lr_X12_8 (by decide)) <|
  fa1 (s_iload_n (kf := 2) (j := 2) (by decide +kernel) rfl) <|
  fa1 (s_iald (by decide +kernel)) <|
  fa1 (s_ifeq (off := 16) (by decide +kernel) (by decide)) <|
  fa1 (s_aload_n (kf := 0) (j := 0) (by decide +kernel) rfl) <|
  fa1 (s_getR (t2 := 20) (g := (fun _ => 7)) (ci := 12) (f := 8) (idx := 28) (C := RX12) (T := TX12) (NF := 83) (by decide +kernel) rfl (by decide) inG_X12 (by decide) w_1246 lr_X12_8 (by decide)) <|
  fa1 (s_iload_n (kf := 2) (j := 2) (by decide +kernel) rfl) <|
  fa1 (s_iald (by decide +kernel)) <|
  fa1 (s_iconst (n := 2) (v := 2) (by decide +kernel) (by decide +kernel) (p32 rfl)) <|
  fa1 (s_cmpeq (off := 6) (by decide +kernel) (by decide)) <|
  fa1 (s_bipush (n := -21) (v := -21) (by decide +kernel) (by decide +kernel) (p32 rfl)) <|
  fa1 (s_iret (by decide +kernel) rfl) <|
  fa1 (s_aload_n (kf := 0) (j := 0) (by decide +kernel) rfl) <|
  fa1 (s_iload_n (kf := 2) (j := 2) (by decide +kernel) rfl) <|
  fa1 (s_iload_n (kf := 1) (j := 1) (by decide +kernel) rfl) <|
  fa1 (s_ifne (off := 7) (by decide +kernel) (by decide)) <|
  fa1 (s_iconst (n := 0) (v := 0) (by decide +kernel) (by decide +kernel) (p32 rfl)) <|
  fa1 (s_goto (off := 4) (by decide +kernel) (by decide)) <|
  fa1 (s_iconst (n := 1) (v := 1) (by decide +kernel) (by decide +kernel) (p32 rfl)) <|
  fa1 (s_iconst (n := 1) (v := 1) (by decide +kernel) (by decide +kernel) (p32 rfl)) <|
  fa1 (s_vcallV (n := 3) (ci := 12) (C := RX12) (T := TX12) (NF := 83) (idx := 327) (y := yX12_copiesSide) (by decide +kernel) (gg_X12_copiesSide) rfl (by decide) yv_X12_copiesSide (all5 w_1626 w_1628 w_64 w_113 w_1629) rfl rfl ⟨by decide, by decide⟩) <|
  fa1 (s_aload_n (kf := 0) (j := 0) (by decide +kernel) rfl) <|
  fa1 (s_iload_n (kf := 2) (j := 2) (by decide +kernel) rfl) <|
  fa1 (s_iload_n (kf := 1) (j := 1) (by decide +kernel) rfl) <|
  fa1 (s_ifne (off := 7) (by decide +kernel) (by decide)) <|
  fa1 (s_iconst (n := 1) (v := 1) (by decide +kernel) (by decide +kernel) (p32 rfl)) <|
  fa1 (s_goto (off := 4) (by decide +kernel) (by decide)) <|
  fa1 (s_iconst (n := 0) (v := 0) (by decide +kernel) (by decide +kernel) (p32 rfl)) <|
  fa1 (s_iconst (n := 0) (v := 0) (by decide +kernel) (by decide +kernel) (p32 rfl)) <|
  fa1 (s_vcallV (n := 3) (ci := 12) (C := RX12) (T := TX12) (NF := 83) (idx := 327) (y := yX12_copiesSide) (by decide +kernel) (gg_X12_copiesSide) rfl (by decide) yv_X12_copiesSide (all5 w_1626 w_1628 w_64 w_113 w_1629) rfl rfl ⟨by decide, by decide⟩) <|
  fa1 (s_goto (off := 70) (by decide +kernel) (by decide)) <|
  fa1 (s_iload_n (kf := 1) (j := 1) (by decide +kernel) rfl) <|
  fa1 (s_iconst (n := 2) (v := 2) (by decide +kernel) (by decide +kernel) (p32 rfl)) <|
  fa1 (s_cmpne (off := 42) (by decide +kernel) (by decide)) <|
  fa1 (s_aload_n (kf := 0) (j := 0) (by decide +kernel) rfl) <|
  fa1 (s_aload_n (kf := 0) (j := 0) (by decide +kernel) rfl) <|
  fa1 (s_getR (t2 := 20) (g := (fun _ => 20)) (ci := 12) (f := 35) (idx := 67) (C := RX12) (T := TX12) (NF := 83) (by decide +kernel) rfl (by decide) inG_X12 (by decide) w_1273 lr_X12_35 (by decide)) <|
  fa1 (s_iload_n (kf := 3) (j := 3) (by decide +kernel) rfl) <|
  fa1 (s_iald (by decide +kernel)) <|
  fa1 (s_vcallI (n := 1) (ci := 12) (C := RX12) (T := TX12) (NF := 83) (idx := 177) (y := yX12_wordBy) (by decide +kernel) (gg_X12_wordBy) rfl (by decide) yv_X12_wordBy (all5 w_1530 w_1532 w_48 w_113 w_1533) rfl rfl ⟨by decide, by decide⟩) <|
  fa1 (s_istore (j := 5) (by decide +kernel) (by decide)) <|
  fa1 (s_iload (j := 5) (by decide +kernel)) <|
  fa1 (s_bipush (n := -4) (v := -4) (by decide +kernel) (by decide +kernel) (p32 rfl)) <|
  fa1 (s_cmpne (off := 6) (by decide +kernel) (by decide)) <|
  fa1 (s_bipush (n := -21) (v := -21) (by decide +kernel) (by decide +kernel) (p32 rfl)) <|
  fa1 (s_iret (by decide +kernel) rfl) <|
  fa1 (s_aload_n (kf := 0) (j := 0) (by decide +kernel) rfl) <|
  fa1 (s_iload (j := 5) (by decide +kernel)) <|
  fa1 (s_iconst (n := 1) (v := 1) (by decide +kernel) (by decide +kernel) (p32 rfl)) <|
  fa1 (s_vcallV (n := 2) (ci := 12) (C := RX12) (T := TX12) (NF := 83) (idx := 331) (y := yX12_copiesWord) (by decide +kernel) (gg_X12_copiesWord) rfl (by decide) yv_X12_copiesWord (all5 w_1630 w_1632 w_65 w_113 w_1633) rfl rfl ⟨by decide, by decide⟩) <|
  fa1 (s_aload_n (kf := 0) (j := 0) (by decide +kernel) rfl) <|
  fa1 (s_iload (j := 5) (by decide +kernel)) <|
  fa1 (s_iconst (n := 0) (v := 0) (by decide +kernel) (by decide +kernel) (p32 rfl)) <|
  fa1 (s_vcallV (n := 2) (ci := 12) (C := RX12) (T := TX12) (NF := 83) (idx := 335) (y := yX12_copiesMeaning) (by decide +kernel) (gg_X12_copiesMeaning) rfl (by decide) yv_X12_copiesMeaning (all5 w_1634 w_1636 w_66 w_113 w_1637) rfl rfl ⟨by decide, by decide⟩) <|
  fa1 (s_goto (off := 26) (by decide +kernel) (by decide)) <|
  fa1 (s_aload_n (kf := 0) (j := 0) (by decide +kernel) rfl) <|
  fa1 (s_iload_n (kf := 2) (j := 2) (by decide +kernel) rfl) <|
  fa1 (s_vcallI (n := 1) (ci := 12) (C := RX12) (T := TX12) (NF := 83) (idx := 302) (y := yX12_isWord) (by decide +kernel) (gg_X12_isWord) rfl (by decide) yv_X12_isWord (all5 w_1609 w_1611 w_60 w_113 w_1612) rfl rfl ⟨by decide, by decide⟩) <|
  fa1 (s_ifne (off := 6) (by decide +kernel) (by decide)) <|
  fa1 (s_bipush (n := -21) (v := -21) (by decide +kernel) (by decide +kernel) (p32 rfl)) <|
  fa1 (s_iret (by decide +kernel) rfl) <|
  fa1 (s_aload_n (kf := 0) (j := 0) (by decide +kernel) rfl) <|
  fa1 (s_iload_n (kf := 2) (j := 2) (by decide +kernel) rfl) <|
  fa1 (s_iconst (n := 1) (v := 1) (by decide +kernel) (by decide +kernel) (p32 rfl)) <|
  fa1 (s_vcallV (n := 2) (ci := 12) (C := RX12) (T := TX12) (NF := 83) (idx := 335) (y := yX12_copiesMeaning) (by decide +kernel) (gg_X12_copiesMeaning) rfl (by decide) yv_X12_copiesMeaning (all5 w_1634 w_1636 w_66 w_113 w_1637) rfl rfl ⟨by decide, by decide⟩) <|
  fa1 (s_aload_n (kf := 0) (j := 0) (by decide +kernel) rfl) <|
  fa1 (s_iload_n (kf := 2) (j := 2) (by decide +kernel) rfl) <|
  fa1 (s_iconst (n := 0) (v := 0) (by decide +kernel) (by decide +kernel) (p32 rfl)) <|
  fa1 (s_vcallV (n := 2) (ci := 12) (C := RX12) (T := TX12) (NF := 83) (idx := 331) (y := yX12_copiesWord) (by decide +kernel) (gg_X12_copiesWord) rfl (by decide) yv_X12_copiesWord (all5 w_1630 w_1632 w_65 w_113 w_1633) rfl rfl ⟨by decide, by decide⟩) <|
  fa1 (s_aload_n (kf := 0) (j := 0) (by decide +kernel) rfl) <|
  fa1 (s_iload_n (kf := 3) (j := 3) (by decide +kernel) rfl) <|
  fa1 (s_iload (j := 4) (by decide +kernel)) <|
  fa1 (s_vcallI (n := 2) (ci := 12) (C := RX12) (T := TX12) (NF := 83) (idx := 338) (y := yX12_fits) (by decide +kernel) (gg_X12_fits) rfl (by decide) yv_X12_fits (all5 w_1638 w_1640 w_67 w_113 w_1641) rfl rfl ⟨by decide, by decide⟩) <|
  fa1 (s_ifeq (off := 13) (by decide +kernel) (by decide)) <|
  fa1 (s_aload_n (kf := 0) (j := 0) (by decide +kernel) rfl) <|
  fa1 (s_iload_n (kf := 3) (j := 3) (by decide +kernel) rfl) <|
  fa1 (s_iload (j := 4) (by decide +kernel)) <|
  fa1 (s_vcallI (n := 2) (ci := 12) (C := RX12) (T := TX12) (NF := 83) (idx := 341) (y := yX12_puts) (by decide +kernel) (gg_X12_puts) rfl (by decide) yv_X12_puts (all5 w_1646 w_1648 w_69 w_113 w_1649) rfl rfl ⟨by decide, by decide⟩) <|
  fa1 (s_goto (off := 5) (by decide +kernel) (by decide)) <|
  fa1 (s_bipush (n := -22) (v := -22) (by decide +kernel) (by decide +kernel) (p32 rfl)) <|
  fa1 (s_iret (by decide +kernel) rfl) <| fa0
theorem gg_X12_steps {G : Wp} {l : Launch} : GoodM loR G l yX12_steps cX12_steps 6 (some .int) rm_X12_steps f_X12_steps := met_of kt_X12_steps (lkp_snd (ks_X12_steps G l)) (by decide +kernel) rfl (by decide)
noncomputable def k_X12_putsWord : List (Nat × Ins) := [
  (0, i_push 1 (.inl 0)),
  (1, i_istore 2 3),
  (2, i_aload 3 0),
  (3, i_iload 4 1),
  (4, i_callV 7 2 (rcv 12) f_X12_begins),
  (7, i_push 8 (.inl 0)),
  (8, i_istore 10 4),
  (10, i_iload 12 4),
  (12, i_aload 13 0),
  (13, i_getR 16 12 20 (fun _ => 11)),
  (16, i_iload 17 1),
  (17, i_ald 18 20 lnR),
  (18, i_cmpge 21 132),
  (21, i_aload 22 0),
  (22, i_getR 25 12 20 (fun _ => 10)),
  (25, i_iload 26 1),
  (26, i_ald 27 20 lnR),
  (27, i_iload 29 4),
  (29, i_bin 30 (fun x y => wr (x + y))),
  (30, i_istore 32 5),
  (32, i_iload 33 3),
  (33, i_ifne 36 90),
  (36, i_aload 37 0),
  (37, i_getR 40 12 20 (fun _ => 14)),
  (40, i_iload 42 5),
  (42, i_ald 43 20 lnR),
  (43, i_push 44 (.inl 3)),
  (44, i_cmpne 47 58),
  (47, i_aload 48 0),
  (48, i_getR 51 12 20 (fun _ => 15)),
  (51, i_iload 53 5),
  (53, i_ald 54 20 lnR),
  (54, i_iload 55 2),
  (55, i_cmpeq 58 90),
  (58, i_aload 59 0),
  (59, i_getR 62 12 20 (fun _ => 14)),
  (62, i_iload 64 5),
  (64, i_ald 65 20 lnR),
  (65, i_push 66 (.inl 2)),
  (66, i_cmpne 69 94),
  (69, i_aload 70 0),
  (70, i_getR 73 12 20 (fun _ => 20)),
  (73, i_aload 74 0),
  (74, i_getR 77 12 20 (fun _ => 16)),
  (77, i_iload 79 5),
  (79, i_ald 80 20 lnR),
  (80, i_ald 81 20 lnR),
  (81, i_aload 82 0),
  (82, i_getR 85 12 20 (fun _ => 1)),
  (85, i_iload 86 2),
  (86, i_ald 87 20 lnR),
  (87, i_cmpne 90 94),
  (90, i_push 91 (.inl 1)),
  (91, i_goto 95),
  (94, i_push 95 (.inl 0)),
  (95, i_istore 96 3),
  (96, i_aload 97 0),
  (97, i_aload 98 0),
  (98, i_getR 101 12 20 (fun _ => 14)),
  (101, i_iload 103 5),
  (103, i_ald 104 20 lnR),
  (104, i_aload 105 0),
  (105, i_getR 108 12 20 (fun _ => 15)),
  (108, i_iload 110 5),
  (110, i_ald 111 20 lnR),
  (111, i_aload 112 0),
  (112, i_getR 115 12 20 (fun _ => 16)),
  (115, i_iload 117 5),
  (117, i_ald 118 20 lnR),
  (118, i_callI 121 4 (rcv 12) f_X12_steps),
  (121, i_pop 122),
  (122, i_aload 123 0),
  (123, i_callV 126 1 (rcv 12) f_X12_goes),
  (126, i_iinc 129 4 (1)),
  (129, i_goto 10),
  (132, i_iload 133 3),
  (133, i_zret)]
noncomputable def kc_X12_putsWord : Nat → Option Ins := lkp k_X12_putsWord
noncomputable def f_X12_putsWord : List AV → Mem → Option Rs := den 6 kc_X12_putsWord
abbrev rm_X12_putsWord : Room := { frames := 5, cells := 0, slots := 0, locals := 122 }
set_option maxRecDepth 100000 in
theorem kt_X12_putsWord : TriC kc_X12_putsWord := lkp_tri (fa1 (tri_push 1 (.inl 0)) (fa1 (tri_istore 2 3) (fa1 (tri_aload 3 0) (fa1 (tri_iload 4 1) (fa1 (tri_callV 7 2 (rcv 12) f_X12_begins) (fa1 (tri_push 8 (.inl 0)) (fa1 (tri_istore 10 4) (fa1 (tri_iload 12 4) (fa1 (tri_aload 13 0) (fa1 (tri_getR 16 12 20 (fun _ => 11)) (fa1 (tri_iload 17 1) (fa1 (tri_ald 18 20 lnR) (fa1 (tri_cmpge 21 132) (fa1 (tri_aload 22 0) (fa1 (tri_getR 25 12 20 (fun _ => 10)) (fa1 (tri_iload 26 1) (fa1 (tri_ald 27 20 lnR) (fa1 (tri_iload 29 4) (fa1 (tri_bin 30 (fun x y => wr (x + y))) (fa1 (tri_istore 32 5) (fa1 (tri_iload 33 3) (fa1 (tri_ifne 36 90) (fa1 (tri_aload 37 0) (fa1 (tri_getR 40 12 20 (fun _ => 14)) (fa1 (tri_iload 42 5) (fa1 (tri_ald 43 20 lnR) (fa1 (tri_push 44 (.inl 3)) (fa1 (tri_cmpne 47 58) (fa1 (tri_aload 48 0) (fa1 (tri_getR 51 12 20 (fun _ => 15)) (fa1 (tri_iload 53 5) (fa1 (tri_ald 54 20 lnR) (fa1 (tri_iload 55 2) (fa1 (tri_cmpeq 58 90) (fa1 (tri_aload 59 0) (fa1 (tri_getR 62 12 20 (fun _ => 14)) (fa1 (tri_iload 64 5) (fa1 (tri_ald 65 20 lnR) (fa1 (tri_push 66 (.inl 2)) (fa1 (tri_cmpne 69 94) (fa1 (tri_aload 70 0) (fa1 (tri_getR 73 12 20 (fun _ => 20)) (fa1 (tri_aload 74 0) (fa1 (tri_getR 77 12 20 (fun _ => 16)) (fa1 (tri_iload 79 5) (fa1 (tri_ald 80 20 lnR) (fa1 (tri_ald 81 20 lnR) (fa1 (tri_aload 82 0) (fa1 (tri_getR 85 12 20 (fun _ => 1)) (fa1 (tri_iload 86 2) (fa1 (tri_ald 87 20 lnR) (fa1 (tri_cmpne 90 94) (fa1 (tri_push 91 (.inl 1)) (fa1 (tri_goto 95) (fa1 (tri_push 95 (.inl 0)) (fa1 (tri_istore 96 3) (fa1 (tri_aload 97 0) (fa1 (tri_aload 98 0) (fa1 (tri_getR 101 12 20 (fun _ => 14)) (fa1 (tri_iload 103 5) (fa1 (tri_ald 104 20 lnR) (fa1 (tri_aload 105 0) (fa1 (tri_getR 108 12 20 (fun _ => 15)) (fa1 (tri_iload 110 5) (fa1 (tri_ald 111 20 lnR) (fa1 (tri_aload 112 0) (fa1 (tri_getR 115 12 20 (fun _ => 16)) (fa1 (tri_iload 117 5) (fa1 (tri_ald 118 20 lnR) (fa1 (tri_callI 121 4 (rcv 12) f_X12_steps) (fa1 (tri_pop 122) (fa1 (tri_aload 123 0) (fa1 (tri_callV 126 1 (rcv 12) f_X12_goes) (fa1 (tri_iinc 129 4 (1)) (fa1 (tri_goto 10) (fa1 (tri_iload 133 3) (fa1 (tri_zret) (fa0))))))))))))))))))))))))))))))))))))))))))))))))))))))))))))))))))))))))))))))
set_option maxRecDepth 100000 in
set_option maxHeartbeats 4000000 in
theorem ks_X12_putsWord (G : Wp) (l : Launch) : ∀ e ∈ k_X12_putsWord, Snd loR G l RX12 cX12_putsWord 6 (some .boolean) rm_X12_putsWord e.1 e.2 :=
  fa1 (s_iconst (n := 0) (v := 0) (by decide +kernel) (by decide +kernel) (p32 rfl)) <|
  fa1 (s_istore_n (kf := 3) (j := 3) (by decide +kernel) rfl (by decide)) <|
  fa1 (s_aload_n (kf := 0) (j := 0) (by decide +kernel) rfl) <|
  fa1 (s_iload_n (kf := 1) (j := 1) (by decide +kernel) rfl) <|
  fa1 (s_vcallV (n := 1) (ci := 12) (C := RX12) (T := TX12) (NF := 83) (idx := 345) (y := yX12_begins) (by decide +kernel) (gg_X12_begins) rfl (by decide) yv_X12_begins (all5 w_1618 w_1620 w_62 w_113 w_1621) rfl rfl ⟨by decide, by decide⟩) <|
  fa1 (s_iconst (n := 0) (v := 0) (by decide +kernel) (by decide +kernel) (p32 rfl)) <|
  fa1 (s_istore (j := 4) (by decide +kernel) (by decide)) <|
  fa1 (s_iload (j := 4) (by decide +kernel)) <|
  fa1 (s_aload_n (kf := 0) (j := 0) (by decide +kernel) rfl) <|
  fa1 (s_getR (t2 := 20) (g := (fun _ => 11)) (ci := 12) (f := 12) (idx := 40) (C := RX12) (T := TX12) (NF := 83) (by decide +kernel) rfl (by decide) inG_X12 (by decide) w_1250 lr_X12_12 (by decide)) <|
  fa1 (s_iload_n (kf := 1) (j := 1) (by decide +kernel) rfl) <|
  fa1 (s_iald (by decide +kernel)) <|
  fa1 (s_cmpge (off := 114) (by decide +kernel) (by decide)) <|
  fa1 (s_aload_n (kf := 0) (j := 0) (by decide +kernel) rfl) <|
  fa1 (s_getR (t2 := 20) (g := (fun _ => 10)) (ci := 12) (f := 11) (idx := 37) (C := RX12) (T := TX12) (NF := 83) (by decide +kernel) rfl (by decide) inG_X12 (by decide) w_1249 lr_X12_11 (by decide)) <|
  fa1 (s_iload_n (kf := 1) (j := 1) (by decide +kernel) rfl) <|
  fa1 (s_iald (by decide +kernel)) <|
  fa1 (s_iload (j := 4) (by decide +kernel)) <|
  fa1 (s_iadd (by decide +kernel)) <|
  fa1 (s_istore (j := 5) (by decide +kernel) (by decide)) <|
  fa1 (s_iload_n (kf := 3) (j := 3) (by decide +kernel) rfl) <|
  fa1 (s_ifne (off := 57) (by decide +kernel) (by decide)) <|
  fa1 (s_aload_n (kf := 0) (j := 0) (by decide +kernel) rfl) <|
  fa1 (s_getR (t2 := 20) (g := (fun _ => 14)) (ci := 12) (f := 17) (idx := 49) (C := RX12) (T := TX12) (NF := 83) (by decide +kernel) rfl (by decide) inG_X12 (by decide) w_1255 lr_X12_17 (by decide)) <|
  fa1 (s_iload (j := 5) (by decide +kernel)) <|
  fa1 (s_iald (by decide +kernel)) <|
  fa1 (s_iconst (n := 3) (v := 3) (by decide +kernel) (by decide +kernel) (p32 rfl)) <|
  fa1 (s_cmpne (off := 14) (by decide +kernel) (by decide)) <|
  fa1 (s_aload_n (kf := 0) (j := 0) (by decide +kernel) rfl) <|
  fa1 (s_getR (t2 := 20) (g := (fun _ => 15)) (ci := 12) (f := 18) (idx := 52) (C := RX12) (T := TX12) (NF := 83) (by decide +kernel) rfl (by decide) inG_X12 (by decide) w_1256 lr_X12_18 (by decide)) <|
  fa1 (s_iload (j := 5) (by decide +kernel)) <|
  fa1 (s_iald (by decide +kernel)) <|
  fa1 (s_iload_n (kf := 2) (j := 2) (by decide +kernel) rfl) <|
  fa1 (s_cmpeq (off := 35) (by decide +kernel) (by decide)) <|
  fa1 (s_aload_n (kf := 0) (j := 0) (by decide +kernel) rfl) <|
  fa1 (s_getR (t2 := 20) (g := (fun _ => 14)) (ci := 12) (f := 17) (idx := 49) (C := RX12) (T := TX12) (NF := 83) (by decide +kernel) rfl (by decide) inG_X12 (by decide) w_1255 lr_X12_17 (by decide)) <|
  fa1 (s_iload (j := 5) (by decide +kernel)) <|
  fa1 (s_iald (by decide +kernel)) <|
  fa1 (s_iconst (n := 2) (v := 2) (by decide +kernel) (by decide +kernel) (p32 rfl)) <|
  fa1 (s_cmpne (off := 28) (by decide +kernel) (by decide)) <|
  fa1 (s_aload_n (kf := 0) (j := 0) (by decide +kernel) rfl) <|
  fa1 (s_getR (t2 := 20) (g := (fun _ => 20)) (ci := 12) (f := 35) (idx := 67) (C := RX12) (T := TX12) (NF := 83) (by decide +kernel) rfl (by decide) inG_X12 (by decide) w_1273 lr_X12_35 (by decide)) <|
  fa1 (s_aload_n (kf := 0) (j := 0) (by decide +kernel) rfl) <|
  fa1 (s_getR (t2 := 20) (g := (fun _ => 16)) (ci := 12) (f := 19) (idx := 55) (C := RX12) (T := TX12) (NF := 83) (by decide +kernel) rfl (by decide) inG_X12 (by decide) w_1257 lr_X12_19 (by decide)) <|
  fa1 (s_iload (j := 5) (by decide +kernel)) <|
  fa1 (s_iald (by decide +kernel)) <|
  fa1 (s_iald (by decide +kernel)) <|
  fa1 (s_aload_n (kf := 0) (j := 0) (by decide +kernel) rfl) <|
  fa1 (s_getR (t2 := 20) (g := (fun _ => 1)) (ci := 12) (f := 1) (idx := 7) (C := RX12) (T := TX12) (NF := 83) (by decide +kernel) rfl (by decide) inG_X12 (by decide) w_1239 lr_X12_1 (by decide)) <|
  fa1 (s_iload_n (kf := 2) (j := 2) (by decide +kernel) rfl) <|
  fa1 (s_iald (by decide +kernel)) <|
  fa1 (s_cmpne (off := 7) (by decide +kernel) (by decide)) <|
  fa1 (s_iconst (n := 1) (v := 1) (by decide +kernel) (by decide +kernel) (p32 rfl)) <|
  fa1 (s_goto (off := 4) (by decide +kernel) (by decide)) <|
  fa1 (s_iconst (n := 0) (v := 0) (by decide +kernel) (by decide +kernel) (p32 rfl)) <|
  fa1 (s_istore_n (kf := 3) (j := 3) (by decide +kernel) rfl (by decide)) <|
  fa1 (s_aload_n (kf := 0) (j := 0) (by decide +kernel) rfl) <|
  fa1 (s_aload_n (kf := 0) (j := 0) (by decide +kernel) rfl) <|
  fa1 (s_getR (t2 := 20) (g := (fun _ => 14)) (ci := 12) (f := 17) (idx := 49) (C := RX12) (T := TX12) (NF := 83) (by decide +kernel) rfl (by decide) inG_X12 (by decide) w_1255 lr_X12_17 (by decide)) <|
  fa1 (s_iload (j := 5) (by decide +kernel)) <|
  fa1 (s_iald (by decide +kernel)) <|
  fa1 (s_aload_n (kf := 0) (j := 0) (by decide +kernel) rfl) <|
  fa1 (s_getR (t2 := 20) (g := (fun _ => 15)) (ci := 12) (f := 18) (idx := 52) (C := RX12) (T := TX12) (NF := 83) (by decide +kernel) rfl (by decide) inG_X12 (by decide) w_1256 lr_X12_18 (by decide)) <|
  fa1 (s_iload (j := 5) (by decide +kernel)) <|
  fa1 (s_iald (by decide +kernel)) <|
  fa1 (s_aload_n (kf := 0) (j := 0) (by decide +kernel) rfl) <|
  fa1 (s_getR (t2 := 20) (g := (fun _ => 16)) (ci := 12) (f := 19) (idx := 55) (C := RX12) (T := TX12) (NF := 83) (by decide +kernel) rfl (by decide) inG_X12 (by decide) w_1257 lr_X12_19 (by decide)) <|
  fa1 (s_iload (j := 5) (by decide +kernel)) <|
  fa1 (s_iald (by decide +kernel)) <|
  fa1 (s_vcallI (n := 3) (ci := 12) (C := RX12) (T := TX12) (NF := 83) (idx := 348) (y := yX12_steps) (by decide +kernel) (gg_X12_steps) rfl (by decide) yv_X12_steps (all5 w_1622 w_1624 w_63 w_113 w_1625) rfl rfl ⟨by decide, by decide⟩) <|
  fa1 (s_pop (by decide +kernel)) <|
  fa1 (s_aload_n (kf := 0) (j := 0) (by decide +kernel) rfl) <|
  fa1 (s_vcallV (n := 0) (ci := 12) (C := RX12) (T := TX12) (NF := 83) (idx := 352) (y := yX12_goes) (by decide +kernel) (gg_X12_goes) rfl (by decide) yv_X12_goes (all5 w_1650 w_1652 w_70 w_113 w_1653) rfl rfl ⟨by decide, by decide⟩) <|
  fa1 (s_iinc (j := 4) (d := 1) (by decide +kernel) (by decide)) <|
  fa1 (s_goto (off := -119) (by decide +kernel) (by decide)) <|
  fa1 (s_iload_n (kf := 3) (j := 3) (by decide +kernel) rfl) <|
  fa1 (s_zret (by decide +kernel) rfl) <| fa0
theorem gg_X12_putsWord {G : Wp} {l : Launch} : GoodM loR G l yX12_putsWord cX12_putsWord 6 (some .boolean) rm_X12_putsWord f_X12_putsWord := met_of kt_X12_putsWord (lkp_snd (ks_X12_putsWord G l)) (by decide +kernel) rfl (by decide)
noncomputable def k_X12_word : List (Nat × Ins) := [
  (0, i_aload 1 0),
  (1, i_iload 2 1),
  (2, i_callI 5 2 (rcv 12) f_X12_isWord),
  (5, i_ifne 8 10),
  (8, i_push 9 (.inl (-1))),
  (9, i_iret),
  (10, i_iload 11 2),
  (11, i_i2l 12),
  (12, i_push 15 (.inr (.inl (10)))),
  (15, i_push 17 (.inl 9)),
  (17, i_aload 18 0),
  (18, i_getR 21 12 20 (fun _ => 3)),
  (21, i_iload 22 1),
  (22, i_ald 23 20 lnR),
  (23, i_bin 24 (fun x y => wr (x + y))),
  (24, i_i2l 25),
  (25, i_callI 28 3 anyv f_X12_in),
  (28, i_ifeq 31 46),
  (31, i_aload 32 0),
  (32, i_getR 35 12 20 (fun _ => 4)),
  (35, i_push 37 (.inl 20)),
  (37, i_iload 38 1),
  (38, i_bin 39 (fun x y => wr (x * y))),
  (39, i_iload 40 2),
  (40, i_bin 41 (fun x y => wr (x + y))),
  (41, i_push 43 (.inl 10)),
  (43, i_bin 44 (fun x y => wr (x - y))),
  (44, i_ald 45 20 lnR),
  (45, i_iret),
  (46, i_push 47 (.inl 0)),
  (47, i_istore 48 3),
  (48, i_push 49 (.inl 0)),
  (49, i_istore 51 4),
  (51, i_iload 53 4),
  (53, i_aload 54 0),
  (54, i_getI 57 12 5),
  (57, i_cmpge 60 100),
  (60, i_iload 61 2),
  (61, i_push 62 (.inl 3)),
  (62, i_cmpne 65 100),
  (65, i_iload 66 3),
  (66, i_aload 67 0),
  (67, i_getR 70 12 20 (fun _ => 7)),
  (70, i_iload 72 4),
  (72, i_ald 73 20 lnR),
  (73, i_push 74 (.inl 2)),
  (74, i_cmpne 77 91),
  (77, i_aload 78 0),
  (78, i_iload 80 4),
  (80, i_iload 81 1),
  (81, i_callI 84 3 (rcv 12) f_X12_putsWord),
  (84, i_ifeq 87 91),
  (87, i_push 88 (.inl 1)),
  (88, i_goto 92),
  (91, i_push 92 (.inl 0)),
  (92, i_bin 93 (fun x y => wr (x + y))),
  (93, i_istore 94 3),
  (94, i_iinc 97 4 (1)),
  (97, i_goto 51),
  (100, i_iload 101 2),
  (101, i_ifne 104 113),
  (104, i_aload 105 0),
  (105, i_getR 108 12 20 (fun _ => 1)),
  (108, i_iload 109 1),
  (109, i_ald 110 20 lnR),
  (110, i_goto 151),
  (113, i_iload 114 2),
  (114, i_push 115 (.inl 1)),
  (115, i_cmpne 118 127),
  (118, i_aload 119 0),
  (119, i_getR 122 12 20 (fun _ => 2)),
  (122, i_iload 123 1),
  (123, i_ald 124 20 lnR),
  (124, i_goto 151),
  (127, i_iload 128 2),
  (128, i_push 129 (.inl 2)),
  (129, i_cmpne 132 141),
  (132, i_aload 133 0),
  (133, i_getR 136 12 20 (fun _ => 3)),
  (136, i_iload 137 1),
  (137, i_ald 138 20 lnR),
  (138, i_goto 151),
  (141, i_iload 142 2),
  (142, i_push 143 (.inl 3)),
  (143, i_cmpne 146 150),
  (146, i_iload 147 3),
  (147, i_goto 151),
  (150, i_push 151 (.inl (-1))),
  (151, i_iret)]
noncomputable def kc_X12_word : Nat → Option Ins := lkp k_X12_word
noncomputable def f_X12_word : List AV → Mem → Option Rs := den 5 kc_X12_word
abbrev rm_X12_word : Room := { frames := 6, cells := 0, slots := 0, locals := 147 }
set_option maxRecDepth 100000 in
theorem kt_X12_word : TriC kc_X12_word := lkp_tri (fa1 (tri_aload 1 0) (fa1 (tri_iload 2 1) (fa1 (tri_callI 5 2 (rcv 12) f_X12_isWord) (fa1 (tri_ifne 8 10) (fa1 (tri_push 9 (.inl (-1))) (fa1 (tri_iret) (fa1 (tri_iload 11 2) (fa1 (tri_i2l 12) (fa1 (tri_push 15 (.inr (.inl (10)))) (fa1 (tri_push 17 (.inl 9)) (fa1 (tri_aload 18 0) (fa1 (tri_getR 21 12 20 (fun _ => 3)) (fa1 (tri_iload 22 1) (fa1 (tri_ald 23 20 lnR) (fa1 (tri_bin 24 (fun x y => wr (x + y))) (fa1 (tri_i2l 25) (fa1 (tri_callI 28 3 anyv f_X12_in) (fa1 (tri_ifeq 31 46) (fa1 (tri_aload 32 0) (fa1 (tri_getR 35 12 20 (fun _ => 4)) (fa1 (tri_push 37 (.inl 20)) (fa1 (tri_iload 38 1) (fa1 (tri_bin 39 (fun x y => wr (x * y))) (fa1 (tri_iload 40 2) (fa1 (tri_bin 41 (fun x y => wr (x + y))) (fa1 (tri_push 43 (.inl 10)) (fa1 (tri_bin 44 (fun x y => wr (x - y))) (fa1 (tri_ald 45 20 lnR) (fa1 (tri_iret) (fa1 (tri_push 47 (.inl 0)) (fa1 (tri_istore 48 3) (fa1 (tri_push 49 (.inl 0)) (fa1 (tri_istore 51 4) (fa1 (tri_iload 53 4) (fa1 (tri_aload 54 0) (fa1 (tri_getI 57 12 5) (fa1 (tri_cmpge 60 100) (fa1 (tri_iload 61 2) (fa1 (tri_push 62 (.inl 3)) (fa1 (tri_cmpne 65 100) (fa1 (tri_iload 66 3) (fa1 (tri_aload 67 0) (fa1 (tri_getR 70 12 20 (fun _ => 7)) (fa1 (tri_iload 72 4) (fa1 (tri_ald 73 20 lnR) (fa1 (tri_push 74 (.inl 2)) (fa1 (tri_cmpne 77 91) (fa1 (tri_aload 78 0) (fa1 (tri_iload 80 4) (fa1 (tri_iload 81 1) (fa1 (tri_callI 84 3 (rcv 12) f_X12_putsWord) (fa1 (tri_ifeq 87 91) (fa1 (tri_push 88 (.inl 1)) (fa1 (tri_goto 92) (fa1 (tri_push 92 (.inl 0)) (fa1 (tri_bin 93 (fun x y => wr (x + y))) (fa1 (tri_istore 94 3) (fa1 (tri_iinc 97 4 (1)) (fa1 (tri_goto 51) (fa1 (tri_iload 101 2) (fa1 (tri_ifne 104 113) (fa1 (tri_aload 105 0) (fa1 (tri_getR 108 12 20 (fun _ => 1)) (fa1 (tri_iload 109 1) (fa1 (tri_ald 110 20 lnR) (fa1 (tri_goto 151) (fa1 (tri_iload 114 2) (fa1 (tri_push 115 (.inl 1)) (fa1 (tri_cmpne 118 127) (fa1 (tri_aload 119 0) (fa1 (tri_getR 122 12 20 (fun _ => 2)) (fa1 (tri_iload 123 1) (fa1 (tri_ald 124 20 lnR) (fa1 (tri_goto 151) (fa1 (tri_iload 128 2) (fa1 (tri_push 129 (.inl 2)) (fa1 (tri_cmpne 132 141) (fa1 (tri_aload 133 0) (fa1 (tri_getR 136 12 20 (fun _ => 3)) (fa1 (tri_iload 137 1) (fa1 (tri_ald 138 20 lnR) (fa1 (tri_goto 151) (fa1 (tri_iload 142 2) (fa1 (tri_push 143 (.inl 3)) (fa1 (tri_cmpne 146 150) (fa1 (tri_iload 147 3) (fa1 (tri_goto 151) (fa1 (tri_push 151 (.inl (-1))) (fa1 (tri_iret) (fa0))))))))))))))))))))))))))))))))))))))))))))))))))))))))))))))))))))))))))))))))))))))))))
set_option maxRecDepth 100000 in
set_option maxHeartbeats 4000000 in
theorem ks_X12_word (G : Wp) (l : Launch) : ∀ e ∈ k_X12_word, Snd loR G l RX12 cX12_word 5 (some .int) rm_X12_word e.1 e.2 :=
  fa1 (s_aload_n (kf := 0) (j := 0) (by decide +kernel) rfl) <|
  fa1 (s_iload_n (kf := 1) (j := 1) (by decide +kernel) rfl) <|
  fa1 (s_vcallI (n := 1) (ci := 12) (C := RX12) (T := TX12) (NF := 83) (idx := 302) (y := yX12_isWord) (by decide +kernel) (gg_X12_isWord) rfl (by decide) yv_X12_isWord (all5 w_1609 w_1611 w_60 w_113 w_1612) rfl rfl ⟨by decide, by decide⟩) <|
  fa1 (s_ifne (off := 5) (by decide +kernel) (by decide)) <|
  fa1 (s_iconst (n := -1) (v := -1) (by decide +kernel) (by decide +kernel) (p32 rfl)) <|
  fa1 (s_iret (by decide +kernel) rfl) <|
  fa1 (s_iload_n (kf := 2) (j := 2) (by decide +kernel) rfl) <|
  fa1 (s_i2l (by decide +kernel)) <|
  fa1 (s_ldc2 (idx := 305) (v := 10) (by decide +kernel) w_1613 (p64 rfl)) <|
  fa1 (s_bipush (n := 9) (v := 9) (by decide +kernel) (by decide +kernel) (p32 rfl)) <|
  fa1 (s_aload_n (kf := 0) (j := 0) (by decide +kernel) rfl) <|
  fa1 (s_getR (t2 := 20) (g := (fun _ => 3)) (ci := 12) (f := 3) (idx := 16) (C := RX12) (T := TX12) (NF := 83) (by decide +kernel) rfl (by decide) inG_X12 (by decide) w_1241 lr_X12_3 (by decide)) <|
  fa1 (s_iload_n (kf := 1) (j := 1) (by decide +kernel) rfl) <|
  fa1 (s_iald (by decide +kernel)) <|
  fa1 (s_iadd (by decide +kernel)) <|
  fa1 (s_i2l (by decide +kernel)) <|
  fa1 (s_scallI (n := 3) (idx := 187) (y := yX12_in) (by decide +kernel) (gg_X12_in) yv_X12_in (all4 w_1498 w_1499 w_113 w_1500) rfl rfl ⟨by decide, by decide⟩) <|
  fa1 (s_ifeq (off := 18) (by decide +kernel) (by decide)) <|
  fa1 (s_aload_n (kf := 0) (j := 0) (by decide +kernel) rfl) <|
  fa1 (s_getR (t2 := 20) (g := (fun _ => 4)) (ci := 12) (f := 4) (idx := 19) (C := RX12) (T := TX12) (NF := 83) (by decide +kernel) rfl (by decide) inG_X12 (by decide) w_1242 lr_X12_4 (by decide)) <|
  fa1 (s_bipush (n := 20) (v := 20) (by decide +kernel) (by decide +kernel) (p32 rfl)) <|
  fa1 (s_iload_n (kf := 1) (j := 1) (by decide +kernel) rfl) <|
  fa1 (s_imul (by decide +kernel)) <|
  fa1 (s_iload_n (kf := 2) (j := 2) (by decide +kernel) rfl) <|
  fa1 (s_iadd (by decide +kernel)) <|
  fa1 (s_bipush (n := 10) (v := 10) (by decide +kernel) (by decide +kernel) (p32 rfl)) <|
  fa1 (s_isub (by decide +kernel)) <|
  fa1 (s_iald (by decide +kernel)) <|
  fa1 (s_iret (by decide +kernel) rfl) <|
  fa1 (s_iconst (n := 0) (v := 0) (by decide +kernel) (by decide +kernel) (p32 rfl)) <|
  fa1 (s_istore_n (kf := 3) (j := 3) (by decide +kernel) rfl (by decide)) <|
  fa1 (s_iconst (n := 0) (v := 0) (by decide +kernel) (by decide +kernel) (p32 rfl)) <|
  fa1 (s_istore (j := 4) (by decide +kernel) (by decide)) <|
  fa1 (s_iload (j := 4) (by decide +kernel)) <|
  fa1 (s_aload_n (kf := 0) (j := 0) (by decide +kernel) rfl) <|
  fa1 (s_getI (ci := 12) (f := 5) (idx := 184) (C := RX12) (T := TX12) (NF := 83) (by decide +kernel) rfl (by decide) inG_X12 (by decide) w_1243 li_X12_5) <|
  fa1 (s_cmpge (off := 43) (by decide +kernel) (by decide)) <|
  fa1 (s_iload_n (kf := 2) (j := 2) (by decide +kernel) rfl) <|
  fa1 (s_iconst (n := 3) (v := 3) (by decide +kernel) (by decide +kernel) (p32 rfl)) <|
  fa1 (s_cmpne (off := 38) (by decide +kernel) (by decide)) <|
  fa1 (s_iload_n (kf := 3) (j := 3) (by decide +kernel) rfl) <|
  fa1 (s_aload_n (kf := 0) (j := 0) (by decide +kernel) rfl) <|
  fa1 (s_getR (t2 := 20) (g := (fun _ => 7)) (ci := 12) (f := 8) (idx := 28) (C := RX12) (T := TX12) (NF := 83) (by decide +kernel) rfl (by decide) inG_X12 (by decide) w_1246 lr_X12_8 (by decide)) <|
  fa1 (s_iload (j := 4) (by decide +kernel)) <|
  fa1 (s_iald (by decide +kernel)) <|
  fa1 (s_iconst (n := 2) (v := 2) (by decide +kernel) (by decide +kernel) (p32 rfl)) <|
  fa1 (s_cmpne (off := 17) (by decide +kernel) (by decide)) <|
  fa1 (s_aload_n (kf := 0) (j := 0) (by decide +kernel) rfl) <|
  fa1 (s_iload (j := 4) (by decide +kernel)) <|
  fa1 (s_iload_n (kf := 1) (j := 1) (by decide +kernel) rfl) <|
  fa1 (s_vcallI (n := 2) (ci := 12) (C := RX12) (T := TX12) (NF := 83) (idx := 307) (y := yX12_putsWord) (by decide +kernel) (gg_X12_putsWord) rfl (by decide) yv_X12_putsWord (all5 w_1614 w_1616 w_61 w_113 w_1617) rfl rfl ⟨by decide, by decide⟩) <|
  fa1 (s_ifeq (off := 7) (by decide +kernel) (by decide)) <|
  fa1 (s_iconst (n := 1) (v := 1) (by decide +kernel) (by decide +kernel) (p32 rfl)) <|
  fa1 (s_goto (off := 4) (by decide +kernel) (by decide)) <|
  fa1 (s_iconst (n := 0) (v := 0) (by decide +kernel) (by decide +kernel) (p32 rfl)) <|
  fa1 (s_iadd (by decide +kernel)) <|
  fa1 (s_istore_n (kf := 3) (j := 3) (by decide +kernel) rfl (by decide)) <|
  fa1 (s_iinc (j := 4) (d := 1) (by decide +kernel) (by decide)) <|
  fa1 (s_goto (off := -46) (by decide +kernel) (by decide)) <|
  fa1 (s_iload_n (kf := 2) (j := 2) (by decide +kernel) rfl) <|
  fa1 (s_ifne (off := 12) (by decide +kernel) (by decide)) <|
  fa1 (s_aload_n (kf := 0) (j := 0) (by decide +kernel) rfl) <|
  fa1 (s_getR (t2 := 20) (g := (fun _ => 1)) (ci := 12) (f := 1) (idx := 7) (C := RX12) (T := TX12) (NF := 83) (by decide +kernel) rfl (by decide) inG_X12 (by decide) w_1239 lr_X12_1 (by decide)) <|
  fa1 (s_iload_n (kf := 1) (j := 1) (by decide +kernel) rfl) <|
  fa1 (s_iald (by decide +kernel)) <|
  fa1 (s_goto (off := 41) (by decide +kernel) (by decide)) <|
  fa1 (s_iload_n (kf := 2) (j := 2) (by decide +kernel) rfl) <|
  fa1 (s_iconst (n := 1) (v := 1) (by decide +kernel) (by decide +kernel) (p32 rfl)) <|
  fa1 (s_cmpne (off := 12) (by decide +kernel) (by decide)) <|
  fa1 (s_aload_n (kf := 0) (j := 0) (by decide +kernel) rfl) <|
  fa1 (s_getR (t2 := 20) (g := (fun _ => 2)) (ci := 12) (f := 2) (idx := 13) (C := RX12) (T := TX12) (NF := 83) (by decide +kernel) rfl (by decide) inG_X12 (by decide) w_1240 lr_X12_2 (by decide)) <|
  fa1 (s_iload_n (kf := 1) (j := 1) (by decide +kernel) rfl) <|
  fa1 (s_iald (by decide +kernel)) <|
  fa1 (s_goto (off := 27) (by decide +kernel) (by decide)) <|
  fa1 (s_iload_n (kf := 2) (j := 2) (by decide +kernel) rfl) <|
  fa1 (s_iconst (n := 2) (v := 2) (by decide +kernel) (by decide +kernel) (p32 rfl)) <|
  fa1 (s_cmpne (off := 12) (by decide +kernel) (by decide)) <|
  fa1 (s_aload_n (kf := 0) (j := 0) (by decide +kernel) rfl) <|
  fa1 (s_getR (t2 := 20) (g := (fun _ => 3)) (ci := 12) (f := 3) (idx := 16) (C := RX12) (T := TX12) (NF := 83) (by decide +kernel) rfl (by decide) inG_X12 (by decide) w_1241 lr_X12_3 (by decide)) <|
  fa1 (s_iload_n (kf := 1) (j := 1) (by decide +kernel) rfl) <|
  fa1 (s_iald (by decide +kernel)) <|
  fa1 (s_goto (off := 13) (by decide +kernel) (by decide)) <|
  fa1 (s_iload_n (kf := 2) (j := 2) (by decide +kernel) rfl) <|
  fa1 (s_iconst (n := 3) (v := 3) (by decide +kernel) (by decide +kernel) (p32 rfl)) <|
  fa1 (s_cmpne (off := 7) (by decide +kernel) (by decide)) <|
  fa1 (s_iload_n (kf := 3) (j := 3) (by decide +kernel) rfl) <|
  fa1 (s_goto (off := 4) (by decide +kernel) (by decide)) <|
  fa1 (s_iconst (n := -1) (v := -1) (by decide +kernel) (by decide +kernel) (p32 rfl)) <|
  fa1 (s_iret (by decide +kernel) rfl) <| fa0
theorem gg_X12_word {G : Wp} {l : Launch} : GoodM loR G l yX12_word cX12_word 5 (some .int) rm_X12_word f_X12_word := met_of kt_X12_word (lkp_snd (ks_X12_word G l)) (by decide +kernel) rfl (by decide)
noncomputable def k_X12_as : List (Nat × Ins) := [
  (0, i_aload 1 0),
  (1, i_iload 2 1),
  (2, i_callI 5 2 (rcv 12) f_X12_isSaying),
  (5, i_ifeq 8 20),
  (8, i_iload 9 2),
  (9, i_i2l 10),
  (10, i_push 11 (.inr (.inl 0))),
  (11, i_push 14 (.inr (.inl (999)))),
  (14, i_callI 17 3 anyv f_X12_in),
  (17, i_ifne 20 22),
  (20, i_push 21 (.inl (-1))),
  (21, i_iret),
  (22, i_iload 23 2),
  (23, i_istore 24 3),
  (24, i_iload 25 3),
  (25, i_iflt 28 49),
  (28, i_aload 29 0),
  (29, i_getR 32 12 20 (fun _ => 17)),
  (32, i_push 35 (.inl 1000)),
  (35, i_iload 36 1),
  (36, i_bin 37 (fun x y => wr (x * y))),
  (37, i_iload 38 3),
  (38, i_bin 39 (fun x y => wr (x + y))),
  (39, i_ald 40 20 lnR),
  (40, i_ifne 43 49),
  (43, i_iinc 46 3 (-1)),
  (46, i_goto 24),
  (49, i_iload 50 3),
  (50, i_ifge 53 58),
  (53, i_push 55 (.inl (-4))),
  (55, i_goto 72),
  (58, i_aload 59 0),
  (59, i_getR 62 12 20 (fun _ => 17)),
  (62, i_push 65 (.inl 1000)),
  (65, i_iload 66 1),
  (66, i_bin 67 (fun x y => wr (x * y))),
  (67, i_iload 68 3),
  (68, i_bin 69 (fun x y => wr (x + y))),
  (69, i_ald 70 20 lnR),
  (70, i_push 71 (.inl 1)),
  (71, i_bin 72 (fun x y => wr (x - y))),
  (72, i_iret)]
noncomputable def kc_X12_as : Nat → Option Ins := lkp k_X12_as
noncomputable def f_X12_as : List AV → Mem → Option Rs := den 4 kc_X12_as
abbrev rm_X12_as : Room := { frames := 2, cells := 0, slots := 0, locals := 46 }
set_option maxRecDepth 100000 in
theorem kt_X12_as : TriC kc_X12_as := lkp_tri (fa1 (tri_aload 1 0) (fa1 (tri_iload 2 1) (fa1 (tri_callI 5 2 (rcv 12) f_X12_isSaying) (fa1 (tri_ifeq 8 20) (fa1 (tri_iload 9 2) (fa1 (tri_i2l 10) (fa1 (tri_push 11 (.inr (.inl 0))) (fa1 (tri_push 14 (.inr (.inl (999)))) (fa1 (tri_callI 17 3 anyv f_X12_in) (fa1 (tri_ifne 20 22) (fa1 (tri_push 21 (.inl (-1))) (fa1 (tri_iret) (fa1 (tri_iload 23 2) (fa1 (tri_istore 24 3) (fa1 (tri_iload 25 3) (fa1 (tri_iflt 28 49) (fa1 (tri_aload 29 0) (fa1 (tri_getR 32 12 20 (fun _ => 17)) (fa1 (tri_push 35 (.inl 1000)) (fa1 (tri_iload 36 1) (fa1 (tri_bin 37 (fun x y => wr (x * y))) (fa1 (tri_iload 38 3) (fa1 (tri_bin 39 (fun x y => wr (x + y))) (fa1 (tri_ald 40 20 lnR) (fa1 (tri_ifne 43 49) (fa1 (tri_iinc 46 3 (-1)) (fa1 (tri_goto 24) (fa1 (tri_iload 50 3) (fa1 (tri_ifge 53 58) (fa1 (tri_push 55 (.inl (-4))) (fa1 (tri_goto 72) (fa1 (tri_aload 59 0) (fa1 (tri_getR 62 12 20 (fun _ => 17)) (fa1 (tri_push 65 (.inl 1000)) (fa1 (tri_iload 66 1) (fa1 (tri_bin 67 (fun x y => wr (x * y))) (fa1 (tri_iload 68 3) (fa1 (tri_bin 69 (fun x y => wr (x + y))) (fa1 (tri_ald 70 20 lnR) (fa1 (tri_push 71 (.inl 1)) (fa1 (tri_bin 72 (fun x y => wr (x - y))) (fa1 (tri_iret) (fa0)))))))))))))))))))))))))))))))))))))))))))
set_option maxRecDepth 100000 in
set_option maxHeartbeats 4000000 in
theorem ks_X12_as (G : Wp) (l : Launch) : ∀ e ∈ k_X12_as, Snd loR G l RX12 cX12_as 4 (some .int) rm_X12_as e.1 e.2 :=
  fa1 (s_aload_n (kf := 0) (j := 0) (by decide +kernel) rfl) <|
  fa1 (s_iload_n (kf := 1) (j := 1) (by decide +kernel) rfl) <|
  fa1 (s_vcallI (n := 1) (ci := 12) (C := RX12) (T := TX12) (NF := 83) (idx := 287) (y := yX12_isSaying) (by decide +kernel) (gg_X12_isSaying) rfl (by decide) yv_X12_isSaying (all5 w_1581 w_1583 w_56 w_113 w_1584) rfl rfl ⟨by decide, by decide⟩) <|
  fa1 (s_ifeq (off := 15) (by decide +kernel) (by decide)) <|
  fa1 (s_iload_n (kf := 2) (j := 2) (by decide +kernel) rfl) <|
  fa1 (s_i2l (by decide +kernel)) <|
  fa1 (s_lconst (n := 0) (v := 0) (by decide +kernel) (by decide +kernel) (p64 rfl)) <|
  fa1 (s_ldc2 (idx := 285) (v := 999) (by decide +kernel) w_1576 (p64 rfl)) <|
  fa1 (s_scallI (n := 3) (idx := 187) (y := yX12_in) (by decide +kernel) (gg_X12_in) yv_X12_in (all4 w_1498 w_1499 w_113 w_1500) rfl rfl ⟨by decide, by decide⟩) <|
  fa1 (s_ifne (off := 5) (by decide +kernel) (by decide)) <|
  fa1 (s_iconst (n := -1) (v := -1) (by decide +kernel) (by decide +kernel) (p32 rfl)) <|
  fa1 (s_iret (by decide +kernel) rfl) <|
  fa1 (s_iload_n (kf := 2) (j := 2) (by decide +kernel) rfl) <|
  fa1 (s_istore_n (kf := 3) (j := 3) (by decide +kernel) rfl (by decide)) <|
  fa1 (s_iload_n (kf := 3) (j := 3) (by decide +kernel) rfl) <|
  fa1 (s_iflt (off := 24) (by decide +kernel) (by decide)) <|
  fa1 (s_aload_n (kf := 0) (j := 0) (by decide +kernel) rfl) <|
  fa1 (s_getR (t2 := 20) (g := (fun _ => 17)) (ci := 12) (f := 20) (idx := 58) (C := RX12) (T := TX12) (NF := 83) (by decide +kernel) rfl (by decide) inG_X12 (by decide) w_1258 lr_X12_20 (by decide)) <|
  fa1 (s_sipush (n := 1000) (v := 1000) (by decide +kernel) (by decide +kernel) (p32 rfl)) <|
  fa1 (s_iload_n (kf := 1) (j := 1) (by decide +kernel) rfl) <|
  fa1 (s_imul (by decide +kernel)) <|
  fa1 (s_iload_n (kf := 3) (j := 3) (by decide +kernel) rfl) <|
  fa1 (s_iadd (by decide +kernel)) <|
  fa1 (s_iald (by decide +kernel)) <|
  fa1 (s_ifne (off := 9) (by decide +kernel) (by decide)) <|
  fa1 (s_iinc (j := 3) (d := -1) (by decide +kernel) (by decide)) <|
  fa1 (s_goto (off := -22) (by decide +kernel) (by decide)) <|
  fa1 (s_iload_n (kf := 3) (j := 3) (by decide +kernel) rfl) <|
  fa1 (s_ifge (off := 8) (by decide +kernel) (by decide)) <|
  fa1 (s_bipush (n := -4) (v := -4) (by decide +kernel) (by decide +kernel) (p32 rfl)) <|
  fa1 (s_goto (off := 17) (by decide +kernel) (by decide)) <|
  fa1 (s_aload_n (kf := 0) (j := 0) (by decide +kernel) rfl) <|
  fa1 (s_getR (t2 := 20) (g := (fun _ => 17)) (ci := 12) (f := 20) (idx := 58) (C := RX12) (T := TX12) (NF := 83) (by decide +kernel) rfl (by decide) inG_X12 (by decide) w_1258 lr_X12_20 (by decide)) <|
  fa1 (s_sipush (n := 1000) (v := 1000) (by decide +kernel) (by decide +kernel) (p32 rfl)) <|
  fa1 (s_iload_n (kf := 1) (j := 1) (by decide +kernel) rfl) <|
  fa1 (s_imul (by decide +kernel)) <|
  fa1 (s_iload_n (kf := 3) (j := 3) (by decide +kernel) rfl) <|
  fa1 (s_iadd (by decide +kernel)) <|
  fa1 (s_iald (by decide +kernel)) <|
  fa1 (s_iconst (n := 1) (v := 1) (by decide +kernel) (by decide +kernel) (p32 rfl)) <|
  fa1 (s_isub (by decide +kernel)) <|
  fa1 (s_iret (by decide +kernel) rfl) <| fa0
theorem gg_X12_as {G : Wp} {l : Launch} : GoodM loR G l yX12_as cX12_as 4 (some .int) rm_X12_as f_X12_as := met_of kt_X12_as (lkp_snd (ks_X12_as G l)) (by decide +kernel) rfl (by decide)
noncomputable def k_X12_isAtRight : List (Nat × Ins) := [
  (0, i_aload 1 0),
  (1, i_getI 4 12 36),
  (4, i_aload 5 0),
  (5, i_getR 8 12 20 (fun _ => 6)),
  (8, i_push 9 (.inl 2)),
  (9, i_iload 10 1),
  (10, i_bin 11 (fun x y => wr (x * y))),
  (11, i_push 12 (.inl 1)),
  (12, i_bin 13 (fun x y => wr (x + y))),
  (13, i_ald 14 20 lnR),
  (14, i_cmpne 17 21),
  (17, i_push 18 (.inl 1)),
  (18, i_goto 22),
  (21, i_push 22 (.inl 0)),
  (22, i_istore 23 2),
  (23, i_push 24 (.inl 0)),
  (24, i_istore 25 3),
  (25, i_iload 26 3),
  (26, i_aload 27 0),
  (27, i_getI 30 12 36),
  (30, i_cmpge 33 72),
  (33, i_iload 34 2),
  (34, i_ifeq 37 72),
  (37, i_aload 38 0),
  (38, i_getR 41 12 20 (fun _ => 20)),
  (41, i_iload 42 3),
  (42, i_ald 43 20 lnR),
  (43, i_aload 44 0),
  (44, i_getR 47 12 20 (fun _ => 5)),
  (47, i_push 49 (.inl 40)),
  (49, i_iload 50 1),
  (50, i_bin 51 (fun x y => wr (x * y))),
  (51, i_push 53 (.inl 20)),
  (53, i_bin 54 (fun x y => wr (x + y))),
  (54, i_iload 55 3),
  (55, i_bin 56 (fun x y => wr (x + y))),
  (56, i_ald 57 20 lnR),
  (57, i_cmpne 60 64),
  (60, i_push 61 (.inl 1)),
  (61, i_goto 65),
  (64, i_push 65 (.inl 0)),
  (65, i_istore 66 2),
  (66, i_iinc 69 3 (1)),
  (69, i_goto 25),
  (72, i_iload 73 2),
  (73, i_zret)]
noncomputable def kc_X12_isAtRight : Nat → Option Ins := lkp k_X12_isAtRight
noncomputable def f_X12_isAtRight : List AV → Mem → Option Rs := den 4 kc_X12_isAtRight
abbrev rm_X12_isAtRight : Room := { frames := 0, cells := 0, slots := 0, locals := 0 }
set_option maxRecDepth 100000 in
theorem kt_X12_isAtRight : TriC kc_X12_isAtRight := lkp_tri (fa1 (tri_aload 1 0) (fa1 (tri_getI 4 12 36) (fa1 (tri_aload 5 0) (fa1 (tri_getR 8 12 20 (fun _ => 6)) (fa1 (tri_push 9 (.inl 2)) (fa1 (tri_iload 10 1) (fa1 (tri_bin 11 (fun x y => wr (x * y))) (fa1 (tri_push 12 (.inl 1)) (fa1 (tri_bin 13 (fun x y => wr (x + y))) (fa1 (tri_ald 14 20 lnR) (fa1 (tri_cmpne 17 21) (fa1 (tri_push 18 (.inl 1)) (fa1 (tri_goto 22) (fa1 (tri_push 22 (.inl 0)) (fa1 (tri_istore 23 2) (fa1 (tri_push 24 (.inl 0)) (fa1 (tri_istore 25 3) (fa1 (tri_iload 26 3) (fa1 (tri_aload 27 0) (fa1 (tri_getI 30 12 36) (fa1 (tri_cmpge 33 72) (fa1 (tri_iload 34 2) (fa1 (tri_ifeq 37 72) (fa1 (tri_aload 38 0) (fa1 (tri_getR 41 12 20 (fun _ => 20)) (fa1 (tri_iload 42 3) (fa1 (tri_ald 43 20 lnR) (fa1 (tri_aload 44 0) (fa1 (tri_getR 47 12 20 (fun _ => 5)) (fa1 (tri_push 49 (.inl 40)) (fa1 (tri_iload 50 1) (fa1 (tri_bin 51 (fun x y => wr (x * y))) (fa1 (tri_push 53 (.inl 20)) (fa1 (tri_bin 54 (fun x y => wr (x + y))) (fa1 (tri_iload 55 3) (fa1 (tri_bin 56 (fun x y => wr (x + y))) (fa1 (tri_ald 57 20 lnR) (fa1 (tri_cmpne 60 64) (fa1 (tri_push 61 (.inl 1)) (fa1 (tri_goto 65) (fa1 (tri_push 65 (.inl 0)) (fa1 (tri_istore 66 2) (fa1 (tri_iinc 69 3 (1)) (fa1 (tri_goto 25) (fa1 (tri_iload 73 2) (fa1 (tri_zret) (fa0)))))))))))))))))))))))))))))))))))))))))))))))
set_option maxRecDepth 100000 in
set_option maxHeartbeats 4000000 in
theorem ks_X12_isAtRight (G : Wp) (l : Launch) : ∀ e ∈ k_X12_isAtRight, Snd loR G l RX12 cX12_isAtRight 4 (some .boolean) rm_X12_isAtRight e.1 e.2 :=
  fa1 (s_aload_n (kf := 0) (j := 0) (by decide +kernel) rfl) <|
  fa1 (s_getI (ci := 12) (f := 36) (idx := 311) (C := RX12) (T := TX12) (NF := 83) (by decide +kernel) rfl (by decide) inG_X12 (by decide) w_1274 li_X12_36) <|
  fa1 (s_aload_n (kf := 0) (j := 0) (by decide +kernel) rfl) <|
  fa1 (s_getR (t2 := 20) (g := (fun _ => 6)) (ci := 12) (f := 7) (idx := 25) (C := RX12) (T := TX12) (NF := 83) (by decide +kernel) rfl (by decide) inG_X12 (by decide) w_1245 lr_X12_7 (by decide)) <|
  fa1 (s_iconst (n := 2) (v := 2) (by decide +kernel) (by decide +kernel) (p32 rfl)) <|
  fa1 (s_iload_n (kf := 1) (j := 1) (by decide +kernel) rfl) <|
  fa1 (s_imul (by decide +kernel)) <|
  fa1 (s_iconst (n := 1) (v := 1) (by decide +kernel) (by decide +kernel) (p32 rfl)) <|
  fa1 (s_iadd (by decide +kernel)) <|
  fa1 (s_iald (by decide +kernel)) <|
  fa1 (s_cmpne (off := 7) (by decide +kernel) (by decide)) <|
  fa1 (s_iconst (n := 1) (v := 1) (by decide +kernel) (by decide +kernel) (p32 rfl)) <|
  fa1 (s_goto (off := 4) (by decide +kernel) (by decide)) <|
  fa1 (s_iconst (n := 0) (v := 0) (by decide +kernel) (by decide +kernel) (p32 rfl)) <|
  fa1 (s_istore_n (kf := 2) (j := 2) (by decide +kernel) rfl (by decide)) <|
  fa1 (s_iconst (n := 0) (v := 0) (by decide +kernel) (by decide +kernel) (p32 rfl)) <|
  fa1 (s_istore_n (kf := 3) (j := 3) (by decide +kernel) rfl (by decide)) <|
  fa1 (s_iload_n (kf := 3) (j := 3) (by decide +kernel) rfl) <|
  fa1 (s_aload_n (kf := 0) (j := 0) (by decide +kernel) rfl) <|
  fa1 (s_getI (ci := 12) (f := 36) (idx := 311) (C := RX12) (T := TX12) (NF := 83) (by decide +kernel) rfl (by decide) inG_X12 (by decide) w_1274 li_X12_36) <|
  fa1 (s_cmpge (off := 42) (by decide +kernel) (by decide)) <|
  fa1 (s_iload_n (kf := 2) (j := 2) (by decide +kernel) rfl) <|
  fa1 (s_ifeq (off := 38) (by decide +kernel) (by decide)) <|
  fa1 (s_aload_n (kf := 0) (j := 0) (by decide +kernel) rfl) <|
  fa1 (s_getR (t2 := 20) (g := (fun _ => 20)) (ci := 12) (f := 35) (idx := 67) (C := RX12) (T := TX12) (NF := 83) (by decide +kernel) rfl (by decide) inG_X12 (by decide) w_1273 lr_X12_35 (by decide)) <|
  fa1 (s_iload_n (kf := 3) (j := 3) (by decide +kernel) rfl) <|
  fa1 (s_iald (by decide +kernel)) <|
  fa1 (s_aload_n (kf := 0) (j := 0) (by decide +kernel) rfl) <|
  fa1 (s_getR (t2 := 20) (g := (fun _ => 5)) (ci := 12) (f := 6) (idx := 22) (C := RX12) (T := TX12) (NF := 83) (by decide +kernel) rfl (by decide) inG_X12 (by decide) w_1244 lr_X12_6 (by decide)) <|
  fa1 (s_bipush (n := 40) (v := 40) (by decide +kernel) (by decide +kernel) (p32 rfl)) <|
  fa1 (s_iload_n (kf := 1) (j := 1) (by decide +kernel) rfl) <|
  fa1 (s_imul (by decide +kernel)) <|
  fa1 (s_bipush (n := 20) (v := 20) (by decide +kernel) (by decide +kernel) (p32 rfl)) <|
  fa1 (s_iadd (by decide +kernel)) <|
  fa1 (s_iload_n (kf := 3) (j := 3) (by decide +kernel) rfl) <|
  fa1 (s_iadd (by decide +kernel)) <|
  fa1 (s_iald (by decide +kernel)) <|
  fa1 (s_cmpne (off := 7) (by decide +kernel) (by decide)) <|
  fa1 (s_iconst (n := 1) (v := 1) (by decide +kernel) (by decide +kernel) (p32 rfl)) <|
  fa1 (s_goto (off := 4) (by decide +kernel) (by decide)) <|
  fa1 (s_iconst (n := 0) (v := 0) (by decide +kernel) (by decide +kernel) (p32 rfl)) <|
  fa1 (s_istore_n (kf := 2) (j := 2) (by decide +kernel) rfl (by decide)) <|
  fa1 (s_iinc (j := 3) (d := 1) (by decide +kernel) (by decide)) <|
  fa1 (s_goto (off := -44) (by decide +kernel) (by decide)) <|
  fa1 (s_iload_n (kf := 2) (j := 2) (by decide +kernel) rfl) <|
  fa1 (s_zret (by decide +kernel) rfl) <| fa0
theorem gg_X12_isAtRight {G : Wp} {l : Launch} : GoodM loR G l yX12_isAtRight cX12_isAtRight 4 (some .boolean) rm_X12_isAtRight f_X12_isAtRight := met_of kt_X12_isAtRight (lkp_snd (ks_X12_isAtRight G l)) (by decide +kernel) rfl (by decide)
noncomputable def k_X12_goesThrough : List (Nat × Ins) := [
  (0, i_aload 1 0),
  (1, i_iload 2 1),
  (2, i_callV 5 2 (rcv 12) f_X12_begins),
  (5, i_push 6 (.inl 0)),
  (6, i_istore 7 2),
  (7, i_iload 8 2),
  (8, i_aload 9 0),
  (9, i_getR 12 12 20 (fun _ => 11)),
  (12, i_iload 13 1),
  (13, i_ald 14 20 lnR),
  (14, i_cmpge 17 73),
  (17, i_aload 18 0),
  (18, i_aload 19 0),
  (19, i_getR 22 12 20 (fun _ => 14)),
  (22, i_aload 23 0),
  (23, i_getR 26 12 20 (fun _ => 10)),
  (26, i_iload 27 1),
  (27, i_ald 28 20 lnR),
  (28, i_iload 29 2),
  (29, i_bin 30 (fun x y => wr (x + y))),
  (30, i_ald 31 20 lnR),
  (31, i_aload 32 0),
  (32, i_getR 35 12 20 (fun _ => 15)),
  (35, i_aload 36 0),
  (36, i_getR 39 12 20 (fun _ => 10)),
  (39, i_iload 40 1),
  (40, i_ald 41 20 lnR),
  (41, i_iload 42 2),
  (42, i_bin 43 (fun x y => wr (x + y))),
  (43, i_ald 44 20 lnR),
  (44, i_aload 45 0),
  (45, i_getR 48 12 20 (fun _ => 16)),
  (48, i_aload 49 0),
  (49, i_getR 52 12 20 (fun _ => 10)),
  (52, i_iload 53 1),
  (53, i_ald 54 20 lnR),
  (54, i_iload 55 2),
  (55, i_bin 56 (fun x y => wr (x + y))),
  (56, i_ald 57 20 lnR),
  (57, i_callI 60 4 (rcv 12) f_X12_steps),
  (60, i_ifne 63 73),
  (63, i_aload 64 0),
  (64, i_callV 67 1 (rcv 12) f_X12_goes),
  (67, i_iinc 70 2 (1)),
  (70, i_goto 7),
  (73, i_iload 74 2),
  (74, i_iret)]
noncomputable def kc_X12_goesThrough : Nat → Option Ins := lkp k_X12_goesThrough
noncomputable def f_X12_goesThrough : List AV → Mem → Option Rs := den 3 kc_X12_goesThrough
abbrev rm_X12_goesThrough : Room := { frames := 5, cells := 0, slots := 0, locals := 122 }
set_option maxRecDepth 100000 in
theorem kt_X12_goesThrough : TriC kc_X12_goesThrough := lkp_tri (fa1 (tri_aload 1 0) (fa1 (tri_iload 2 1) (fa1 (tri_callV 5 2 (rcv 12) f_X12_begins) (fa1 (tri_push 6 (.inl 0)) (fa1 (tri_istore 7 2) (fa1 (tri_iload 8 2) (fa1 (tri_aload 9 0) (fa1 (tri_getR 12 12 20 (fun _ => 11)) (fa1 (tri_iload 13 1) (fa1 (tri_ald 14 20 lnR) (fa1 (tri_cmpge 17 73) (fa1 (tri_aload 18 0) (fa1 (tri_aload 19 0) (fa1 (tri_getR 22 12 20 (fun _ => 14)) (fa1 (tri_aload 23 0) (fa1 (tri_getR 26 12 20 (fun _ => 10)) (fa1 (tri_iload 27 1) (fa1 (tri_ald 28 20 lnR) (fa1 (tri_iload 29 2) (fa1 (tri_bin 30 (fun x y => wr (x + y))) (fa1 (tri_ald 31 20 lnR) (fa1 (tri_aload 32 0) (fa1 (tri_getR 35 12 20 (fun _ => 15)) (fa1 (tri_aload 36 0) (fa1 (tri_getR 39 12 20 (fun _ => 10)) (fa1 (tri_iload 40 1) (fa1 (tri_ald 41 20 lnR) (fa1 (tri_iload 42 2) (fa1 (tri_bin 43 (fun x y => wr (x + y))) (fa1 (tri_ald 44 20 lnR) (fa1 (tri_aload 45 0) (fa1 (tri_getR 48 12 20 (fun _ => 16)) (fa1 (tri_aload 49 0) (fa1 (tri_getR 52 12 20 (fun _ => 10)) (fa1 (tri_iload 53 1) (fa1 (tri_ald 54 20 lnR) (fa1 (tri_iload 55 2) (fa1 (tri_bin 56 (fun x y => wr (x + y))) (fa1 (tri_ald 57 20 lnR) (fa1 (tri_callI 60 4 (rcv 12) f_X12_steps) (fa1 (tri_ifne 63 73) (fa1 (tri_aload 64 0) (fa1 (tri_callV 67 1 (rcv 12) f_X12_goes) (fa1 (tri_iinc 70 2 (1)) (fa1 (tri_goto 7) (fa1 (tri_iload 74 2) (fa1 (tri_iret) (fa0))))))))))))))))))))))))))))))))))))))))))))))))
set_option maxRecDepth 100000 in
set_option maxHeartbeats 4000000 in
theorem ks_X12_goesThrough (G : Wp) (l : Launch) : ∀ e ∈ k_X12_goesThrough, Snd loR G l RX12 cX12_goesThrough 3 (some .int) rm_X12_goesThrough e.1 e.2 :=
  fa1 (s_aload_n (kf := 0) (j := 0) (by decide +kernel) rfl) <|
  fa1 (s_iload_n (kf := 1) (j := 1) (by decide +kernel) rfl) <|
  fa1 (s_vcallV (n := 1) (ci := 12) (C := RX12) (T := TX12) (NF := 83) (idx := 345) (y := yX12_begins) (by decide +kernel) (gg_X12_begins) rfl (by decide) yv_X12_begins (all5 w_1618 w_1620 w_62 w_113 w_1621) rfl rfl ⟨by decide, by decide⟩) <|
  fa1 (s_iconst (n := 0) (v := 0) (by decide +kernel) (by decide +kernel) (p32 rfl)) <|
  fa1 (s_istore_n (kf := 2) (j := 2) (by decide +kernel) rfl (by decide)) <|
  fa1 (s_iload_n (kf := 2) (j := 2) (by decide +kernel) rfl) <|
  fa1 (s_aload_n (kf := 0) (j := 0) (by decide +kernel) rfl) <|
  fa1 (s_getR (t2 := 20) (g := (fun _ => 11)) (ci := 12) (f := 12) (idx := 40) (C := RX12) (T := TX12) (NF := 83) (by decide +kernel) rfl (by decide) inG_X12 (by decide) w_1250 lr_X12_12 (by decide)) <|
  fa1 (s_iload_n (kf := 1) (j := 1) (by decide +kernel) rfl) <|
  fa1 (s_iald (by decide +kernel)) <|
  fa1 (s_cmpge (off := 59) (by decide +kernel) (by decide)) <|
  fa1 (s_aload_n (kf := 0) (j := 0) (by decide +kernel) rfl) <|
  fa1 (s_aload_n (kf := 0) (j := 0) (by decide +kernel) rfl) <|
  fa1 (s_getR (t2 := 20) (g := (fun _ => 14)) (ci := 12) (f := 17) (idx := 49) (C := RX12) (T := TX12) (NF := 83) (by decide +kernel) rfl (by decide) inG_X12 (by decide) w_1255 lr_X12_17 (by decide)) <|
  fa1 (s_aload_n (kf := 0) (j := 0) (by decide +kernel) rfl) <|
  fa1 (s_getR (t2 := 20) (g := (fun _ => 10)) (ci := 12) (f := 11) (idx := 37) (C := RX12) (T := TX12) (NF := 83) (by decide +kernel) rfl (by decide) inG_X12 (by decide) w_1249 lr_X12_11 (by decide)) <|
  fa1 (s_iload_n (kf := 1) (j := 1) (by decide +kernel) rfl) <|
  fa1 (s_iald (by decide +kernel)) <|
  fa1 (s_iload_n (kf := 2) (j := 2) (by decide +kernel) rfl) <|
  fa1 (s_iadd (by decide +kernel)) <|
  fa1 (s_iald (by decide +kernel)) <|
  fa1 (s_aload_n (kf := 0) (j := 0) (by decide +kernel) rfl) <|
  fa1 (s_getR (t2 := 20) (g := (fun _ => 15)) (ci := 12) (f := 18) (idx := 52) (C := RX12) (T := TX12) (NF := 83) (by decide +kernel) rfl (by decide) inG_X12 (by decide) w_1256 lr_X12_18 (by decide)) <|
  fa1 (s_aload_n (kf := 0) (j := 0) (by decide +kernel) rfl) <|
  fa1 (s_getR (t2 := 20) (g := (fun _ => 10)) (ci := 12) (f := 11) (idx := 37) (C := RX12) (T := TX12) (NF := 83) (by decide +kernel) rfl (by decide) inG_X12 (by decide) w_1249 lr_X12_11 (by decide)) <|
  fa1 (s_iload_n (kf := 1) (j := 1) (by decide +kernel) rfl) <|
  fa1 (s_iald (by decide +kernel)) <|
  fa1 (s_iload_n (kf := 2) (j := 2) (by decide +kernel) rfl) <|
  fa1 (s_iadd (by decide +kernel)) <|
  fa1 (s_iald (by decide +kernel)) <|
  fa1 (s_aload_n (kf := 0) (j := 0) (by decide +kernel) rfl) <|
  fa1 (s_getR (t2 := 20) (g := (fun _ => 16)) (ci := 12) (f := 19) (idx := 55) (C := RX12) (T := TX12) (NF := 83) (by decide +kernel) rfl (by decide) inG_X12 (by decide) w_1257 lr_X12_19 (by decide)) <|
  fa1 (s_aload_n (kf := 0) (j := 0) (by decide +kernel) rfl) <|
  fa1 (s_getR (t2 := 20) (g := (fun _ => 10)) (ci := 12) (f := 11) (idx := 37) (C := RX12) (T := TX12) (NF := 83) (by decide +kernel) rfl (by decide) inG_X12 (by decide) w_1249 lr_X12_11 (by decide)) <|
  fa1 (s_iload_n (kf := 1) (j := 1) (by decide +kernel) rfl) <|
  fa1 (s_iald (by decide +kernel)) <|
  fa1 (s_iload_n (kf := 2) (j := 2) (by decide +kernel) rfl) <|
  fa1 (s_iadd (by decide +kernel)) <|
  fa1 (s_iald (by decide +kernel)) <|
  fa1 (s_vcallI (n := 3) (ci := 12) (C := RX12) (T := TX12) (NF := 83) (idx := 348) (y := yX12_steps) (by decide +kernel) (gg_X12_steps) rfl (by decide) yv_X12_steps (all5 w_1622 w_1624 w_63 w_113 w_1625) rfl rfl ⟨by decide, by decide⟩) <|
  fa1 (s_ifne (off := 13) (by decide +kernel) (by decide)) <|
  fa1 (s_aload_n (kf := 0) (j := 0) (by decide +kernel) rfl) <|
  fa1 (s_vcallV (n := 0) (ci := 12) (C := RX12) (T := TX12) (NF := 83) (idx := 352) (y := yX12_goes) (by decide +kernel) (gg_X12_goes) rfl (by decide) yv_X12_goes (all5 w_1650 w_1652 w_70 w_113 w_1653) rfl rfl ⟨by decide, by decide⟩) <|
  fa1 (s_iinc (j := 2) (d := 1) (by decide +kernel) (by decide)) <|
  fa1 (s_goto (off := -63) (by decide +kernel) (by decide)) <|
  fa1 (s_iload_n (kf := 2) (j := 2) (by decide +kernel) rfl) <|
  fa1 (s_iret (by decide +kernel) rfl) <| fa0
theorem gg_X12_goesThrough {G : Wp} {l : Launch} : GoodM loR G l yX12_goesThrough cX12_goesThrough 3 (some .int) rm_X12_goesThrough f_X12_goesThrough := met_of kt_X12_goesThrough (lkp_snd (ks_X12_goesThrough G l)) (by decide +kernel) rfl (by decide)
noncomputable def k_X12_leans : List (Nat × Ins) := [
  (0, i_aload 1 0),
  (1, i_iload 2 1),
  (2, i_callI 5 2 (rcv 12) f_X12_isSaying),
  (5, i_ifeq 8 20),
  (8, i_iload 9 2),
  (9, i_i2l 10),
  (10, i_push 11 (.inr (.inl 0))),
  (11, i_push 14 (.inr (.inl (2)))),
  (14, i_callI 17 3 anyv f_X12_in),
  (17, i_ifne 20 22),
  (20, i_push 21 (.inl (-1))),
  (21, i_iret),
  (22, i_iload 23 2),
  (23, i_push 24 (.inl 2)),
  (24, i_cmpne 27 35),
  (27, i_aload 28 0),
  (28, i_iload 29 1),
  (29, i_callI 32 2 (rcv 12) f_X12_leaning),
  (32, i_goto 40),
  (35, i_aload 36 0),
  (36, i_iload 37 1),
  (37, i_callI 40 2 (rcv 12) f_X12_leansOf),
  (40, i_istore 41 3),
  (41, i_push 42 (.inl 0)),
  (42, i_istore 44 4),
  (44, i_iload 46 4),
  (46, i_aload 47 0),
  (47, i_getI 50 12 5),
  (50, i_cmpge 53 87),
  (53, i_iload 54 2),
  (54, i_push 55 (.inl 1)),
  (55, i_cmpne 58 87),
  (58, i_iload 59 3),
  (59, i_aload 60 0),
  (60, i_getR 63 12 20 (fun _ => 7)),
  (63, i_iload 65 4),
  (65, i_ald 66 20 lnR),
  (66, i_ifne 69 73),
  (69, i_iload 70 3),
  (70, i_goto 79),
  (73, i_push 74 (.inl 1)),
  (74, i_iload 76 4),
  (76, i_bin 77 bShl),
  (77, i_push 78 (.inl (-1))),
  (78, i_bin 79 bXor),
  (79, i_bin 80 bAnd),
  (80, i_istore 81 3),
  (81, i_iinc 84 4 (1)),
  (84, i_goto 44),
  (87, i_iload 88 3),
  (88, i_iret)]
noncomputable def kc_X12_leans : Nat → Option Ins := lkp k_X12_leans
noncomputable def f_X12_leans : List AV → Mem → Option Rs := den 5 kc_X12_leans
abbrev rm_X12_leans : Room := { frames := 3, cells := 0, slots := 0, locals := 70 }
set_option maxRecDepth 100000 in
theorem kt_X12_leans : TriC kc_X12_leans := lkp_tri (fa1 (tri_aload 1 0) (fa1 (tri_iload 2 1) (fa1 (tri_callI 5 2 (rcv 12) f_X12_isSaying) (fa1 (tri_ifeq 8 20) (fa1 (tri_iload 9 2) (fa1 (tri_i2l 10) (fa1 (tri_push 11 (.inr (.inl 0))) (fa1 (tri_push 14 (.inr (.inl (2)))) (fa1 (tri_callI 17 3 anyv f_X12_in) (fa1 (tri_ifne 20 22) (fa1 (tri_push 21 (.inl (-1))) (fa1 (tri_iret) (fa1 (tri_iload 23 2) (fa1 (tri_push 24 (.inl 2)) (fa1 (tri_cmpne 27 35) (fa1 (tri_aload 28 0) (fa1 (tri_iload 29 1) (fa1 (tri_callI 32 2 (rcv 12) f_X12_leaning) (fa1 (tri_goto 40) (fa1 (tri_aload 36 0) (fa1 (tri_iload 37 1) (fa1 (tri_callI 40 2 (rcv 12) f_X12_leansOf) (fa1 (tri_istore 41 3) (fa1 (tri_push 42 (.inl 0)) (fa1 (tri_istore 44 4) (fa1 (tri_iload 46 4) (fa1 (tri_aload 47 0) (fa1 (tri_getI 50 12 5) (fa1 (tri_cmpge 53 87) (fa1 (tri_iload 54 2) (fa1 (tri_push 55 (.inl 1)) (fa1 (tri_cmpne 58 87) (fa1 (tri_iload 59 3) (fa1 (tri_aload 60 0) (fa1 (tri_getR 63 12 20 (fun _ => 7)) (fa1 (tri_iload 65 4) (fa1 (tri_ald 66 20 lnR) (fa1 (tri_ifne 69 73) (fa1 (tri_iload 70 3) (fa1 (tri_goto 79) (fa1 (tri_push 74 (.inl 1)) (fa1 (tri_iload 76 4) (fa1 (tri_bin 77 bShl) (fa1 (tri_push 78 (.inl (-1))) (fa1 (tri_bin 79 bXor) (fa1 (tri_bin 80 bAnd) (fa1 (tri_istore 81 3) (fa1 (tri_iinc 84 4 (1)) (fa1 (tri_goto 44) (fa1 (tri_iload 88 3) (fa1 (tri_iret) (fa0))))))))))))))))))))))))))))))))))))))))))))))))))))
set_option maxRecDepth 100000 in
set_option maxHeartbeats 4000000 in
theorem ks_X12_leans (G : Wp) (l : Launch) : ∀ e ∈ k_X12_leans, Snd loR G l RX12 cX12_leans 5 (some .int) rm_X12_leans e.1 e.2 :=
  fa1 (s_aload_n (kf := 0) (j := 0) (by decide +kernel) rfl) <|
  fa1 (s_iload_n (kf := 1) (j := 1) (by decide +kernel) rfl) <|
  fa1 (s_vcallI (n := 1) (ci := 12) (C := RX12) (T := TX12) (NF := 83) (idx := 287) (y := yX12_isSaying) (by decide +kernel) (gg_X12_isSaying) rfl (by decide) yv_X12_isSaying (all5 w_1581 w_1583 w_56 w_113 w_1584) rfl rfl ⟨by decide, by decide⟩) <|
  fa1 (s_ifeq (off := 15) (by decide +kernel) (by decide)) <|
  fa1 (s_iload_n (kf := 2) (j := 2) (by decide +kernel) rfl) <|
  fa1 (s_i2l (by decide +kernel)) <|
  fa1 (s_lconst (n := 0) (v := 0) (by decide +kernel) (by decide +kernel) (p64 rfl)) <|
  fa1 (s_ldc2 (idx := 244) (v := 2) (by decide +kernel) w_1534 (p64 rfl)) <|
  fa1 (s_scallI (n := 3) (idx := 187) (y := yX12_in) (by decide +kernel) (gg_X12_in) yv_X12_in (all4 w_1498 w_1499 w_113 w_1500) rfl rfl ⟨by decide, by decide⟩) <|
  fa1 (s_ifne (off := 5) (by decide +kernel) (by decide)) <|
  fa1 (s_iconst (n := -1) (v := -1) (by decide +kernel) (by decide +kernel) (p32 rfl)) <|
  fa1 (s_iret (by decide +kernel) rfl) <|
  fa1 (s_iload_n (kf := 2) (j := 2) (by decide +kernel) rfl) <|
  fa1 (s_iconst (n := 2) (v := 2) (by decide +kernel) (by decide +kernel) (p32 rfl)) <|
  fa1 (s_cmpne (off := 11) (by decide +kernel) (by decide)) <|
  fa1 (s_aload_n (kf := 0) (j := 0) (by decide +kernel) rfl) <|
  fa1 (s_iload_n (kf := 1) (j := 1) (by decide +kernel) rfl) <|
  fa1 (s_vcallI (n := 1) (ci := 12) (C := RX12) (T := TX12) (NF := 83) (idx := 299) (y := yX12_leaning) (by decide +kernel) (gg_X12_leaning) rfl (by decide) yv_X12_leaning (all5 w_1597 w_1599 w_59 w_113 w_1600) rfl rfl ⟨by decide, by decide⟩) <|
  fa1 (s_goto (off := 8) (by decide +kernel) (by decide)) <|
  fa1 (s_aload_n (kf := 0) (j := 0) (by decide +kernel) rfl) <|
  fa1 (s_iload_n (kf := 1) (j := 1) (by decide +kernel) rfl) <|
  fa1 (s_vcallI (n := 1) (ci := 12) (C := RX12) (T := TX12) (NF := 83) (idx := 293) (y := yX12_leansOf) (by decide +kernel) (gg_X12_leansOf) rfl (by decide) yv_X12_leansOf (all5 w_1586 w_1588 w_57 w_113 w_1589) rfl rfl ⟨by decide, by decide⟩) <|
  fa1 (s_istore_n (kf := 3) (j := 3) (by decide +kernel) rfl (by decide)) <|
  fa1 (s_iconst (n := 0) (v := 0) (by decide +kernel) (by decide +kernel) (p32 rfl)) <|
  fa1 (s_istore (j := 4) (by decide +kernel) (by decide)) <|
  fa1 (s_iload (j := 4) (by decide +kernel)) <|
  fa1 (s_aload_n (kf := 0) (j := 0) (by decide +kernel) rfl) <|
  fa1 (s_getI (ci := 12) (f := 5) (idx := 184) (C := RX12) (T := TX12) (NF := 83) (by decide +kernel) rfl (by decide) inG_X12 (by decide) w_1243 li_X12_5) <|
  fa1 (s_cmpge (off := 37) (by decide +kernel) (by decide)) <|
  fa1 (s_iload_n (kf := 2) (j := 2) (by decide +kernel) rfl) <|
  fa1 (s_iconst (n := 1) (v := 1) (by decide +kernel) (by decide +kernel) (p32 rfl)) <|
  fa1 (s_cmpne (off := 32) (by decide +kernel) (by decide)) <|
  fa1 (s_iload_n (kf := 3) (j := 3) (by decide +kernel) rfl) <|
  fa1 (s_aload_n (kf := 0) (j := 0) (by decide +kernel) rfl) <|
  fa1 (s_getR (t2 := 20) (g := (fun _ => 7)) (ci := 12) (f := 8) (idx := 28) (C := RX12) (T := TX12) (NF := 83) (by decide +kernel) rfl (by decide) inG_X12 (by decide) w_1246 lr_X12_8 (by decide)) <|
  fa1 (s_iload (j := 4) (by decide +kernel)) <|
  fa1 (s_iald (by decide +kernel)) <|
  fa1 (s_ifne (off := 7) (by decide +kernel) (by decide)) <|
  fa1 (s_iload_n (kf := 3) (j := 3) (by decide +kernel) rfl) <|
  fa1 (s_goto (off := 9) (by decide +kernel) (by decide)) <|
  fa1 (s_iconst (n := 1) (v := 1) (by decide +kernel) (by decide +kernel) (p32 rfl)) <|
  fa1 (s_iload (j := 4) (by decide +kernel)) <|
  fa1 (s_ishl (by decide +kernel)) <|
  fa1 (s_iconst (n := -1) (v := -1) (by decide +kernel) (by decide +kernel) (p32 rfl)) <|
  fa1 (s_ixor (by decide +kernel)) <|
  fa1 (s_iand (by decide +kernel)) <|
  fa1 (s_istore_n (kf := 3) (j := 3) (by decide +kernel) rfl (by decide)) <|
  fa1 (s_iinc (j := 4) (d := 1) (by decide +kernel) (by decide)) <|
  fa1 (s_goto (off := -40) (by decide +kernel) (by decide)) <|
  fa1 (s_iload_n (kf := 3) (j := 3) (by decide +kernel) rfl) <|
  fa1 (s_iret (by decide +kernel) rfl) <| fa0
theorem gg_X12_leans {G : Wp} {l : Launch} : GoodM loR G l yX12_leans cX12_leans 5 (some .int) rm_X12_leans f_X12_leans := met_of kt_X12_leans (lkp_snd (ks_X12_leans G l)) (by decide +kernel) rfl (by decide)
noncomputable def k_X12_isOpen : List (Nat × Ins) := [
  (0, i_aload 1 0),
  (1, i_getR 4 12 20 (fun _ => 7)),
  (4, i_iload 5 1),
  (5, i_ald 6 20 lnR),
  (6, i_push 7 (.inl 1)),
  (7, i_cmpeq 10 20),
  (10, i_aload 11 0),
  (11, i_getR 14 12 20 (fun _ => 7)),
  (14, i_iload 15 1),
  (15, i_ald 16 20 lnR),
  (16, i_push 17 (.inl 3)),
  (17, i_cmpne 20 24),
  (20, i_push 21 (.inl 1)),
  (21, i_goto 25),
  (24, i_push 25 (.inl 0)),
  (25, i_zret)]
noncomputable def kc_X12_isOpen : Nat → Option Ins := lkp k_X12_isOpen
noncomputable def f_X12_isOpen : List AV → Mem → Option Rs := den 2 kc_X12_isOpen
abbrev rm_X12_isOpen : Room := { frames := 0, cells := 0, slots := 0, locals := 0 }
set_option maxRecDepth 100000 in
theorem kt_X12_isOpen : TriC kc_X12_isOpen := lkp_tri (fa1 (tri_aload 1 0) (fa1 (tri_getR 4 12 20 (fun _ => 7)) (fa1 (tri_iload 5 1) (fa1 (tri_ald 6 20 lnR) (fa1 (tri_push 7 (.inl 1)) (fa1 (tri_cmpeq 10 20) (fa1 (tri_aload 11 0) (fa1 (tri_getR 14 12 20 (fun _ => 7)) (fa1 (tri_iload 15 1) (fa1 (tri_ald 16 20 lnR) (fa1 (tri_push 17 (.inl 3)) (fa1 (tri_cmpne 20 24) (fa1 (tri_push 21 (.inl 1)) (fa1 (tri_goto 25) (fa1 (tri_push 25 (.inl 0)) (fa1 (tri_zret) (fa0)))))))))))))))))
set_option maxRecDepth 100000 in
set_option maxHeartbeats 4000000 in
theorem ks_X12_isOpen (G : Wp) (l : Launch) : ∀ e ∈ k_X12_isOpen, Snd loR G l RX12 cX12_isOpen 2 (some .boolean) rm_X12_isOpen e.1 e.2 :=
  fa1 (s_aload_n (kf := 0) (j := 0) (by decide +kernel) rfl) <|
  fa1 (s_getR (t2 := 20) (g := (fun _ => 7)) (ci := 12) (f := 8) (idx := 28) (C := RX12) (T := TX12) (NF := 83) (by decide +kernel) rfl (by decide) inG_X12 (by decide) w_1246 lr_X12_8 (by decide)) <|
  fa1 (s_iload_n (kf := 1) (j := 1) (by decide +kernel) rfl) <|
  fa1 (s_iald (by decide +kernel)) <|
  fa1 (s_iconst (n := 1) (v := 1) (by decide +kernel) (by decide +kernel) (p32 rfl)) <|
  fa1 (s_cmpeq (off := 13) (by decide +kernel) (by decide)) <|
  fa1 (s_aload_n (kf := 0) (j := 0) (by decide +kernel) rfl) <|
  fa1 (s_getR (t2 := 20) (g := (fun _ => 7)) (ci := 12) (f := 8) (idx := 28) (C := RX12) (T := TX12) (NF := 83) (by decide +kernel) rfl (by decide) inG_X12 (by decide) w_1246 lr_X12_8 (by decide)) <|
  fa1 (s_iload_n (kf := 1) (j := 1) (by decide +kernel) rfl) <|
  fa1 (s_iald (by decide +kernel)) <|
  fa1 (s_iconst (n := 3) (v := 3) (by decide +kernel) (by decide +kernel) (p32 rfl)) <|
  fa1 (s_cmpne (off := 7) (by decide +kernel) (by decide)) <|
  fa1 (s_iconst (n := 1) (v := 1) (by decide +kernel) (by decide +kernel) (p32 rfl)) <|
  fa1 (s_goto (off := 4) (by decide +kernel) (by decide)) <|
  fa1 (s_iconst (n := 0) (v := 0) (by decide +kernel) (by decide +kernel) (p32 rfl)) <|
  fa1 (s_zret (by decide +kernel) rfl) <| fa0
theorem gg_X12_isOpen {G : Wp} {l : Launch} : GoodM loR G l yX12_isOpen cX12_isOpen 2 (some .boolean) rm_X12_isOpen f_X12_isOpen := met_of kt_X12_isOpen (lkp_snd (ks_X12_isOpen G l)) (by decide +kernel) rfl (by decide)
noncomputable def k_X12_findTerm : List (Nat × Ins) := [
  (0, i_aload 1 0),
  (1, i_aload 2 0),
  (2, i_getI 5 12 45),
  (5, i_callV 8 2 (rcv 12) f_X12_begins),
  (8, i_push 9 (.inl 0)),
  (9, i_istore 10 1),
  (10, i_iload 11 1),
  (11, i_aload 12 0),
  (12, i_getI 15 12 46),
  (15, i_cmpge 18 51),
  (18, i_aload 19 0),
  (19, i_aload 20 0),
  (20, i_getR 23 12 20 (fun _ => 26)),
  (23, i_iload 24 1),
  (24, i_ald 25 20 lnR),
  (25, i_aload 26 0),
  (26, i_getR 29 12 20 (fun _ => 27)),
  (29, i_iload 30 1),
  (30, i_ald 31 20 lnR),
  (31, i_aload 32 0),
  (32, i_getR 35 12 20 (fun _ => 28)),
  (35, i_iload 36 1),
  (36, i_ald 37 20 lnR),
  (37, i_callI 40 4 (rcv 12) f_X12_steps),
  (40, i_pop 41),
  (41, i_aload 42 0),
  (42, i_callV 45 1 (rcv 12) f_X12_goes),
  (45, i_iinc 48 1 (1)),
  (48, i_goto 10),
  (51, i_vret)]
noncomputable def kc_X12_findTerm : Nat → Option Ins := lkp k_X12_findTerm
noncomputable def f_X12_findTerm : List AV → Mem → Option Rs := den 2 kc_X12_findTerm
abbrev rm_X12_findTerm : Room := { frames := 5, cells := 0, slots := 0, locals := 122 }
set_option maxRecDepth 100000 in
theorem kt_X12_findTerm : TriC kc_X12_findTerm := lkp_tri (fa1 (tri_aload 1 0) (fa1 (tri_aload 2 0) (fa1 (tri_getI 5 12 45) (fa1 (tri_callV 8 2 (rcv 12) f_X12_begins) (fa1 (tri_push 9 (.inl 0)) (fa1 (tri_istore 10 1) (fa1 (tri_iload 11 1) (fa1 (tri_aload 12 0) (fa1 (tri_getI 15 12 46) (fa1 (tri_cmpge 18 51) (fa1 (tri_aload 19 0) (fa1 (tri_aload 20 0) (fa1 (tri_getR 23 12 20 (fun _ => 26)) (fa1 (tri_iload 24 1) (fa1 (tri_ald 25 20 lnR) (fa1 (tri_aload 26 0) (fa1 (tri_getR 29 12 20 (fun _ => 27)) (fa1 (tri_iload 30 1) (fa1 (tri_ald 31 20 lnR) (fa1 (tri_aload 32 0) (fa1 (tri_getR 35 12 20 (fun _ => 28)) (fa1 (tri_iload 36 1) (fa1 (tri_ald 37 20 lnR) (fa1 (tri_callI 40 4 (rcv 12) f_X12_steps) (fa1 (tri_pop 41) (fa1 (tri_aload 42 0) (fa1 (tri_callV 45 1 (rcv 12) f_X12_goes) (fa1 (tri_iinc 48 1 (1)) (fa1 (tri_goto 10) (fa1 (tri_vret) (fa0)))))))))))))))))))))))))))))))
set_option maxRecDepth 100000 in
set_option maxHeartbeats 4000000 in
theorem ks_X12_findTerm (G : Wp) (l : Launch) : ∀ e ∈ k_X12_findTerm, Snd loR G l RX12 cX12_findTerm 2 none rm_X12_findTerm e.1 e.2 :=
  fa1 (s_aload_n (kf := 0) (j := 0) (by decide +kernel) rfl) <|
  fa1 (s_aload_n (kf := 0) (j := 0) (by decide +kernel) rfl) <|
  fa1 (s_getI (ci := 12) (f := 45) (idx := 85) (C := RX12) (T := TX12) (NF := 83) (by decide +kernel) rfl (by decide) inG_X12 (by decide) w_1283 li_X12_45) <|
  fa1 (s_vcallV (n := 1) (ci := 12) (C := RX12) (T := TX12) (NF := 83) (idx := 345) (y := yX12_begins) (by decide +kernel) (gg_X12_begins) rfl (by decide) yv_X12_begins (all5 w_1618 w_1620 w_62 w_113 w_1621) rfl rfl ⟨by decide, by decide⟩) <|
  fa1 (s_iconst (n := 0) (v := 0) (by decide +kernel) (by decide +kernel) (p32 rfl)) <|
  fa1 (s_istore_n (kf := 1) (j := 1) (by decide +kernel) rfl (by decide)) <|
  fa1 (s_iload_n (kf := 1) (j := 1) (by decide +kernel) rfl) <|
  fa1 (s_aload_n (kf := 0) (j := 0) (by decide +kernel) rfl) <|
  fa1 (s_getI (ci := 12) (f := 46) (idx := 358) (C := RX12) (T := TX12) (NF := 83) (by decide +kernel) rfl (by decide) inG_X12 (by decide) w_1284 li_X12_46) <|
  fa1 (s_cmpge (off := 36) (by decide +kernel) (by decide)) <|
  fa1 (s_aload_n (kf := 0) (j := 0) (by decide +kernel) rfl) <|
  fa1 (s_aload_n (kf := 0) (j := 0) (by decide +kernel) rfl) <|
  fa1 (s_getR (t2 := 20) (g := (fun _ => 26)) (ci := 12) (f := 47) (idx := 89) (C := RX12) (T := TX12) (NF := 83) (by decide +kernel) rfl (by decide) inG_X12 (by decide) w_1285 lr_X12_47 (by decide)) <|
  fa1 (s_iload_n (kf := 1) (j := 1) (by decide +kernel) rfl) <|
  fa1 (s_iald (by decide +kernel)) <|
  fa1 (s_aload_n (kf := 0) (j := 0) (by decide +kernel) rfl) <|
  fa1 (s_getR (t2 := 20) (g := (fun _ => 27)) (ci := 12) (f := 48) (idx := 92) (C := RX12) (T := TX12) (NF := 83) (by decide +kernel) rfl (by decide) inG_X12 (by decide) w_1286 lr_X12_48 (by decide)) <|
  fa1 (s_iload_n (kf := 1) (j := 1) (by decide +kernel) rfl) <|
  fa1 (s_iald (by decide +kernel)) <|
  fa1 (s_aload_n (kf := 0) (j := 0) (by decide +kernel) rfl) <|
  fa1 (s_getR (t2 := 20) (g := (fun _ => 28)) (ci := 12) (f := 49) (idx := 95) (C := RX12) (T := TX12) (NF := 83) (by decide +kernel) rfl (by decide) inG_X12 (by decide) w_1287 lr_X12_49 (by decide)) <|
  fa1 (s_iload_n (kf := 1) (j := 1) (by decide +kernel) rfl) <|
  fa1 (s_iald (by decide +kernel)) <|
  fa1 (s_vcallI (n := 3) (ci := 12) (C := RX12) (T := TX12) (NF := 83) (idx := 348) (y := yX12_steps) (by decide +kernel) (gg_X12_steps) rfl (by decide) yv_X12_steps (all5 w_1622 w_1624 w_63 w_113 w_1625) rfl rfl ⟨by decide, by decide⟩) <|
  fa1 (s_pop (by decide +kernel)) <|
  fa1 (s_aload_n (kf := 0) (j := 0) (by decide +kernel) rfl) <|
  fa1 (s_vcallV (n := 0) (ci := 12) (C := RX12) (T := TX12) (NF := 83) (idx := 352) (y := yX12_goes) (by decide +kernel) (gg_X12_goes) rfl (by decide) yv_X12_goes (all5 w_1650 w_1652 w_70 w_113 w_1653) rfl rfl ⟨by decide, by decide⟩) <|
  fa1 (s_iinc (j := 1) (d := 1) (by decide +kernel) (by decide)) <|
  fa1 (s_goto (off := -38) (by decide +kernel) (by decide)) <|
  fa1 (s_vret (by decide +kernel) rfl) <| fa0
theorem gg_X12_findTerm {G : Wp} {l : Launch} : GoodM loR G l yX12_findTerm cX12_findTerm 2 none rm_X12_findTerm f_X12_findTerm := met_of kt_X12_findTerm (lkp_snd (ks_X12_findTerm G l)) (by decide +kernel) rfl (by decide)
noncomputable def k_X12_prove : List (Nat × Ins) := [
  (0, i_aload 1 0),
  (1, i_iload 2 1),
  (2, i_callI 5 2 (rcv 12) f_X12_isSaying),
  (5, i_ifne 8 10),
  (8, i_push 9 (.inl (-1))),
  (9, i_iret),
  (10, i_aload 11 0),
  (11, i_iload 12 1),
  (12, i_callI 15 2 (rcv 12) f_X12_isOpen),
  (15, i_ifne 18 21),
  (18, i_push 20 (.inl (-2))),
  (20, i_iret),
  (21, i_aload 22 0),
  (22, i_iload 23 1),
  (23, i_putI 26 12 45),
  (26, i_aload 27 0),
  (27, i_push 28 (.inl 0)),
  (28, i_putI 31 12 46),
  (31, i_aload 32 0),
  (32, i_getR 35 12 20 (fun _ => 6)),
  (35, i_push 36 (.inl 2)),
  (36, i_iload 37 1),
  (37, i_bin 38 (fun x y => wr (x * y))),
  (38, i_ald 39 20 lnR),
  (39, i_iret)]
noncomputable def kc_X12_prove : Nat → Option Ins := lkp k_X12_prove
noncomputable def f_X12_prove : List AV → Mem → Option Rs := den 2 kc_X12_prove
abbrev rm_X12_prove : Room := { frames := 2, cells := 0, slots := 0, locals := 46 }
set_option maxRecDepth 100000 in
theorem kt_X12_prove : TriC kc_X12_prove := lkp_tri (fa1 (tri_aload 1 0) (fa1 (tri_iload 2 1) (fa1 (tri_callI 5 2 (rcv 12) f_X12_isSaying) (fa1 (tri_ifne 8 10) (fa1 (tri_push 9 (.inl (-1))) (fa1 (tri_iret) (fa1 (tri_aload 11 0) (fa1 (tri_iload 12 1) (fa1 (tri_callI 15 2 (rcv 12) f_X12_isOpen) (fa1 (tri_ifne 18 21) (fa1 (tri_push 20 (.inl (-2))) (fa1 (tri_iret) (fa1 (tri_aload 22 0) (fa1 (tri_iload 23 1) (fa1 (tri_putI 26 12 45) (fa1 (tri_aload 27 0) (fa1 (tri_push 28 (.inl 0)) (fa1 (tri_putI 31 12 46) (fa1 (tri_aload 32 0) (fa1 (tri_getR 35 12 20 (fun _ => 6)) (fa1 (tri_push 36 (.inl 2)) (fa1 (tri_iload 37 1) (fa1 (tri_bin 38 (fun x y => wr (x * y))) (fa1 (tri_ald 39 20 lnR) (fa1 (tri_iret) (fa0))))))))))))))))))))))))))
set_option maxRecDepth 100000 in
set_option maxHeartbeats 4000000 in
theorem ks_X12_prove (G : Wp) (l : Launch) : ∀ e ∈ k_X12_prove, Snd loR G l RX12 cX12_prove 2 (some .int) rm_X12_prove e.1 e.2 :=
  fa1 (s_aload_n (kf := 0) (j := 0) (by decide +kernel) rfl) <|
  fa1 (s_iload_n (kf := 1) (j := 1) (by decide +kernel) rfl) <|
  fa1 (s_vcallI (n := 1) (ci := 12) (C := RX12) (T := TX12) (NF := 83) (idx := 287) (y := yX12_isSaying) (by decide +kernel) (gg_X12_isSaying) rfl (by decide) yv_X12_isSaying (all5 w_1581 w_1583 w_56 w_113 w_1584) rfl rfl ⟨by decide, by decide⟩) <|
  fa1 (s_ifne (off := 5) (by decide +kernel) (by decide)) <|
  fa1 (s_iconst (n := -1) (v := -1) (by decide +kernel) (by decide +kernel) (p32 rfl)) <|
  fa1 (s_iret (by decide +kernel) rfl) <|
  fa1 (s_aload_n (kf := 0) (j := 0) (by decide +kernel) rfl) <|
  fa1 (s_iload_n (kf := 1) (j := 1) (by decide +kernel) rfl) <|
  fa1 (s_vcallI (n := 1) (ci := 12) (C := RX12) (T := TX12) (NF := 83) (idx := 361) (y := yX12_isOpen) (by decide +kernel) (gg_X12_isOpen) rfl (by decide) yv_X12_isOpen (all5 w_1666 w_1668 w_71 w_113 w_1669) rfl rfl ⟨by decide, by decide⟩) <|
  fa1 (s_ifne (off := 6) (by decide +kernel) (by decide)) <|
  fa1 (s_bipush (n := -2) (v := -2) (by decide +kernel) (by decide +kernel) (p32 rfl)) <|
  fa1 (s_iret (by decide +kernel) rfl) <|
  fa1 (s_aload_n (kf := 0) (j := 0) (by decide +kernel) rfl) <|
  fa1 (s_iload_n (kf := 1) (j := 1) (by decide +kernel) rfl) <|
  fa1 (s_putI (ci := 12) (f := 45) (idx := 85) (C := RX12) (T := TX12) (NF := 83) (by decide +kernel) rfl (by decide) inG_X12 (by decide) w_1283 tyX12 tyX12_ok nmX12 rfl (by decide +kernel) li_X12_45) <|
  fa1 (s_aload_n (kf := 0) (j := 0) (by decide +kernel) rfl) <|
  fa1 (s_iconst (n := 0) (v := 0) (by decide +kernel) (by decide +kernel) (p32 rfl)) <|
  fa1 (s_putI (ci := 12) (f := 46) (idx := 358) (C := RX12) (T := TX12) (NF := 83) (by decide +kernel) rfl (by decide) inG_X12 (by decide) w_1284 tyX12 tyX12_ok nmX12 rfl (by decide +kernel) li_X12_46) <|
  fa1 (s_aload_n (kf := 0) (j := 0) (by decide +kernel) rfl) <|
  fa1 (s_getR (t2 := 20) (g := (fun _ => 6)) (ci := 12) (f := 7) (idx := 25) (C := RX12) (T := TX12) (NF := 83) (by decide +kernel) rfl (by decide) inG_X12 (by decide) w_1245 lr_X12_7 (by decide)) <|
  fa1 (s_iconst (n := 2) (v := 2) (by decide +kernel) (by decide +kernel) (p32 rfl)) <|
  fa1 (s_iload_n (kf := 1) (j := 1) (by decide +kernel) rfl) <|
  fa1 (s_imul (by decide +kernel)) <|
  fa1 (s_iald (by decide +kernel)) <|
  fa1 (s_iret (by decide +kernel) rfl) <| fa0
theorem gg_X12_prove {G : Wp} {l : Launch} : GoodM loR G l yX12_prove cX12_prove 2 (some .int) rm_X12_prove f_X12_prove := met_of kt_X12_prove (lkp_snd (ks_X12_prove G l)) (by decide +kernel) rfl (by decide)
noncomputable def k_X12_step : List (Nat × Ins) := [
  (0, i_iload 1 1),
  (1, i_i2l 2),
  (2, i_push 3 (.inr (.inl 0))),
  (3, i_push 6 (.inr (.inl (3)))),
  (6, i_callI 9 3 anyv f_X12_in),
  (9, i_ifne 12 14),
  (12, i_push 13 (.inl (-1))),
  (13, i_iret),
  (14, i_aload 15 0),
  (15, i_getI 18 12 45),
  (18, i_push 20 (.inl (-4))),
  (20, i_cmpne 23 26),
  (23, i_push 25 (.inl (-2))),
  (25, i_iret),
  (26, i_aload 27 0),
  (27, i_getI 30 12 46),
  (30, i_push 32 (.inl 20)),
  (32, i_cmpne 35 38),
  (35, i_push 37 (.inl (-3))),
  (37, i_iret),
  (38, i_aload 39 0),
  (39, i_callV 42 1 (rcv 12) f_X12_findTerm),
  (42, i_aload 43 0),
  (43, i_iload 44 1),
  (44, i_iload 45 2),
  (45, i_iload 46 3),
  (46, i_callI 49 4 (rcv 12) f_X12_steps),
  (49, i_istore 51 4),
  (51, i_iload 53 4),
  (53, i_ifge 56 59),
  (56, i_iload 58 4),
  (58, i_iret),
  (59, i_aload 60 0),
  (60, i_getR 63 12 20 (fun _ => 26)),
  (63, i_aload 64 0),
  (64, i_getI 67 12 46),
  (67, i_iload 68 1),
  (68, i_ast 69 20 lnR id),
  (69, i_aload 70 0),
  (70, i_getR 73 12 20 (fun _ => 27)),
  (73, i_aload 74 0),
  (74, i_getI 77 12 46),
  (77, i_iload 78 1),
  (78, i_push 79 (.inl 2)),
  (79, i_cmpne 82 87),
  (82, i_push 84 (.inl (-4))),
  (84, i_goto 88),
  (87, i_iload 88 2),
  (88, i_ast 89 20 lnR id),
  (89, i_aload 90 0),
  (90, i_getR 93 12 20 (fun _ => 28)),
  (93, i_aload 94 0),
  (94, i_getI 97 12 46),
  (97, i_iload 98 3),
  (98, i_ast 99 20 lnR id),
  (99, i_aload 100 0),
  (100, i_dup 101),
  (101, i_getI 104 12 46),
  (104, i_push 105 (.inl 1)),
  (105, i_bin 106 (fun x y => wr (x + y))),
  (106, i_putI 109 12 46),
  (109, i_aload 110 0),
  (110, i_getI 113 12 38),
  (113, i_iret)]
noncomputable def kc_X12_step : Nat → Option Ins := lkp k_X12_step
noncomputable def f_X12_step : List AV → Mem → Option Rs := den 5 kc_X12_step
abbrev rm_X12_step : Room := { frames := 6, cells := 0, slots := 0, locals := 143 }
set_option maxRecDepth 100000 in
theorem kt_X12_step : TriC kc_X12_step := lkp_tri (fa1 (tri_iload 1 1) (fa1 (tri_i2l 2) (fa1 (tri_push 3 (.inr (.inl 0))) (fa1 (tri_push 6 (.inr (.inl (3)))) (fa1 (tri_callI 9 3 anyv f_X12_in) (fa1 (tri_ifne 12 14) (fa1 (tri_push 13 (.inl (-1))) (fa1 (tri_iret) (fa1 (tri_aload 15 0) (fa1 (tri_getI 18 12 45) (fa1 (tri_push 20 (.inl (-4))) (fa1 (tri_cmpne 23 26) (fa1 (tri_push 25 (.inl (-2))) (fa1 (tri_iret) (fa1 (tri_aload 27 0) (fa1 (tri_getI 30 12 46) (fa1 (tri_push 32 (.inl 20)) (fa1 (tri_cmpne 35 38) (fa1 (tri_push 37 (.inl (-3))) (fa1 (tri_iret) (fa1 (tri_aload 39 0) (fa1 (tri_callV 42 1 (rcv 12) f_X12_findTerm) (fa1 (tri_aload 43 0) (fa1 (tri_iload 44 1) (fa1 (tri_iload 45 2) (fa1 (tri_iload 46 3) (fa1 (tri_callI 49 4 (rcv 12) f_X12_steps) (fa1 (tri_istore 51 4) (fa1 (tri_iload 53 4) (fa1 (tri_ifge 56 59) (fa1 (tri_iload 58 4) (fa1 (tri_iret) (fa1 (tri_aload 60 0) (fa1 (tri_getR 63 12 20 (fun _ => 26)) (fa1 (tri_aload 64 0) (fa1 (tri_getI 67 12 46) (fa1 (tri_iload 68 1) (fa1 (tri_ast 69 20 lnR id) (fa1 (tri_aload 70 0) (fa1 (tri_getR 73 12 20 (fun _ => 27)) (fa1 (tri_aload 74 0) (fa1 (tri_getI 77 12 46) (fa1 (tri_iload 78 1) (fa1 (tri_push 79 (.inl 2)) (fa1 (tri_cmpne 82 87) (fa1 (tri_push 84 (.inl (-4))) (fa1 (tri_goto 88) (fa1 (tri_iload 88 2) (fa1 (tri_ast 89 20 lnR id) (fa1 (tri_aload 90 0) (fa1 (tri_getR 93 12 20 (fun _ => 28)) (fa1 (tri_aload 94 0) (fa1 (tri_getI 97 12 46) (fa1 (tri_iload 98 3) (fa1 (tri_ast 99 20 lnR id) (fa1 (tri_aload 100 0) (fa1 (tri_dup 101) (fa1 (tri_getI 104 12 46) (fa1 (tri_push 105 (.inl 1)) (fa1 (tri_bin 106 (fun x y => wr (x + y))) (fa1 (tri_putI 109 12 46) (fa1 (tri_aload 110 0) (fa1 (tri_getI 113 12 38) (fa1 (tri_iret) (fa0)))))))))))))))))))))))))))))))))))))))))))))))))))))))))))))))))
set_option maxRecDepth 100000 in
set_option maxHeartbeats 4000000 in
theorem ks_X12_step (G : Wp) (l : Launch) : ∀ e ∈ k_X12_step, Snd loR G l RX12 cX12_step 5 (some .int) rm_X12_step e.1 e.2 :=
  fa1 (s_iload_n (kf := 1) (j := 1) (by decide +kernel) rfl) <|
  fa1 (s_i2l (by decide +kernel)) <|
  fa1 (s_lconst (n := 0) (v := 0) (by decide +kernel) (by decide +kernel) (p64 rfl)) <|
  fa1 (s_ldc2 (idx := 364) (v := 3) (by decide +kernel) w_1674 (p64 rfl)) <|
  fa1 (s_scallI (n := 3) (idx := 187) (y := yX12_in) (by decide +kernel) (gg_X12_in) yv_X12_in (all4 w_1498 w_1499 w_113 w_1500) rfl rfl ⟨by decide, by decide⟩) <|
  fa1 (s_ifne (off := 5) (by decide +kernel) (by decide)) <|
  fa1 (s_iconst (n := -1) (v := -1) (by decide +kernel) (by decide +kernel) (p32 rfl)) <|
  fa1 (s_iret (by decide +kernel) rfl) <|
  fa1 (s_aload_n (kf := 0) (j := 0) (by decide +kernel) rfl) <|
  fa1 (s_getI (ci := 12) (f := 45) (idx := 85) (C := RX12) (T := TX12) (NF := 83) (by decide +kernel) rfl (by decide) inG_X12 (by decide) w_1283 li_X12_45) <|
  fa1 (s_bipush (n := -4) (v := -4) (by decide +kernel) (by decide +kernel) (p32 rfl)) <|
  fa1 (s_cmpne (off := 6) (by decide +kernel) (by decide)) <|
  fa1 (s_bipush (n := -2) (v := -2) (by decide +kernel) (by decide +kernel) (p32 rfl)) <|
  fa1 (s_iret (by decide +kernel) rfl) <|
  fa1 (s_aload_n (kf := 0) (j := 0) (by decide +kernel) rfl) <|
  fa1 (s_getI (ci := 12) (f := 46) (idx := 358) (C := RX12) (T := TX12) (NF := 83) (by decide +kernel) rfl (by decide) inG_X12 (by decide) w_1284 li_X12_46) <|
  fa1 (s_bipush (n := 20) (v := 20) (by decide +kernel) (by decide +kernel) (p32 rfl)) <|
  fa1 (s_cmpne (off := 6) (by decide +kernel) (by decide)) <|
  fa1 (s_bipush (n := -3) (v := -3) (by decide +kernel) (by decide +kernel) (p32 rfl)) <|
  fa1 (s_iret (by decide +kernel) rfl) <|
  fa1 (s_aload_n (kf := 0) (j := 0) (by decide +kernel) rfl) <|
  fa1 (s_vcallV (n := 0) (ci := 12) (C := RX12) (T := TX12) (NF := 83) (idx := 366) (y := yX12_findTerm) (by decide +kernel) (gg_X12_findTerm) rfl (by decide) yv_X12_findTerm (all5 w_1675 w_1677 w_72 w_113 w_1678) rfl rfl ⟨by decide, by decide⟩) <|
  fa1 (s_aload_n (kf := 0) (j := 0) (by decide +kernel) rfl) <|
  fa1 (s_iload_n (kf := 1) (j := 1) (by decide +kernel) rfl) <|
  fa1 (s_iload_n (kf := 2) (j := 2) (by decide +kernel) rfl) <|
  fa1 (s_iload_n (kf := 3) (j := 3) (by decide +kernel) rfl) <|
  fa1 (s_vcallI (n := 3) (ci := 12) (C := RX12) (T := TX12) (NF := 83) (idx := 348) (y := yX12_steps) (by decide +kernel) (gg_X12_steps) rfl (by decide) yv_X12_steps (all5 w_1622 w_1624 w_63 w_113 w_1625) rfl rfl ⟨by decide, by decide⟩) <|
  fa1 (s_istore (j := 4) (by decide +kernel) (by decide)) <|
  fa1 (s_iload (j := 4) (by decide +kernel)) <|
  fa1 (s_ifge (off := 6) (by decide +kernel) (by decide)) <|
  fa1 (s_iload (j := 4) (by decide +kernel)) <|
  fa1 (s_iret (by decide +kernel) rfl) <|
  fa1 (s_aload_n (kf := 0) (j := 0) (by decide +kernel) rfl) <|
  fa1 (s_getR (t2 := 20) (g := (fun _ => 26)) (ci := 12) (f := 47) (idx := 89) (C := RX12) (T := TX12) (NF := 83) (by decide +kernel) rfl (by decide) inG_X12 (by decide) w_1285 lr_X12_47 (by decide)) <|
  fa1 (s_aload_n (kf := 0) (j := 0) (by decide +kernel) rfl) <|
  fa1 (s_getI (ci := 12) (f := 46) (idx := 358) (C := RX12) (T := TX12) (NF := 83) (by decide +kernel) rfl (by decide) inG_X12 (by decide) w_1284 li_X12_46) <|
  fa1 (s_iload_n (kf := 1) (j := 1) (by decide +kernel) rfl) <|
  fa1 (s_iast (by decide +kernel) lt_loR_20) <|
  fa1 (s_aload_n (kf := 0) (j := 0) (by decide +kernel) rfl) <|
  fa1 (s_getR (t2 := 20) (g := (fun _ => 27)) (ci := 12) (f := 48) (idx := 92) (C := RX12) (T := TX12) (NF := 83) (by decide +kernel) rfl (by decide) inG_X12 (by decide) w_1286 lr_X12_48 (by decide)) <|
  fa1 (s_aload_n (kf := 0) (j := 0) (by decide +kernel) rfl) <|
  fa1 (s_getI (ci := 12) (f := 46) (idx := 358) (C := RX12) (T := TX12) (NF := 83) (by decide +kernel) rfl (by decide) inG_X12 (by decide) w_1284 li_X12_46) <|
  fa1 (s_iload_n (kf := 1) (j := 1) (by decide +kernel) rfl) <|
  fa1 (s_iconst (n := 2) (v := 2) (by decide +kernel) (by decide +kernel) (p32 rfl)) <|
  fa1 (s_cmpne (off := 8) (by decide +kernel) (by decide)) <|
  fa1 (s_bipush (n := -4) (v := -4) (by decide +kernel) (by decide +kernel) (p32 rfl)) <|
  fa1 (s_goto (off := 4) (by decide +kernel) (by decide)) <|
  fa1 (s_iload_n (kf := 2) (j := 2) (by decide +kernel) rfl) <|
  fa1 (s_iast (by decide +kernel) lt_loR_20) <|
  fa1 (s_aload_n (kf := 0) (j := 0) (by decide +kernel) rfl) <|
  fa1 (s_getR (t2 := 20) (g := (fun _ => 28)) (ci := 12) (f := 49) (idx := 95) (C := RX12) (T := TX12) (NF := 83) (by decide +kernel) rfl (by decide) inG_X12 (by decide) w_1287 lr_X12_49 (by decide)) <|
  fa1 (s_aload_n (kf := 0) (j := 0) (by decide +kernel) rfl) <|
  fa1 (s_getI (ci := 12) (f := 46) (idx := 358) (C := RX12) (T := TX12) (NF := 83) (by decide +kernel) rfl (by decide) inG_X12 (by decide) w_1284 li_X12_46) <|
  fa1 (s_iload_n (kf := 3) (j := 3) (by decide +kernel) rfl) <|
  fa1 (s_iast (by decide +kernel) lt_loR_20) <|
  fa1 (s_aload_n (kf := 0) (j := 0) (by decide +kernel) rfl) <|
  fa1 (s_dup (by decide +kernel)) <|
  fa1 (s_getI (ci := 12) (f := 46) (idx := 358) (C := RX12) (T := TX12) (NF := 83) (by decide +kernel) rfl (by decide) inG_X12 (by decide) w_1284 li_X12_46) <|
  fa1 (s_iconst (n := 1) (v := 1) (by decide +kernel) (by decide +kernel) (p32 rfl)) <|
  fa1 (s_iadd (by decide +kernel)) <|
  fa1 (s_putI (ci := 12) (f := 46) (idx := 358) (C := RX12) (T := TX12) (NF := 83) (by decide +kernel) rfl (by decide) inG_X12 (by decide) w_1284 tyX12 tyX12_ok nmX12 rfl (by decide +kernel) li_X12_46) <|
  fa1 (s_aload_n (kf := 0) (j := 0) (by decide +kernel) rfl) <|
  fa1 (s_getI (ci := 12) (f := 38) (idx := 324) (C := RX12) (T := TX12) (NF := 83) (by decide +kernel) rfl (by decide) inG_X12 (by decide) w_1276 li_X12_38) <|
  fa1 (s_iret (by decide +kernel) rfl) <| fa0
theorem gg_X12_step {G : Wp} {l : Launch} : GoodM loR G l yX12_step cX12_step 5 (some .int) rm_X12_step f_X12_step := met_of kt_X12_step (lkp_snd (ks_X12_step G l)) (by decide +kernel) rfl (by decide)
noncomputable def k_X12_undo : List (Nat × Ins) := [
  (0, i_aload 1 0),
  (1, i_getI 4 12 45),
  (4, i_push 6 (.inl (-4))),
  (6, i_cmpeq 9 16),
  (9, i_aload 10 0),
  (10, i_getI 13 12 46),
  (13, i_ifne 16 19),
  (16, i_push 18 (.inl (-4))),
  (18, i_iret),
  (19, i_aload 20 0),
  (20, i_dup 21),
  (21, i_getI 24 12 46),
  (24, i_push 25 (.inl 1)),
  (25, i_bin 26 (fun x y => wr (x - y))),
  (26, i_putI 29 12 46),
  (29, i_aload 30 0),
  (30, i_getI 33 12 46),
  (33, i_iret)]
noncomputable def kc_X12_undo : Nat → Option Ins := lkp k_X12_undo
noncomputable def f_X12_undo : List AV → Mem → Option Rs := den 1 kc_X12_undo
abbrev rm_X12_undo : Room := { frames := 0, cells := 0, slots := 0, locals := 0 }
set_option maxRecDepth 100000 in
theorem kt_X12_undo : TriC kc_X12_undo := lkp_tri (fa1 (tri_aload 1 0) (fa1 (tri_getI 4 12 45) (fa1 (tri_push 6 (.inl (-4))) (fa1 (tri_cmpeq 9 16) (fa1 (tri_aload 10 0) (fa1 (tri_getI 13 12 46) (fa1 (tri_ifne 16 19) (fa1 (tri_push 18 (.inl (-4))) (fa1 (tri_iret) (fa1 (tri_aload 20 0) (fa1 (tri_dup 21) (fa1 (tri_getI 24 12 46) (fa1 (tri_push 25 (.inl 1)) (fa1 (tri_bin 26 (fun x y => wr (x - y))) (fa1 (tri_putI 29 12 46) (fa1 (tri_aload 30 0) (fa1 (tri_getI 33 12 46) (fa1 (tri_iret) (fa0)))))))))))))))))))
set_option maxRecDepth 100000 in
set_option maxHeartbeats 4000000 in
theorem ks_X12_undo (G : Wp) (l : Launch) : ∀ e ∈ k_X12_undo, Snd loR G l RX12 cX12_undo 1 (some .int) rm_X12_undo e.1 e.2 :=
  fa1 (s_aload_n (kf := 0) (j := 0) (by decide +kernel) rfl) <|
  fa1 (s_getI (ci := 12) (f := 45) (idx := 85) (C := RX12) (T := TX12) (NF := 83) (by decide +kernel) rfl (by decide) inG_X12 (by decide) w_1283 li_X12_45) <|
  fa1 (s_bipush (n := -4) (v := -4) (by decide +kernel) (by decide +kernel) (p32 rfl)) <|
  fa1 (s_cmpeq (off := 10) (by decide +kernel) (by decide)) <|
  fa1 (s_aload_n (kf := 0) (j := 0) (by decide +kernel) rfl) <|
  fa1 (s_getI (ci := 12) (f := 46) (idx := 358) (C := RX12) (T := TX12) (NF := 83) (by decide +kernel) rfl (by decide) inG_X12 (by decide) w_1284 li_X12_46) <|
  fa1 (s_ifne (off := 6) (by decide +kernel) (by decide)) <|
  fa1 (s_bipush (n := -4) (v := -4) (by decide +kernel) (by decide +kernel) (p32 rfl)) <|
  fa1 (s_iret (by decide +kernel) rfl) <|
  fa1 (s_aload_n (kf := 0) (j := 0) (by decide +kernel) rfl) <|
  fa1 (s_dup (by decide +kernel)) <|
  fa1 (s_getI (ci := 12) (f := 46) (idx := 358) (C := RX12) (T := TX12) (NF := 83) (by decide +kernel) rfl (by decide) inG_X12 (by decide) w_1284 li_X12_46) <|
  fa1 (s_iconst (n := 1) (v := 1) (by decide +kernel) (by decide +kernel) (p32 rfl)) <|
  fa1 (s_isub (by decide +kernel)) <|
  fa1 (s_putI (ci := 12) (f := 46) (idx := 358) (C := RX12) (T := TX12) (NF := 83) (by decide +kernel) rfl (by decide) inG_X12 (by decide) w_1284 tyX12 tyX12_ok nmX12 rfl (by decide +kernel) li_X12_46) <|
  fa1 (s_aload_n (kf := 0) (j := 0) (by decide +kernel) rfl) <|
  fa1 (s_getI (ci := 12) (f := 46) (idx := 358) (C := RX12) (T := TX12) (NF := 83) (by decide +kernel) rfl (by decide) inG_X12 (by decide) w_1284 li_X12_46) <|
  fa1 (s_iret (by decide +kernel) rfl) <| fa0
theorem gg_X12_undo {G : Wp} {l : Launch} : GoodM loR G l yX12_undo cX12_undo 1 (some .int) rm_X12_undo f_X12_undo := met_of kt_X12_undo (lkp_snd (ks_X12_undo G l)) (by decide +kernel) rfl (by decide)
noncomputable def k_X12_proof : List (Nat × Ins) := [
  (0, i_aload 1 0),
  (1, i_getI 4 12 45),
  (4, i_push 6 (.inl (-4))),
  (6, i_cmpne 9 28),
  (9, i_iload 10 1),
  (10, i_i2l 11),
  (11, i_push 12 (.inr (.inl 0))),
  (12, i_push 15 (.inr (.inl (3)))),
  (15, i_callI 18 3 anyv f_X12_in),
  (18, i_ifeq 21 26),
  (21, i_push 23 (.inl (-2))),
  (23, i_goto 27),
  (26, i_push 27 (.inl (-1))),
  (27, i_iret),
  (28, i_aload 29 0),
  (29, i_callV 32 1 (rcv 12) f_X12_findTerm),
  (32, i_iload 33 1),
  (33, i_i2l 34),
  (34, i_push 37 (.inr (.inl (10)))),
  (37, i_push 39 (.inl 9)),
  (39, i_aload 40 0),
  (40, i_getI 43 12 36),
  (43, i_bin 44 (fun x y => wr (x + y))),
  (44, i_i2l 45),
  (45, i_callI 48 3 anyv f_X12_in),
  (48, i_ifeq 51 61),
  (51, i_aload 52 0),
  (52, i_getR 55 12 20 (fun _ => 20)),
  (55, i_iload 56 1),
  (56, i_push 58 (.inl 10)),
  (58, i_bin 59 (fun x y => wr (x - y))),
  (59, i_ald 60 20 lnR),
  (60, i_iret),
  (61, i_iload 62 1),
  (62, i_ifne 65 72),
  (65, i_aload 66 0),
  (66, i_getI 69 12 45),
  (69, i_goto 121),
  (72, i_iload 73 1),
  (73, i_push 74 (.inl 1)),
  (74, i_cmpne 77 84),
  (77, i_aload 78 0),
  (78, i_getI 81 12 46),
  (81, i_goto 121),
  (84, i_iload 85 1),
  (85, i_push 86 (.inl 2)),
  (86, i_cmpne 89 96),
  (89, i_aload 90 0),
  (90, i_getI 93 12 36),
  (93, i_goto 121),
  (96, i_iload 97 1),
  (97, i_push 98 (.inl 3)),
  (98, i_cmpne 101 120),
  (101, i_aload 102 0),
  (102, i_aload 103 0),
  (103, i_getI 106 12 45),
  (106, i_callI 109 2 (rcv 12) f_X12_isAtRight),
  (109, i_ifeq 112 116),
  (112, i_push 113 (.inl 1)),
  (113, i_goto 121),
  (116, i_push 117 (.inl 0)),
  (117, i_goto 121),
  (120, i_push 121 (.inl (-1))),
  (121, i_iret)]
noncomputable def kc_X12_proof : Nat → Option Ins := lkp k_X12_proof
noncomputable def f_X12_proof : List AV → Mem → Option Rs := den 2 kc_X12_proof
abbrev rm_X12_proof : Room := { frames := 6, cells := 0, slots := 0, locals := 143 }
set_option maxRecDepth 100000 in
theorem kt_X12_proof : TriC kc_X12_proof := lkp_tri (fa1 (tri_aload 1 0) (fa1 (tri_getI 4 12 45) (fa1 (tri_push 6 (.inl (-4))) (fa1 (tri_cmpne 9 28) (fa1 (tri_iload 10 1) (fa1 (tri_i2l 11) (fa1 (tri_push 12 (.inr (.inl 0))) (fa1 (tri_push 15 (.inr (.inl (3)))) (fa1 (tri_callI 18 3 anyv f_X12_in) (fa1 (tri_ifeq 21 26) (fa1 (tri_push 23 (.inl (-2))) (fa1 (tri_goto 27) (fa1 (tri_push 27 (.inl (-1))) (fa1 (tri_iret) (fa1 (tri_aload 29 0) (fa1 (tri_callV 32 1 (rcv 12) f_X12_findTerm) (fa1 (tri_iload 33 1) (fa1 (tri_i2l 34) (fa1 (tri_push 37 (.inr (.inl (10)))) (fa1 (tri_push 39 (.inl 9)) (fa1 (tri_aload 40 0) (fa1 (tri_getI 43 12 36) (fa1 (tri_bin 44 (fun x y => wr (x + y))) (fa1 (tri_i2l 45) (fa1 (tri_callI 48 3 anyv f_X12_in) (fa1 (tri_ifeq 51 61) (fa1 (tri_aload 52 0) (fa1 (tri_getR 55 12 20 (fun _ => 20)) (fa1 (tri_iload 56 1) (fa1 (tri_push 58 (.inl 10)) (fa1 (tri_bin 59 (fun x y => wr (x - y))) (fa1 (tri_ald 60 20 lnR) (fa1 (tri_iret) (fa1 (tri_iload 62 1) (fa1 (tri_ifne 65 72) (fa1 (tri_aload 66 0) (fa1 (tri_getI 69 12 45) (fa1 (tri_goto 121) (fa1 (tri_iload 73 1) (fa1 (tri_push 74 (.inl 1)) (fa1 (tri_cmpne 77 84) (fa1 (tri_aload 78 0) (fa1 (tri_getI 81 12 46) (fa1 (tri_goto 121) (fa1 (tri_iload 85 1) (fa1 (tri_push 86 (.inl 2)) (fa1 (tri_cmpne 89 96) (fa1 (tri_aload 90 0) (fa1 (tri_getI 93 12 36) (fa1 (tri_goto 121) (fa1 (tri_iload 97 1) (fa1 (tri_push 98 (.inl 3)) (fa1 (tri_cmpne 101 120) (fa1 (tri_aload 102 0) (fa1 (tri_aload 103 0) (fa1 (tri_getI 106 12 45) (fa1 (tri_callI 109 2 (rcv 12) f_X12_isAtRight) (fa1 (tri_ifeq 112 116) (fa1 (tri_push 113 (.inl 1)) (fa1 (tri_goto 121) (fa1 (tri_push 117 (.inl 0)) (fa1 (tri_goto 121) (fa1 (tri_push 121 (.inl (-1))) (fa1 (tri_iret) (fa0)))))))))))))))))))))))))))))))))))))))))))))))))))))))))))))))))
set_option maxRecDepth 100000 in
set_option maxHeartbeats 4000000 in
theorem ks_X12_proof (G : Wp) (l : Launch) : ∀ e ∈ k_X12_proof, Snd loR G l RX12 cX12_proof 2 (some .int) rm_X12_proof e.1 e.2 :=
  fa1 (s_aload_n (kf := 0) (j := 0) (by decide +kernel) rfl) <|
  fa1 (s_getI (ci := 12) (f := 45) (idx := 85) (C := RX12) (T := TX12) (NF := 83) (by decide +kernel) rfl (by decide) inG_X12 (by decide) w_1283 li_X12_45) <|
  fa1 (s_bipush (n := -4) (v := -4) (by decide +kernel) (by decide +kernel) (p32 rfl)) <|
  fa1 (s_cmpne (off := 22) (by decide +kernel) (by decide)) <|
  fa1 (s_iload_n (kf := 1) (j := 1) (by decide +kernel) rfl) <|
  fa1 (s_i2l (by decide +kernel)) <|
  fa1 (s_lconst (n := 0) (v := 0) (by decide +kernel) (by decide +kernel) (p64 rfl)) <|
  fa1 (s_ldc2 (idx := 364) (v := 3) (by decide +kernel) w_1674 (p64 rfl)) <|
  fa1 (s_scallI (n := 3) (idx := 187) (y := yX12_in) (by decide +kernel) (gg_X12_in) yv_X12_in (all4 w_1498 w_1499 w_113 w_1500) rfl rfl ⟨by decide, by decide⟩) <|
  fa1 (s_ifeq (off := 8) (by decide +kernel) (by decide)) <|
  fa1 (s_bipush (n := -2) (v := -2) (by decide +kernel) (by decide +kernel) (p32 rfl)) <|
  fa1 (s_goto (off := 4) (by decide +kernel) (by decide)) <|
  fa1 (s_iconst (n := -1) (v := -1) (by decide +kernel) (by decide +kernel) (p32 rfl)) <|
  fa1 (s_iret (by decide +kernel) rfl) <|
  fa1 (s_aload_n (kf := 0) (j := 0) (by decide +kernel) rfl) <|
  fa1 (s_vcallV (n := 0) (ci := 12) (C := RX12) (T := TX12) (NF := 83) (idx := 366) (y := yX12_findTerm) (by decide +kernel) (gg_X12_findTerm) rfl (by decide) yv_X12_findTerm (all5 w_1675 w_1677 w_72 w_113 w_1678) rfl rfl ⟨by decide, by decide⟩) <|
  fa1 (s_iload_n (kf := 1) (j := 1) (by decide +kernel) rfl) <|
  fa1 (s_i2l (by decide +kernel)) <|
  fa1 (s_ldc2 (idx := 305) (v := 10) (by decide +kernel) w_1613 (p64 rfl)) <|
  fa1 (s_bipush (n := 9) (v := 9) (by decide +kernel) (by decide +kernel) (p32 rfl)) <|
  fa1 (s_aload_n (kf := 0) (j := 0) (by decide +kernel) rfl) <|
  fa1 (s_getI (ci := 12) (f := 36) (idx := 311) (C := RX12) (T := TX12) (NF := 83) (by decide +kernel) rfl (by decide) inG_X12 (by decide) w_1274 li_X12_36) <|
  fa1 (s_iadd (by decide +kernel)) <|
  fa1 (s_i2l (by decide +kernel)) <|
  fa1 (s_scallI (n := 3) (idx := 187) (y := yX12_in) (by decide +kernel) (gg_X12_in) yv_X12_in (all4 w_1498 w_1499 w_113 w_1500) rfl rfl ⟨by decide, by decide⟩) <|
  fa1 (s_ifeq (off := 13) (by decide +kernel) (by decide)) <|
  fa1 (s_aload_n (kf := 0) (j := 0) (by decide +kernel) rfl) <|
  fa1 (s_getR (t2 := 20) (g := (fun _ => 20)) (ci := 12) (f := 35) (idx := 67) (C := RX12) (T := TX12) (NF := 83) (by decide +kernel) rfl (by decide) inG_X12 (by decide) w_1273 lr_X12_35 (by decide)) <|
  fa1 (s_iload_n (kf := 1) (j := 1) (by decide +kernel) rfl) <|
  fa1 (s_bipush (n := 10) (v := 10) (by decide +kernel) (by decide +kernel) (p32 rfl)) <|
  fa1 (s_isub (by decide +kernel)) <|
  fa1 (s_iald (by decide +kernel)) <|
  fa1 (s_iret (by decide +kernel) rfl) <|
  fa1 (s_iload_n (kf := 1) (j := 1) (by decide +kernel) rfl) <|
  fa1 (s_ifne (off := 10) (by decide +kernel) (by decide)) <|
  fa1 (s_aload_n (kf := 0) (j := 0) (by decide +kernel) rfl) <|
  fa1 (s_getI (ci := 12) (f := 45) (idx := 85) (C := RX12) (T := TX12) (NF := 83) (by decide +kernel) rfl (by decide) inG_X12 (by decide) w_1283 li_X12_45) <|
  fa1 (s_goto (off := 52) (by decide +kernel) (by decide)) <|
  fa1 (s_iload_n (kf := 1) (j := 1) (by decide +kernel) rfl) <|
  fa1 (s_iconst (n := 1) (v := 1) (by decide +kernel) (by decide +kernel) (p32 rfl)) <|
  fa1 (s_cmpne (off := 10) (by decide +kernel) (by decide)) <|
  fa1 (s_aload_n (kf := 0) (j := 0) (by decide +kernel) rfl) <|
  fa1 (s_getI (ci := 12) (f := 46) (idx := 358) (C := RX12) (T := TX12) (NF := 83) (by decide +kernel) rfl (by decide) inG_X12 (by decide) w_1284 li_X12_46) <|
  fa1 (s_goto (off := 40) (by decide +kernel) (by decide)) <|
  fa1 (s_iload_n (kf := 1) (j := 1) (by decide +kernel) rfl) <|
  fa1 (s_iconst (n := 2) (v := 2) (by decide +kernel) (by decide +kernel) (p32 rfl)) <|
  fa1 (s_cmpne (off := 10) (by decide +kernel) (by decide)) <|
  fa1 (s_aload_n (kf := 0) (j := 0) (by decide +kernel) rfl) <|
  fa1 (s_getI (ci := 12) (f := 36) (idx := 311) (C := RX12) (T := TX12) (NF := 83) (by decide +kernel) rfl (by decide) inG_X12 (by decide) w_1274 li_X12_36) <|
  fa1 (s_goto (off := 28) (by decide +kernel) (by decide)) <|
  fa1 (s_iload_n (kf := 1) (j := 1) (by decide +kernel) rfl) <|
  fa1 (s_iconst (n := 3) (v := 3) (by decide +kernel) (by decide +kernel) (p32 rfl)) <|
  fa1 (s_cmpne (off := 22) (by decide +kernel) (by decide)) <|
  fa1 (s_aload_n (kf := 0) (j := 0) (by decide +kernel) rfl) <|
  fa1 (s_aload_n (kf := 0) (j := 0) (by decide +kernel) rfl) <|
  fa1 (s_getI (ci := 12) (f := 45) (idx := 85) (C := RX12) (T := TX12) (NF := 83) (by decide +kernel) rfl (by decide) inG_X12 (by decide) w_1283 li_X12_45) <|
  fa1 (s_vcallI (n := 1) (ci := 12) (C := RX12) (T := TX12) (NF := 83) (idx := 369) (y := yX12_isAtRight) (by decide +kernel) (gg_X12_isAtRight) rfl (by decide) yv_X12_isAtRight (all5 w_1687 w_1689 w_73 w_113 w_1690) rfl rfl ⟨by decide, by decide⟩) <|
  fa1 (s_ifeq (off := 7) (by decide +kernel) (by decide)) <|
  fa1 (s_iconst (n := 1) (v := 1) (by decide +kernel) (by decide +kernel) (p32 rfl)) <|
  fa1 (s_goto (off := 8) (by decide +kernel) (by decide)) <|
  fa1 (s_iconst (n := 0) (v := 0) (by decide +kernel) (by decide +kernel) (p32 rfl)) <|
  fa1 (s_goto (off := 4) (by decide +kernel) (by decide)) <|
  fa1 (s_iconst (n := -1) (v := -1) (by decide +kernel) (by decide +kernel) (p32 rfl)) <|
  fa1 (s_iret (by decide +kernel) rfl) <| fa0
theorem gg_X12_proof {G : Wp} {l : Launch} : GoodM loR G l yX12_proof cX12_proof 2 (some .int) rm_X12_proof f_X12_proof := met_of kt_X12_proof (lkp_snd (ks_X12_proof G l)) (by decide +kernel) rfl (by decide)
noncomputable def k_X12_becomes : List (Nat × Ins) := [
  (0, i_aload 1 0),
  (1, i_getR 4 12 20 (fun _ => 7)),
  (4, i_iload 5 1),
  (5, i_iload 6 2),
  (6, i_ast 7 20 lnR id),
  (7, i_aload 8 0),
  (8, i_getR 11 12 20 (fun _ => 17)),
  (11, i_push 14 (.inl 1000)),
  (14, i_iload 15 1),
  (15, i_bin 16 (fun x y => wr (x * y))),
  (16, i_aload 17 0),
  (17, i_getI 20 12 22),
  (20, i_bin 21 (fun x y => wr (x + y))),
  (21, i_iload 22 2),
  (22, i_push 23 (.inl 1)),
  (23, i_bin 24 (fun x y => wr (x + y))),
  (24, i_ast 25 20 lnR id),
  (25, i_vret)]
noncomputable def kc_X12_becomes : Nat → Option Ins := lkp k_X12_becomes
noncomputable def f_X12_becomes : List AV → Mem → Option Rs := den 3 kc_X12_becomes
abbrev rm_X12_becomes : Room := { frames := 0, cells := 0, slots := 0, locals := 0 }
set_option maxRecDepth 100000 in
theorem kt_X12_becomes : TriC kc_X12_becomes := lkp_tri (fa1 (tri_aload 1 0) (fa1 (tri_getR 4 12 20 (fun _ => 7)) (fa1 (tri_iload 5 1) (fa1 (tri_iload 6 2) (fa1 (tri_ast 7 20 lnR id) (fa1 (tri_aload 8 0) (fa1 (tri_getR 11 12 20 (fun _ => 17)) (fa1 (tri_push 14 (.inl 1000)) (fa1 (tri_iload 15 1) (fa1 (tri_bin 16 (fun x y => wr (x * y))) (fa1 (tri_aload 17 0) (fa1 (tri_getI 20 12 22) (fa1 (tri_bin 21 (fun x y => wr (x + y))) (fa1 (tri_iload 22 2) (fa1 (tri_push 23 (.inl 1)) (fa1 (tri_bin 24 (fun x y => wr (x + y))) (fa1 (tri_ast 25 20 lnR id) (fa1 (tri_vret) (fa0)))))))))))))))))))
set_option maxRecDepth 100000 in
set_option maxHeartbeats 4000000 in
theorem ks_X12_becomes (G : Wp) (l : Launch) : ∀ e ∈ k_X12_becomes, Snd loR G l RX12 cX12_becomes 3 none rm_X12_becomes e.1 e.2 :=
  fa1 (s_aload_n (kf := 0) (j := 0) (by decide +kernel) rfl) <|
  fa1 (s_getR (t2 := 20) (g := (fun _ => 7)) (ci := 12) (f := 8) (idx := 28) (C := RX12) (T := TX12) (NF := 83) (by decide +kernel) rfl (by decide) inG_X12 (by decide) w_1246 lr_X12_8 (by decide)) <|
  fa1 (s_iload_n (kf := 1) (j := 1) (by decide +kernel) rfl) <|
  fa1 (s_iload_n (kf := 2) (j := 2) (by decide +kernel) rfl) <|
  fa1 (s_iast (by decide +kernel) lt_loR_20) <|
  fa1 (s_aload_n (kf := 0) (j := 0) (by decide +kernel) rfl) <|
  fa1 (s_getR (t2 := 20) (g := (fun _ => 17)) (ci := 12) (f := 20) (idx := 58) (C := RX12) (T := TX12) (NF := 83) (by decide +kernel) rfl (by decide) inG_X12 (by decide) w_1258 lr_X12_20 (by decide)) <|
  fa1 (s_sipush (n := 1000) (v := 1000) (by decide +kernel) (by decide +kernel) (p32 rfl)) <|
  fa1 (s_iload_n (kf := 1) (j := 1) (by decide +kernel) rfl) <|
  fa1 (s_imul (by decide +kernel)) <|
  fa1 (s_aload_n (kf := 0) (j := 0) (by decide +kernel) rfl) <|
  fa1 (s_getI (ci := 12) (f := 22) (idx := 276) (C := RX12) (T := TX12) (NF := 83) (by decide +kernel) rfl (by decide) inG_X12 (by decide) w_1260 li_X12_22) <|
  fa1 (s_iadd (by decide +kernel)) <|
  fa1 (s_iload_n (kf := 2) (j := 2) (by decide +kernel) rfl) <|
  fa1 (s_iconst (n := 1) (v := 1) (by decide +kernel) (by decide +kernel) (p32 rfl)) <|
  fa1 (s_iadd (by decide +kernel)) <|
  fa1 (s_iast (by decide +kernel) lt_loR_20) <|
  fa1 (s_vret (by decide +kernel) rfl) <| fa0
theorem gg_X12_becomes {G : Wp} {l : Launch} : GoodM loR G l yX12_becomes cX12_becomes 3 none rm_X12_becomes f_X12_becomes := met_of kt_X12_becomes (lkp_snd (ks_X12_becomes G l)) (by decide +kernel) rfl (by decide)
noncomputable def k_X12_shows : List (Nat × Ins) := [
  (0, i_aload 1 0),
  (1, i_getR 4 12 20 (fun _ => 10)),
  (4, i_iload 5 1),
  (5, i_aload 6 0),
  (6, i_getI 9 12 16),
  (9, i_ast 10 20 lnR id),
  (10, i_aload 11 0),
  (11, i_getR 14 12 20 (fun _ => 11)),
  (14, i_iload 15 1),
  (15, i_aload 16 0),
  (16, i_getI 19 12 46),
  (19, i_ast 20 20 lnR id),
  (20, i_push 21 (.inl 0)),
  (21, i_istore 22 2),
  (22, i_iload 23 2),
  (23, i_aload 24 0),
  (24, i_getI 27 12 46),
  (27, i_cmpge 30 91),
  (30, i_aload 31 0),
  (31, i_getR 34 12 20 (fun _ => 14)),
  (34, i_aload 35 0),
  (35, i_getI 38 12 16),
  (38, i_aload 39 0),
  (39, i_getR 42 12 20 (fun _ => 26)),
  (42, i_iload 43 2),
  (43, i_ald 44 20 lnR),
  (44, i_ast 45 20 lnR id),
  (45, i_aload 46 0),
  (46, i_getR 49 12 20 (fun _ => 15)),
  (49, i_aload 50 0),
  (50, i_getI 53 12 16),
  (53, i_aload 54 0),
  (54, i_getR 57 12 20 (fun _ => 27)),
  (57, i_iload 58 2),
  (58, i_ald 59 20 lnR),
  (59, i_ast 60 20 lnR id),
  (60, i_aload 61 0),
  (61, i_getR 64 12 20 (fun _ => 16)),
  (64, i_aload 65 0),
  (65, i_getI 68 12 16),
  (68, i_aload 69 0),
  (69, i_getR 72 12 20 (fun _ => 28)),
  (72, i_iload 73 2),
  (73, i_ald 74 20 lnR),
  (74, i_ast 75 20 lnR id),
  (75, i_aload 76 0),
  (76, i_dup 77),
  (77, i_getI 80 12 16),
  (80, i_push 81 (.inl 1)),
  (81, i_bin 82 (fun x y => wr (x + y))),
  (82, i_putI 85 12 16),
  (85, i_iinc 88 2 (1)),
  (88, i_goto 22),
  (91, i_aload 92 0),
  (92, i_getR 95 12 20 (fun _ => 13)),
  (95, i_iload 96 1),
  (96, i_aload 97 0),
  (97, i_getI 100 12 15),
  (100, i_ast 101 20 lnR id),
  (101, i_aload 102 0),
  (102, i_dup 103),
  (103, i_getI 106 12 15),
  (106, i_push 107 (.inl 1)),
  (107, i_bin 108 (fun x y => wr (x + y))),
  (108, i_putI 111 12 15),
  (111, i_aload 112 0),
  (112, i_getR 115 12 20 (fun _ => 12)),
  (115, i_iload 116 1),
  (116, i_push 118 (.inl (-4))),
  (118, i_ast 119 20 lnR id),
  (119, i_aload 120 0),
  (120, i_iload 121 1),
  (121, i_push 122 (.inl 2)),
  (122, i_callV 125 3 (rcv 12) f_X12_becomes),
  (125, i_vret)]
noncomputable def kc_X12_shows : Nat → Option Ins := lkp k_X12_shows
noncomputable def f_X12_shows : List AV → Mem → Option Rs := den 3 kc_X12_shows
abbrev rm_X12_shows : Room := { frames := 1, cells := 0, slots := 0, locals := 22 }
set_option maxRecDepth 100000 in
theorem kt_X12_shows : TriC kc_X12_shows := lkp_tri (fa1 (tri_aload 1 0) (fa1 (tri_getR 4 12 20 (fun _ => 10)) (fa1 (tri_iload 5 1) (fa1 (tri_aload 6 0) (fa1 (tri_getI 9 12 16) (fa1 (tri_ast 10 20 lnR id) (fa1 (tri_aload 11 0) (fa1 (tri_getR 14 12 20 (fun _ => 11)) (fa1 (tri_iload 15 1) (fa1 (tri_aload 16 0) (fa1 (tri_getI 19 12 46) (fa1 (tri_ast 20 20 lnR id) (fa1 (tri_push 21 (.inl 0)) (fa1 (tri_istore 22 2) (fa1 (tri_iload 23 2) (fa1 (tri_aload 24 0) (fa1 (tri_getI 27 12 46) (fa1 (tri_cmpge 30 91) (fa1 (tri_aload 31 0) (fa1 (tri_getR 34 12 20 (fun _ => 14)) (fa1 (tri_aload 35 0) (fa1 (tri_getI 38 12 16) (fa1 (tri_aload 39 0) (fa1 (tri_getR 42 12 20 (fun _ => 26)) (fa1 (tri_iload 43 2) (fa1 (tri_ald 44 20 lnR) (fa1 (tri_ast 45 20 lnR id) (fa1 (tri_aload 46 0) (fa1 (tri_getR 49 12 20 (fun _ => 15)) (fa1 (tri_aload 50 0) (fa1 (tri_getI 53 12 16) (fa1 (tri_aload 54 0) (fa1 (tri_getR 57 12 20 (fun _ => 27)) (fa1 (tri_iload 58 2) (fa1 (tri_ald 59 20 lnR) (fa1 (tri_ast 60 20 lnR id) (fa1 (tri_aload 61 0) (fa1 (tri_getR 64 12 20 (fun _ => 16)) (fa1 (tri_aload 65 0) (fa1 (tri_getI 68 12 16) (fa1 (tri_aload 69 0) (fa1 (tri_getR 72 12 20 (fun _ => 28)) (fa1 (tri_iload 73 2) (fa1 (tri_ald 74 20 lnR) (fa1 (tri_ast 75 20 lnR id) (fa1 (tri_aload 76 0) (fa1 (tri_dup 77) (fa1 (tri_getI 80 12 16) (fa1 (tri_push 81 (.inl 1)) (fa1 (tri_bin 82 (fun x y => wr (x + y))) (fa1 (tri_putI 85 12 16) (fa1 (tri_iinc 88 2 (1)) (fa1 (tri_goto 22) (fa1 (tri_aload 92 0) (fa1 (tri_getR 95 12 20 (fun _ => 13)) (fa1 (tri_iload 96 1) (fa1 (tri_aload 97 0) (fa1 (tri_getI 100 12 15) (fa1 (tri_ast 101 20 lnR id) (fa1 (tri_aload 102 0) (fa1 (tri_dup 103) (fa1 (tri_getI 106 12 15) (fa1 (tri_push 107 (.inl 1)) (fa1 (tri_bin 108 (fun x y => wr (x + y))) (fa1 (tri_putI 111 12 15) (fa1 (tri_aload 112 0) (fa1 (tri_getR 115 12 20 (fun _ => 12)) (fa1 (tri_iload 116 1) (fa1 (tri_push 118 (.inl (-4))) (fa1 (tri_ast 119 20 lnR id) (fa1 (tri_aload 120 0) (fa1 (tri_iload 121 1) (fa1 (tri_push 122 (.inl 2)) (fa1 (tri_callV 125 3 (rcv 12) f_X12_becomes) (fa1 (tri_vret) (fa0))))))))))))))))))))))))))))))))))))))))))))))))))))))))))))))))))))))))))))
set_option maxRecDepth 100000 in
set_option maxHeartbeats 4000000 in
theorem ks_X12_shows (G : Wp) (l : Launch) : ∀ e ∈ k_X12_shows, Snd loR G l RX12 cX12_shows 3 none rm_X12_shows e.1 e.2 :=
  fa1 (s_aload_n (kf := 0) (j := 0) (by decide +kernel) rfl) <|
  fa1 (s_getR (t2 := 20) (g := (fun _ => 10)) (ci := 12) (f := 11) (idx := 37) (C := RX12) (T := TX12) (NF := 83) (by decide +kernel) rfl (by decide) inG_X12 (by decide) w_1249 lr_X12_11 (by decide)) <|
  fa1 (s_iload_n (kf := 1) (j := 1) (by decide +kernel) rfl) <|
  fa1 (s_aload_n (kf := 0) (j := 0) (by decide +kernel) rfl) <|
  fa1 (s_getI (ci := 12) (f := 16) (idx := 372) (C := RX12) (T := TX12) (NF := 83) (by decide +kernel) rfl (by decide) inG_X12 (by decide) w_1254 li_X12_16) <|
  fa1 (s_iast (by decide +kernel) lt_loR_20) <|
  fa1 (s_aload_n (kf := 0) (j := 0) (by decide +kernel) rfl) <|
  fa1 (s_getR (t2 := 20) (g := (fun _ => 11)) (ci := 12) (f := 12) (idx := 40) (C := RX12) (T := TX12) (NF := 83) (by decide +kernel) rfl (by decide) inG_X12 (by decide) w_1250 lr_X12_12 (by decide)) <|
  fa1 (s_iload_n (kf := 1) (j := 1) (by decide +kernel) rfl) <|
  fa1 (s_aload_n (kf := 0) (j := 0) (by decide +kernel) rfl) <|
  fa1 (s_getI (ci := 12) (f := 46) (idx := 358) (C := RX12) (T := TX12) (NF := 83) (by decide +kernel) rfl (by decide) inG_X12 (by decide) w_1284 li_X12_46) <|
  fa1 (s_iast (by decide +kernel) lt_loR_20) <|
  fa1 (s_iconst (n := 0) (v := 0) (by decide +kernel) (by decide +kernel) (p32 rfl)) <|
  fa1 (s_istore_n (kf := 2) (j := 2) (by decide +kernel) rfl (by decide)) <|
  fa1 (s_iload_n (kf := 2) (j := 2) (by decide +kernel) rfl) <|
  fa1 (s_aload_n (kf := 0) (j := 0) (by decide +kernel) rfl) <|
  fa1 (s_getI (ci := 12) (f := 46) (idx := 358) (C := RX12) (T := TX12) (NF := 83) (by decide +kernel) rfl (by decide) inG_X12 (by decide) w_1284 li_X12_46) <|
  fa1 (s_cmpge (off := 64) (by decide +kernel) (by decide)) <|
  fa1 (s_aload_n (kf := 0) (j := 0) (by decide +kernel) rfl) <|
  fa1 (s_getR (t2 := 20) (g := (fun _ => 14)) (ci := 12) (f := 17) (idx := 49) (C := RX12) (T := TX12) (NF := 83) (by decide +kernel) rfl (by decide) inG_X12 (by decide) w_1255 lr_X12_17 (by decide)) <|
  fa1 (s_aload_n (kf := 0) (j := 0) (by decide +kernel) rfl) <|
  fa1 (s_getI (ci := 12) (f := 16) (idx := 372) (C := RX12) (T := TX12) (NF := 83) (by decide +kernel) rfl (by decide) inG_X12 (by decide) w_1254 li_X12_16) <|
  fa1 (s_aload_n (kf := 0) (j := 0) (by decide +kernel) rfl) <|
  fa1 (s_getR (t2 := 20) (g := (fun _ => 26)) (ci := 12) (f := 47) (idx := 89) (C := RX12) (T := TX12) (NF := 83) (by decide +kernel) rfl (by decide) inG_X12 (by decide) w_1285 lr_X12_47 (by decide)) <|
  fa1 (s_iload_n (kf := 2) (j := 2) (by decide +kernel) rfl) <|
  fa1 (s_iald (by decide +kernel)) <|
  fa1 (s_iast (by decide +kernel) lt_loR_20) <|
  fa1 (s_aload_n (kf := 0) (j := 0) (by decide +kernel) rfl) <|
  fa1 (s_getR (t2 := 20) (g := (fun _ => 15)) (ci := 12) (f := 18) (idx := 52) (C := RX12) (T := TX12) (NF := 83) (by decide +kernel) rfl (by decide) inG_X12 (by decide) w_1256 lr_X12_18 (by decide)) <|
  fa1 (s_aload_n (kf := 0) (j := 0) (by decide +kernel) rfl) <|
  fa1 (s_getI (ci := 12) (f := 16) (idx := 372) (C := RX12) (T := TX12) (NF := 83) (by decide +kernel) rfl (by decide) inG_X12 (by decide) w_1254 li_X12_16) <|
  fa1 (s_aload_n (kf := 0) (j := 0) (by decide +kernel) rfl) <|
  fa1 (s_getR (t2 := 20) (g := (fun _ => 27)) (ci := 12) (f := 48) (idx := 92) (C := RX12) (T := TX12) (NF := 83) (by decide +kernel) rfl (by decide) inG_X12 (by decide) w_1286 lr_X12_48 (by decide)) <|
  fa1 (s_iload_n (kf := 2) (j := 2) (by decide +kernel) rfl) <|
  fa1 (s_iald (by decide +kernel)) <|
  fa1 (s_iast (by decide +kernel) lt_loR_20) <|
  fa1 (s_aload_n (kf := 0) (j := 0) (by decide +kernel) rfl) <|
  fa1 (s_getR (t2 := 20) (g := (fun _ => 16)) (ci := 12) (f := 19) (idx := 55) (C := RX12) (T := TX12) (NF := 83) (by decide +kernel) rfl (by decide) inG_X12 (by decide) w_1257 lr_X12_19 (by decide)) <|
  fa1 (s_aload_n (kf := 0) (j := 0) (by decide +kernel) rfl) <|
  fa1 (s_getI (ci := 12) (f := 16) (idx := 372) (C := RX12) (T := TX12) (NF := 83) (by decide +kernel) rfl (by decide) inG_X12 (by decide) w_1254 li_X12_16) <|
  fa1 (s_aload_n (kf := 0) (j := 0) (by decide +kernel) rfl) <|
  fa1 (s_getR (t2 := 20) (g := (fun _ => 28)) (ci := 12) (f := 49) (idx := 95) (C := RX12) (T := TX12) (NF := 83) (by decide +kernel) rfl (by decide) inG_X12 (by decide) w_1287 lr_X12_49 (by decide)) <|
  fa1 (s_iload_n (kf := 2) (j := 2) (by decide +kernel) rfl) <|
  fa1 (s_iald (by decide +kernel)) <|
  fa1 (s_iast (by decide +kernel) lt_loR_20) <|
  fa1 (s_aload_n (kf := 0) (j := 0) (by decide +kernel) rfl) <|
  fa1 (s_dup (by decide +kernel)) <|
  fa1 (s_getI (ci := 12) (f := 16) (idx := 372) (C := RX12) (T := TX12) (NF := 83) (by decide +kernel) rfl (by decide) inG_X12 (by decide) w_1254 li_X12_16) <|
  fa1 (s_iconst (n := 1) (v := 1) (by decide +kernel) (by decide +kernel) (p32 rfl)) <|
  fa1 (s_iadd (by decide +kernel)) <|
  fa1 (s_putI (ci := 12) (f := 16) (idx := 372) (C := RX12) (T := TX12) (NF := 83) (by decide +kernel) rfl (by decide) inG_X12 (by decide) w_1254 tyX12 tyX12_ok nmX12 rfl (by decide +kernel) li_X12_16) <|
  fa1 (s_iinc (j := 2) (d := 1) (by decide +kernel) (by decide)) <|
  fa1 (s_goto (off := -66) (by decide +kernel) (by decide)) <|
  fa1 (s_aload_n (kf := 0) (j := 0) (by decide +kernel) rfl) <|
  fa1 (s_getR (t2 := 20) (g := (fun _ => 13)) (ci := 12) (f := 14) (idx := 46) (C := RX12) (T := TX12) (NF := 83) (by decide +kernel) rfl (by decide) inG_X12 (by decide) w_1252 lr_X12_14 (by decide)) <|
  fa1 (s_iload_n (kf := 1) (j := 1) (by decide +kernel) rfl) <|
  fa1 (s_aload_n (kf := 0) (j := 0) (by decide +kernel) rfl) <|
  fa1 (s_getI (ci := 12) (f := 15) (idx := 375) (C := RX12) (T := TX12) (NF := 83) (by decide +kernel) rfl (by decide) inG_X12 (by decide) w_1253 li_X12_15) <|
  fa1 (s_iast (by decide +kernel) lt_loR_20) <|
  fa1 (s_aload_n (kf := 0) (j := 0) (by decide +kernel) rfl) <|
  fa1 (s_dup (by decide +kernel)) <|
  fa1 (s_getI (ci := 12) (f := 15) (idx := 375) (C := RX12) (T := TX12) (NF := 83) (by decide +kernel) rfl (by decide) inG_X12 (by decide) w_1253 li_X12_15) <|
  fa1 (s_iconst (n := 1) (v := 1) (by decide +kernel) (by decide +kernel) (p32 rfl)) <|
  fa1 (s_iadd (by decide +kernel)) <|
  fa1 (s_putI (ci := 12) (f := 15) (idx := 375) (C := RX12) (T := TX12) (NF := 83) (by decide +kernel) rfl (by decide) inG_X12 (by decide) w_1253 tyX12 tyX12_ok nmX12 rfl (by decide +kernel) li_X12_15) <|
  fa1 (s_aload_n (kf := 0) (j := 0) (by decide +kernel) rfl) <|
  fa1 (s_getR (t2 := 20) (g := (fun _ => 12)) (ci := 12) (f := 13) (idx := 43) (C := RX12) (T := TX12) (NF := 83) (by decide +kernel) rfl (by decide) inG_X12 (by decide) w_1251 lr_X12_13 (by decide)) <|
  fa1 (s_iload_n (kf := 1) (j := 1) (by decide +kernel) rfl) <|
  fa1 (s_bipush (n := -4) (v := -4) (by decide +kernel) (by decide +kernel) (p32 rfl)) <|
  fa1 (s_iast (by decide +kernel) lt_loR_20) <|
  fa1 (s_aload_n (kf := 0) (j := 0) (by decide +kernel) rfl) <|
  fa1 (s_iload_n (kf := 1) (j := 1) (by decide +kernel) rfl) <|
  fa1 (s_iconst (n := 2) (v := 2) (by decide +kernel) (by decide +kernel) (p32 rfl)) <|
  fa1 (s_vcallV (n := 2) (ci := 12) (C := RX12) (T := TX12) (NF := 83) (idx := 378) (y := yX12_becomes) (by decide +kernel) (gg_X12_becomes) rfl (by decide) yv_X12_becomes (all5 w_1699 w_1701 w_75 w_113 w_1702) rfl rfl ⟨by decide, by decide⟩) <|
  fa1 (s_vret (by decide +kernel) rfl) <| fa0
theorem gg_X12_shows {G : Wp} {l : Launch} : GoodM loR G l yX12_shows cX12_shows 3 none rm_X12_shows f_X12_shows := met_of kt_X12_shows (lkp_snd (ks_X12_shows G l)) (by decide +kernel) rfl (by decide)
