noncomputable def k_X12_putsIn : List (Nat × Ins) := [
  (0, i_aload 1 0),
  (1, i_aload 2 0),
  (2, i_getR 5 12 20 (fun _ => 46)),
  (5, i_iload 6 1),
  (6, i_ald 7 20 lnR),
  (7, i_callI 10 2 (rcv 12) f_X12_wordBy),
  (10, i_istore 11 2),
  (11, i_iload 12 1),
  (12, i_push 13 (.inl 1)),
  (13, i_bin 14 (fun x y => wr (x + y))),
  (14, i_istore 15 3),
  (15, i_aload 16 0),
  (16, i_aload 17 0),
  (17, i_getR 20 12 20 (fun _ => 46)),
  (20, i_iload 21 3),
  (21, i_aload 22 0),
  (22, i_getI 25 12 74),
  (25, i_callI 28 4 (rcv 12) f_X12_endAt),
  (28, i_istore 30 4),
  (30, i_aload 31 0),
  (31, i_getR 34 12 20 (fun _ => 2)),
  (34, i_iload 35 2),
  (35, i_ald 36 20 lnR),
  (36, i_push 37 (.inl 2)),
  (37, i_cmpne 40 57),
  (40, i_aload 41 0),
  (41, i_aload 42 0),
  (42, i_getR 45 12 20 (fun _ => 46)),
  (45, i_iload 47 4),
  (47, i_aload 48 0),
  (48, i_getI 51 12 74),
  (51, i_callI 54 4 (rcv 12) f_X12_endAt),
  (54, i_goto 59),
  (57, i_iload 59 4),
  (59, i_istore 61 5),
  (61, i_aload 62 0),
  (62, i_push 63 (.inl 0)),
  (63, i_putI 66 12 76),
  (66, i_push 67 (.inl 0)),
  (67, i_istore 69 6),
  (69, i_iload 71 6),
  (71, i_iload 72 1),
  (72, i_cmpge 75 92),
  (75, i_aload 76 0),
  (76, i_aload 77 0),
  (77, i_getR 80 12 20 (fun _ => 46)),
  (80, i_iload 82 6),
  (82, i_ald 83 20 lnR),
  (83, i_callV 86 2 (rcv 12) f_X12_builds),
  (86, i_iinc 89 6 (1)),
  (89, i_goto 69),
  (92, i_push 93 (.inl 0)),
  (93, i_istore 95 6),
  (95, i_iload 97 6),
  (97, i_aload 98 0),
  (98, i_getR 101 12 20 (fun _ => 3)),
  (101, i_iload 102 2),
  (102, i_ald 103 20 lnR),
  (103, i_cmpge 106 197),
  (106, i_aload 107 0),
  (107, i_getR 110 12 20 (fun _ => 4)),
  (110, i_push 112 (.inl 20)),
  (112, i_iload 113 2),
  (113, i_bin 114 (fun x y => wr (x * y))),
  (114, i_iload 116 6),
  (116, i_bin 117 (fun x y => wr (x + y))),
  (117, i_ald 118 20 lnR),
  (118, i_istore 120 7),
  (120, i_iload 122 7),
  (122, i_push 124 (.inl 23)),
  (124, i_cmpge 127 133),
  (127, i_aload 128 0),
  (128, i_iload 130 7),
  (130, i_callV 133 2 (rcv 12) f_X12_builds),
  (133, i_iload 135 7),
  (135, i_push 137 (.inl 23)),
  (137, i_cmpne 140 144),
  (140, i_iload 141 3),
  (141, i_goto 146),
  (144, i_iload 146 4),
  (146, i_istore 148 8),
  (148, i_iload 150 7),
  (150, i_push 152 (.inl 23)),
  (152, i_cmplt 155 191),
  (155, i_iload 157 8),
  (157, i_iload 159 7),
  (159, i_push 161 (.inl 23)),
  (161, i_cmpne 164 169),
  (164, i_iload 166 4),
  (166, i_goto 171),
  (169, i_iload 171 5),
  (171, i_cmpge 174 191),
  (174, i_aload 175 0),
  (175, i_aload 176 0),
  (176, i_getR 179 12 20 (fun _ => 46)),
  (179, i_iload 181 8),
  (181, i_ald 182 20 lnR),
  (182, i_callV 185 2 (rcv 12) f_X12_builds),
  (185, i_iinc 188 8 (1)),
  (188, i_goto 148),
  (191, i_iinc 194 6 (1)),
  (194, i_goto 95),
  (197, i_iload 199 5),
  (199, i_istore 201 6),
  (201, i_iload 203 6),
  (203, i_aload 204 0),
  (204, i_getI 207 12 74),
  (207, i_cmpge 210 227),
  (210, i_aload 211 0),
  (211, i_aload 212 0),
  (212, i_getR 215 12 20 (fun _ => 46)),
  (215, i_iload 217 6),
  (217, i_ald 218 20 lnR),
  (218, i_callV 221 2 (rcv 12) f_X12_builds),
  (221, i_iinc 224 6 (1)),
  (224, i_goto 201),
  (227, i_aload 228 0),
  (228, i_aload 229 0),
  (229, i_getI 232 12 76),
  (232, i_putI 235 12 74),
  (235, i_push 236 (.inl 0)),
  (236, i_istore 238 6),
  (238, i_iload 240 6),
  (240, i_aload 241 0),
  (241, i_getI 244 12 76),
  (244, i_cmpge 247 275),
  (247, i_iload 249 6),
  (249, i_push 252 (.inl 200)),
  (252, i_cmpge 255 275),
  (255, i_aload 256 0),
  (256, i_getR 259 12 20 (fun _ => 46)),
  (259, i_iload 261 6),
  (261, i_aload 262 0),
  (262, i_getR 265 12 20 (fun _ => 47)),
  (265, i_iload 267 6),
  (267, i_ald 268 20 lnR),
  (268, i_ast 269 20 lnR id),
  (269, i_iinc 272 6 (1)),
  (272, i_goto 238),
  (275, i_vret)]
noncomputable def kc_X12_putsIn : Nat → Option Ins := lkp k_X12_putsIn
noncomputable def f_X12_putsIn : List AV → Mem → Option Rs := den 9 kc_X12_putsIn
abbrev rm_X12_putsIn : Room := { frames := 3, cells := 0, slots := 0, locals := 71 }
set_option maxRecDepth 100000 in
theorem kt_X12_putsIn : TriC kc_X12_putsIn := lkp_tri (fa1 (tri_aload 1 0) (fa1 (tri_aload 2 0) (fa1 (tri_getR 5 12 20 (fun _ => 46)) (fa1 (tri_iload 6 1) (fa1 (tri_ald 7 20 lnR) (fa1 (tri_callI 10 2 (rcv 12) f_X12_wordBy) (fa1 (tri_istore 11 2) (fa1 (tri_iload 12 1) (fa1 (tri_push 13 (.inl 1)) (fa1 (tri_bin 14 (fun x y => wr (x + y))) (fa1 (tri_istore 15 3) (fa1 (tri_aload 16 0) (fa1 (tri_aload 17 0) (fa1 (tri_getR 20 12 20 (fun _ => 46)) (fa1 (tri_iload 21 3) (fa1 (tri_aload 22 0) (fa1 (tri_getI 25 12 74) (fa1 (tri_callI 28 4 (rcv 12) f_X12_endAt) (fa1 (tri_istore 30 4) (fa1 (tri_aload 31 0) (fa1 (tri_getR 34 12 20 (fun _ => 2)) (fa1 (tri_iload 35 2) (fa1 (tri_ald 36 20 lnR) (fa1 (tri_push 37 (.inl 2)) (fa1 (tri_cmpne 40 57) (fa1 (tri_aload 41 0) (fa1 (tri_aload 42 0) (fa1 (tri_getR 45 12 20 (fun _ => 46)) (fa1 (tri_iload 47 4) (fa1 (tri_aload 48 0) (fa1 (tri_getI 51 12 74) (fa1 (tri_callI 54 4 (rcv 12) f_X12_endAt) (fa1 (tri_goto 59) (fa1 (tri_iload 59 4) (fa1 (tri_istore 61 5) (fa1 (tri_aload 62 0) (fa1 (tri_push 63 (.inl 0)) (fa1 (tri_putI 66 12 76) (fa1 (tri_push 67 (.inl 0)) (fa1 (tri_istore 69 6) (fa1 (tri_iload 71 6) (fa1 (tri_iload 72 1) (fa1 (tri_cmpge 75 92) (fa1 (tri_aload 76 0) (fa1 (tri_aload 77 0) (fa1 (tri_getR 80 12 20 (fun _ => 46)) (fa1 (tri_iload 82 6) (fa1 (tri_ald 83 20 lnR) (fa1 (tri_callV 86 2 (rcv 12) f_X12_builds) (fa1 (tri_iinc 89 6 (1)) (fa1 (tri_goto 69) (fa1 (tri_push 93 (.inl 0)) (fa1 (tri_istore 95 6) (fa1 (tri_iload 97 6) (fa1 (tri_aload 98 0) (fa1 (tri_getR 101 12 20 (fun _ => 3)) (fa1 (tri_iload 102 2) (fa1 (tri_ald 103 20 lnR) (fa1 (tri_cmpge 106 197) (fa1 (tri_aload 107 0) (fa1 (tri_getR 110 12 20 (fun _ => 4)) (fa1 (tri_push 112 (.inl 20)) (fa1 (tri_iload 113 2) (fa1 (tri_bin 114 (fun x y => wr (x * y))) (fa1 (tri_iload 116 6) (fa1 (tri_bin 117 (fun x y => wr (x + y))) (fa1 (tri_ald 118 20 lnR) (fa1 (tri_istore 120 7) (fa1 (tri_iload 122 7) (fa1 (tri_push 124 (.inl 23)) (fa1 (tri_cmpge 127 133) (fa1 (tri_aload 128 0) (fa1 (tri_iload 130 7) (fa1 (tri_callV 133 2 (rcv 12) f_X12_builds) (fa1 (tri_iload 135 7) (fa1 (tri_push 137 (.inl 23)) (fa1 (tri_cmpne 140 144) (fa1 (tri_iload 141 3) (fa1 (tri_goto 146) (fa1 (tri_iload 146 4) (fa1 (tri_istore 148 8) (fa1 (tri_iload 150 7) (fa1 (tri_push 152 (.inl 23)) (fa1 (tri_cmplt 155 191) (fa1 (tri_iload 157 8) (fa1 (tri_iload 159 7) (fa1 (tri_push 161 (.inl 23)) (fa1 (tri_cmpne 164 169) (fa1 (tri_iload 166 4) (fa1 (tri_goto 171) (fa1 (tri_iload 171 5) (fa1 (tri_cmpge 174 191) (fa1 (tri_aload 175 0) (fa1 (tri_aload 176 0) (fa1 (tri_getR 179 12 20 (fun _ => 46)) (fa1 (tri_iload 181 8) (fa1 (tri_ald 182 20 lnR) (fa1 (tri_callV 185 2 (rcv 12) f_X12_builds) (fa1 (tri_iinc 188 8 (1)) (fa1 (tri_goto 148) (fa1 (tri_iinc 194 6 (1)) (fa1 (tri_goto 95) (fa1 (tri_iload 199 5) (fa1 (tri_istore 201 6) (fa1 (tri_iload 203 6) (fa1 (tri_aload 204 0) (fa1 (tri_getI 207 12 74) (fa1 (tri_cmpge 210 227) (fa1 (tri_aload 211 0) (fa1 (tri_aload 212 0) (fa1 (tri_getR 215 12 20 (fun _ => 46)) (fa1 (tri_iload 217 6) (fa1 (tri_ald 218 20 lnR) (fa1 (tri_callV 221 2 (rcv 12) f_X12_builds) (fa1 (tri_iinc 224 6 (1)) (fa1 (tri_goto 201) (fa1 (tri_aload 228 0) (fa1 (tri_aload 229 0) (fa1 (tri_getI 232 12 76) (fa1 (tri_putI 235 12 74) (fa1 (tri_push 236 (.inl 0)) (fa1 (tri_istore 238 6) (fa1 (tri_iload 240 6) (fa1 (tri_aload 241 0) (fa1 (tri_getI 244 12 76) (fa1 (tri_cmpge 247 275) (fa1 (tri_iload 249 6) (fa1 (tri_push 252 (.inl 200)) (fa1 (tri_cmpge 255 275) (fa1 (tri_aload 256 0) (fa1 (tri_getR 259 12 20 (fun _ => 46)) (fa1 (tri_iload 261 6) (fa1 (tri_aload 262 0) (fa1 (tri_getR 265 12 20 (fun _ => 47)) (fa1 (tri_iload 267 6) (fa1 (tri_ald 268 20 lnR) (fa1 (tri_ast 269 20 lnR id) (fa1 (tri_iinc 272 6 (1)) (fa1 (tri_goto 238) (fa1 (tri_vret) (fa0)))))))))))))))))))))))))))))))))))))))))))))))))))))))))))))))))))))))))))))))))))))))))))))))))))))))))))))))))))))))))))))))))))))))))))))
set_option maxRecDepth 100000 in
set_option maxHeartbeats 4000000 in
theorem ks_X12_putsIn (G : Wp) (l : Launch) : ∀ e ∈ k_X12_putsIn, Snd loR G l RX12 cX12_putsIn 9 none rm_X12_putsIn e.1 e.2 :=
  fa1 (s_aload_n (kf := 0) (j := 0) (by decide +kernel) rfl) <|
  fa1 (s_aload_n (kf := 0) (j := 0) (by decide +kernel) rfl) <|
  fa1 (s_getR (t2 := 20) (g := (fun _ => 46)) (ci := 12) (f := 73) (idx := 150) (C := RX12) (T := TX12) (NF := 83) (by decide +kernel) rfl (by decide) inG_X12 (by decide) w_1311 lr_X12_73 (by decide)) <|
  fa1 (s_iload_n (kf := 1) (j := 1) (by decide +kernel) rfl) <|
  fa1 (s_iald (by decide +kernel)) <|
  fa1 (s_vcallI (n := 1) (ci := 12) (C := RX12) (T := TX12) (NF := 83) (idx := 177) (y := yX12_wordBy) (by decide +kernel) (gg_X12_wordBy) rfl (by decide) yv_X12_wordBy (all5 w_1530 w_1532 w_48 w_113 w_1533) rfl rfl ⟨by decide, by decide⟩) <|
  fa1 (s_istore_n (kf := 2) (j := 2) (by decide +kernel) rfl (by decide)) <|
  fa1 (s_iload_n (kf := 1) (j := 1) (by decide +kernel) rfl) <|
  fa1 (s_iconst (n := 1) (v := 1) (by decide +kernel) (by decide +kernel) (p32 rfl)) <|
  fa1 (s_iadd (by decide +kernel)) <|
  fa1 (s_istore_n (kf := 3) (j := 3) (by decide +kernel) rfl (by decide)) <|
  fa1 (s_aload_n (kf := 0) (j := 0) (by decide +kernel) rfl) <|
  fa1 (s_aload_n (kf := 0) (j := 0) (by decide +kernel) rfl) <|
  fa1 (s_getR (t2 := 20) (g := (fun _ => 46)) (ci := 12) (f := 73) (idx := 150) (C := RX12) (T := TX12) (NF := 83) (by decide +kernel) rfl (by decide) inG_X12 (by decide) w_1311 lr_X12_73 (by decide)) <|
  fa1 (s_iload_n (kf := 3) (j := 3) (by decide +kernel) rfl) <|
  fa1 (s_aload_n (kf := 0) (j := 0) (by decide +kernel) rfl) <|
  fa1 (s_getI (ci := 12) (f := 74) (idx := 453) (C := RX12) (T := TX12) (NF := 83) (by decide +kernel) rfl (by decide) inG_X12 (by decide) w_1312 li_X12_74) <|
  fa1 (s_vcallI (n := 3) (ci := 12) (C := RX12) (T := TX12) (NF := 83) (idx := 238) (y := yX12_endAt) (by decide +kernel) (gg_X12_endAt) rfl (by decide) yv_X12_endAt (all5 w_1539 w_1541 w_50 w_113 w_1542) rfl rfl ⟨by decide, by decide⟩) <|
  fa1 (s_istore (j := 4) (by decide +kernel) (by decide)) <|
  fa1 (s_aload_n (kf := 0) (j := 0) (by decide +kernel) rfl) <|
  fa1 (s_getR (t2 := 20) (g := (fun _ => 2)) (ci := 12) (f := 2) (idx := 13) (C := RX12) (T := TX12) (NF := 83) (by decide +kernel) rfl (by decide) inG_X12 (by decide) w_1240 lr_X12_2 (by decide)) <|
  fa1 (s_iload_n (kf := 2) (j := 2) (by decide +kernel) rfl) <|
  fa1 (s_iald (by decide +kernel)) <|
  fa1 (s_iconst (n := 2) (v := 2) (by decide +kernel) (by decide +kernel) (p32 rfl)) <|
  fa1 (s_cmpne (off := 20) (by decide +kernel) (by decide)) <|
  fa1 (s_aload_n (kf := 0) (j := 0) (by decide +kernel) rfl) <|
  fa1 (s_aload_n (kf := 0) (j := 0) (by decide +kernel) rfl) <|
  fa1 (s_getR (t2 := 20) (g := (fun _ => 46)) (ci := 12) (f := 73) (idx := 150) (C := RX12) (T := TX12) (NF := 83) (by decide +kernel) rfl (by decide) inG_X12 (by decide) w_1311 lr_X12_73 (by decide)) <|
  fa1 (s_iload (j := 4) (by decide +kernel)) <|
  fa1 (s_aload_n (kf := 0) (j := 0) (by decide +kernel) rfl) <|
  fa1 (s_getI (ci := 12) (f := 74) (idx := 453) (C := RX12) (T := TX12) (NF := 83) (by decide +kernel) rfl (by decide) inG_X12 (by decide) w_1312 li_X12_74) <|
  fa1 (s_vcallI (n := 3) (ci := 12) (C := RX12) (T := TX12) (NF := 83) (idx := 238) (y := yX12_endAt) (by decide +kernel) (gg_X12_endAt) rfl (by decide) yv_X12_endAt (all5 w_1539 w_1541 w_50 w_113 w_1542) rfl rfl ⟨by decide, by decide⟩) <|
  fa1 (s_goto (off := 5) (by decide +kernel) (by decide)) <|
  fa1 (s_iload (j := 4) (by decide +kernel)) <|
  fa1 (s_istore (j := 5) (by decide +kernel) (by decide)) <|
  fa1 (s_aload_n (kf := 0) (j := 0) (by decide +kernel) rfl) <|
  fa1 (s_iconst (n := 0) (v := 0) (by decide +kernel) (by decide +kernel) (p32 rfl)) <|
  fa1 (s_putI (ci := 12) (f := 76) (idx := 450) (C := RX12) (T := TX12) (NF := 83) (by decide +kernel) rfl (by decide) inG_X12 (by decide) w_1314 tyX12 tyX12_ok nmX12 rfl (by decide +kernel) li_X12_76) <|
  fa1 (s_iconst (n := 0) (v := 0) (by decide +kernel) (by decide +kernel) (p32 rfl)) <|
  fa1 (s_istore (j := 6) (by decide +kernel) (by decide)) <|
  fa1 (s_iload (j := 6) (by decide +kernel)) <|
  fa1 (s_iload_n (kf := 1) (j := 1) (by decide +kernel) rfl) <|
  fa1 (s_cmpge (off := 20) (by decide +kernel) (by decide)) <|
  fa1 (s_aload_n (kf := 0) (j := 0) (by decide +kernel) rfl) <|
  fa1 (s_aload_n (kf := 0) (j := 0) (by decide +kernel) rfl) <|
  fa1 (s_getR (t2 := 20) (g := (fun _ => 46)) (ci := 12) (f := 73) (idx := 150) (C := RX12) (T := TX12) (NF := 83) (by decide +kernel) rfl (by decide) inG_X12 (by decide) w_1311 lr_X12_73 (by decide)) <|
  fa1 (s_iload (j := 6) (by decide +kernel)) <|
  fa1 (s_iald (by decide +kernel)) <|
  fa1 (s_vcallV (n := 1) (ci := 12) (C := RX12) (T := TX12) (NF := 83) (idx := 456) (y := yX12_builds) (by decide +kernel) (gg_X12_builds) rfl (by decide) yv_X12_builds (all5 w_1811 w_1813 w_93 w_113 w_1814) rfl rfl ⟨by decide, by decide⟩) <|
  fa1 (s_iinc (j := 6) (d := 1) (by decide +kernel) (by decide)) <|
  fa1 (s_goto (off := -20) (by decide +kernel) (by decide)) <|
  fa1 (s_iconst (n := 0) (v := 0) (by decide +kernel) (by decide +kernel) (p32 rfl)) <|
  fa1 (s_istore (j := 6) (by decide +kernel) (by decide)) <|
  fa1 (s_iload (j := 6) (by decide +kernel)) <|
  fa1 (s_aload_n (kf := 0) (j := 0) (by decide +kernel) rfl) <|
  fa1 (s_getR (t2 := 20) (g := (fun _ => 3)) (ci := 12) (f := 3) (idx := 16) (C := RX12) (T := TX12) (NF := 83) (by decide +kernel) rfl (by decide) inG_X12 (by decide) w_1241 lr_X12_3 (by decide)) <|
  fa1 (s_iload_n (kf := 2) (j := 2) (by decide +kernel) rfl) <|
  fa1 (s_iald (by decide +kernel)) <|
  fa1 (s_cmpge (off := 94) (by decide +kernel) (by decide)) <|
  fa1 (s_aload_n (kf := 0) (j := 0) (by decide +kernel) rfl) <|
  fa1 (s_getR (t2 := 20) (g := (fun _ => 4)) (ci := 12) (f := 4) (idx := 19) (C := RX12) (T := TX12) (NF := 83) (by decide +kernel) rfl (by decide) inG_X12 (by decide) w_1242 lr_X12_4 (by decide)) <|
  fa1 (s_bipush (n := 20) (v := 20) (by decide +kernel) (by decide +kernel) (p32 rfl)) <|
  fa1 (s_iload_n (kf := 2) (j := 2) (by decide +kernel) rfl) <|
  fa1 (s_imul (by decide +kernel)) <|
  fa1 (s_iload (j := 6) (by decide +kernel)) <|
  fa1 (s_iadd (by decide +kernel)) <|
  fa1 (s_iald (by decide +kernel)) <|
  fa1 (s_istore (j := 7) (by decide +kernel) (by decide)) <|
  fa1 (s_iload (j := 7) (by decide +kernel)) <|
  fa1 (s_bipush (n := 23) (v := 23) (by decide +kernel) (by decide +kernel) (p32 rfl)) <|
  fa1 (s_cmpge (off := 9) (by decide +kernel) (by decide)) <|
  fa1 (s_aload_n (kf := 0) (j := 0) (by decide +kernel) rfl) <|
  fa1 (s_iload (j := 7) (by decide +kernel)) <|
  fa1 (s_vcallV (n := 1) (ci := 12) (C := RX12) (T := TX12) (NF := 83) (idx := 456) (y := yX12_builds) (by decide +kernel) (gg_X12_builds) rfl (by decide) yv_X12_builds (all5 w_1811 w_1813 w_93 w_113 w_1814) rfl rfl ⟨by decide, by decide⟩) <|
  fa1 (s_iload (j := 7) (by decide +kernel)) <|
  fa1 (s_bipush (n := 23) (v := 23) (by decide +kernel) (by decide +kernel) (p32 rfl)) <|
  fa1 (s_cmpne (off := 7) (by decide +kernel) (by decide)) <|
  fa1 (s_iload_n (kf := 3) (j := 3) (by decide +kernel) rfl) <|
  fa1 (s_goto (off := 5) (by decide +kernel) (by decide)) <|
  fa1 (s_iload (j := 4) (by decide +kernel)) <|
  fa1 (s_istore (j := 8) (by decide +kernel) (by decide)) <|
  fa1 (s_iload (j := 7) (by decide +kernel)) <|
  fa1 (s_bipush (n := 23) (v := 23) (by decide +kernel) (by decide +kernel) (p32 rfl)) <|
  fa1 (s_cmplt (off := 39) (by decide +kernel) (by decide)) <|
  fa1 (s_iload (j := 8) (by decide +kernel)) <|
  fa1 (s_iload (j := 7) (by decide +kernel)) <|
  fa1 (s_bipush (n := 23) (v := 23) (by decide +kernel) (by decide +kernel) (p32 rfl)) <|
  fa1 (s_cmpne (off := 8) (by decide +kernel) (by decide)) <|
  fa1 (s_iload (j := 4) (by decide +kernel)) <|
  fa1 (s_goto (off := 5) (by decide +kernel) (by decide)) <|
  fa1 (s_iload (j := 5) (by decide +kernel)) <|
  fa1 (s_cmpge (off := 20) (by decide +kernel) (by decide)) <|
  fa1 (s_aload_n (kf := 0) (j := 0) (by decide +kernel) rfl) <|
  fa1 (s_aload_n (kf := 0) (j := 0) (by decide +kernel) rfl) <|
  fa1 (s_getR (t2 := 20) (g := (fun _ => 46)) (ci := 12) (f := 73) (idx := 150) (C := RX12) (T := TX12) (NF := 83) (by decide +kernel) rfl (by decide) inG_X12 (by decide) w_1311 lr_X12_73 (by decide)) <|
  fa1 (s_iload (j := 8) (by decide +kernel)) <|
  fa1 (s_iald (by decide +kernel)) <|
  fa1 (s_vcallV (n := 1) (ci := 12) (C := RX12) (T := TX12) (NF := 83) (idx := 456) (y := yX12_builds) (by decide +kernel) (gg_X12_builds) rfl (by decide) yv_X12_builds (all5 w_1811 w_1813 w_93 w_113 w_1814) rfl rfl ⟨by decide, by decide⟩) <|
  fa1 (s_iinc (j := 8) (d := 1) (by decide +kernel) (by decide)) <|
  fa1 (s_goto (off := -40) (by decide +kernel) (by decide)) <|
  fa1 (s_iinc (j := 6) (d := 1) (by decide +kernel) (by decide)) <|
  fa1 (s_goto (off := -99) (by decide +kernel) (by decide)) <|
  fa1 (s_iload (j := 5) (by decide +kernel)) <|
  fa1 (s_istore (j := 6) (by decide +kernel) (by decide)) <|
  fa1 (s_iload (j := 6) (by decide +kernel)) <|
  fa1 (s_aload_n (kf := 0) (j := 0) (by decide +kernel) rfl) <|
  fa1 (s_getI (ci := 12) (f := 74) (idx := 453) (C := RX12) (T := TX12) (NF := 83) (by decide +kernel) rfl (by decide) inG_X12 (by decide) w_1312 li_X12_74) <|
  fa1 (s_cmpge (off := 20) (by decide +kernel) (by decide)) <|
  fa1 (s_aload_n (kf := 0) (j := 0) (by decide +kernel) rfl) <|
  fa1 (s_aload_n (kf := 0) (j := 0) (by decide +kernel) rfl) <|
  fa1 (s_getR (t2 := 20) (g := (fun _ => 46)) (ci := 12) (f := 73) (idx := 150) (C := RX12) (T := TX12) (NF := 83) (by decide +kernel) rfl (by decide) inG_X12 (by decide) w_1311 lr_X12_73 (by decide)) <|
  fa1 (s_iload (j := 6) (by decide +kernel)) <|
  fa1 (s_iald (by decide +kernel)) <|
  fa1 (s_vcallV (n := 1) (ci := 12) (C := RX12) (T := TX12) (NF := 83) (idx := 456) (y := yX12_builds) (by decide +kernel) (gg_X12_builds) rfl (by decide) yv_X12_builds (all5 w_1811 w_1813 w_93 w_113 w_1814) rfl rfl ⟨by decide, by decide⟩) <|
  fa1 (s_iinc (j := 6) (d := 1) (by decide +kernel) (by decide)) <|
  fa1 (s_goto (off := -23) (by decide +kernel) (by decide)) <|
  fa1 (s_aload_n (kf := 0) (j := 0) (by decide +kernel) rfl) <|
  fa1 (s_aload_n (kf := 0) (j := 0) (by decide +kernel) rfl) <|
  fa1 (s_getI (ci := 12) (f := 76) (idx := 450) (C := RX12) (T := TX12) (NF := 83) (by decide +kernel) rfl (by decide) inG_X12 (by decide) w_1314 li_X12_76) <|
  fa1 (s_putI (ci := 12) (f := 74) (idx := 453) (C := RX12) (T := TX12) (NF := 83) (by decide +kernel) rfl (by decide) inG_X12 (by decide) w_1312 tyX12 tyX12_ok nmX12 rfl (by decide +kernel) li_X12_74) <|
  fa1 (s_iconst (n := 0) (v := 0) (by decide +kernel) (by decide +kernel) (p32 rfl)) <|
  fa1 (s_istore (j := 6) (by decide +kernel) (by decide)) <|
  fa1 (s_iload (j := 6) (by decide +kernel)) <|
  fa1 (s_aload_n (kf := 0) (j := 0) (by decide +kernel) rfl) <|
  fa1 (s_getI (ci := 12) (f := 76) (idx := 450) (C := RX12) (T := TX12) (NF := 83) (by decide +kernel) rfl (by decide) inG_X12 (by decide) w_1314 li_X12_76) <|
  fa1 (s_cmpge (off := 31) (by decide +kernel) (by decide)) <|
  fa1 (s_iload (j := 6) (by decide +kernel)) <|
  fa1 (s_sipush (n := 200) (v := 200) (by decide +kernel) (by decide +kernel) (p32 rfl)) <|
  fa1 (s_cmpge (off := 23) (by decide +kernel) (by decide)) <|
  fa1 (s_aload_n (kf := 0) (j := 0) (by decide +kernel) rfl) <|
  fa1 (s_getR (t2 := 20) (g := (fun _ => 46)) (ci := 12) (f := 73) (idx := 150) (C := RX12) (T := TX12) (NF := 83) (by decide +kernel) rfl (by decide) inG_X12 (by decide) w_1311 lr_X12_73 (by decide)) <|
  fa1 (s_iload (j := 6) (by decide +kernel)) <|
  fa1 (s_aload_n (kf := 0) (j := 0) (by decide +kernel) rfl) <|
  fa1 (s_getR (t2 := 20) (g := (fun _ => 47)) (ci := 12) (f := 75) (idx := 153) (C := RX12) (T := TX12) (NF := 83) (by decide +kernel) rfl (by decide) inG_X12 (by decide) w_1313 lr_X12_75 (by decide)) <|
  fa1 (s_iload (j := 6) (by decide +kernel)) <|
  fa1 (s_iald (by decide +kernel)) <|
  fa1 (s_iast (by decide +kernel) lt_loR_20) <|
  fa1 (s_iinc (j := 6) (d := 1) (by decide +kernel) (by decide)) <|
  fa1 (s_goto (off := -34) (by decide +kernel) (by decide)) <|
  fa1 (s_vret (by decide +kernel) rfl) <| fa0
theorem gg_X12_putsIn {G : Wp} {l : Launch} : GoodM loR G l yX12_putsIn cX12_putsIn 9 none rm_X12_putsIn f_X12_putsIn := met_of kt_X12_putsIn (lkp_snd (ks_X12_putsIn G l)) (by decide +kernel) rfl (by decide)
noncomputable def k_X12_widens : List (Nat × Ins) := [
  (0, i_aload 1 0),
  (1, i_aload 2 0),
  (2, i_getR 5 12 20 (fun _ => 6)),
  (5, i_push 6 (.inl 2)),
  (6, i_iload 7 2),
  (7, i_bin 8 (fun x y => wr (x * y))),
  (8, i_iload 9 3),
  (9, i_bin 10 (fun x y => wr (x + y))),
  (10, i_ald 11 20 lnR),
  (11, i_putI 14 12 74),
  (14, i_push 15 (.inl 0)),
  (15, i_istore 17 5),
  (17, i_iload 19 5),
  (19, i_aload 20 0),
  (20, i_getI 23 12 74),
  (23, i_cmpge 26 56),
  (26, i_aload 27 0),
  (27, i_getR 30 12 20 (fun _ => 46)),
  (30, i_iload 32 5),
  (32, i_aload 33 0),
  (33, i_getR 36 12 20 (fun _ => 5)),
  (36, i_push 38 (.inl 40)),
  (38, i_iload 39 2),
  (39, i_bin 40 (fun x y => wr (x * y))),
  (40, i_push 42 (.inl 20)),
  (42, i_iload 43 3),
  (43, i_bin 44 (fun x y => wr (x * y))),
  (44, i_bin 45 (fun x y => wr (x + y))),
  (45, i_iload 47 5),
  (47, i_bin 48 (fun x y => wr (x + y))),
  (48, i_ald 49 20 lnR),
  (49, i_ast 50 20 lnR id),
  (50, i_iinc 53 5 (1)),
  (53, i_goto 17),
  (56, i_iload 58 4),
  (58, i_ifeq 61 68),
  (61, i_aload 62 0),
  (62, i_callI 65 1 (rcv 12) f_X12_firstWord),
  (65, i_goto 72),
  (68, i_aload 69 0),
  (69, i_getI 72 12 74),
  (72, i_istore 74 5),
  (74, i_push 75 (.inl 0)),
  (75, i_istore 77 6),
  (77, i_iload 79 6),
  (79, i_push 82 (.inl 400)),
  (82, i_cmpge 85 129),
  (85, i_iload 87 5),
  (87, i_aload 88 0),
  (88, i_getI 91 12 74),
  (91, i_cmpge 94 129),
  (94, i_aload 95 0),
  (95, i_iload 97 5),
  (97, i_callV 100 2 (rcv 12) f_X12_putsIn),
  (100, i_aload 101 0),
  (101, i_getI 104 12 74),
  (104, i_push 107 (.inl 200)),
  (107, i_cmple 110 117),
  (110, i_aload 111 0),
  (111, i_getI 114 12 74),
  (114, i_goto 121),
  (117, i_aload 118 0),
  (118, i_callI 121 1 (rcv 12) f_X12_firstWord),
  (121, i_istore 123 5),
  (123, i_iinc 126 6 (1)),
  (126, i_goto 77),
  (129, i_aload 130 0),
  (130, i_getR 133 12 20 (fun _ => 45)),
  (133, i_iload 134 1),
  (134, i_iload 136 5),
  (136, i_aload 137 0),
  (137, i_getI 140 12 74),
  (140, i_cmpge 143 149),
  (143, i_push 146 (.inl 201)),
  (146, i_goto 153),
  (149, i_aload 150 0),
  (150, i_getI 153 12 74),
  (153, i_ast 154 20 lnR id),
  (154, i_push 155 (.inl 0)),
  (155, i_istore 157 6),
  (157, i_iload 159 6),
  (159, i_aload 160 0),
  (160, i_getI 163 12 74),
  (163, i_cmpge 166 200),
  (166, i_iload 168 6),
  (168, i_push 171 (.inl 200)),
  (171, i_cmpge 174 200),
  (174, i_aload 175 0),
  (175, i_getR 178 12 20 (fun _ => 44)),
  (178, i_push 181 (.inl 200)),
  (181, i_iload 182 1),
  (182, i_bin 183 (fun x y => wr (x * y))),
  (183, i_iload 185 6),
  (185, i_bin 186 (fun x y => wr (x + y))),
  (186, i_aload 187 0),
  (187, i_getR 190 12 20 (fun _ => 46)),
  (190, i_iload 192 6),
  (192, i_ald 193 20 lnR),
  (193, i_ast 194 20 lnR id),
  (194, i_iinc 197 6 (1)),
  (197, i_goto 157),
  (200, i_vret)]
noncomputable def kc_X12_widens : Nat → Option Ins := lkp k_X12_widens
noncomputable def f_X12_widens : List AV → Mem → Option Rs := den 7 kc_X12_widens
abbrev rm_X12_widens : Room := { frames := 4, cells := 0, slots := 0, locals := 99 }
set_option maxRecDepth 100000 in
theorem kt_X12_widens : TriC kc_X12_widens := lkp_tri (fa1 (tri_aload 1 0) (fa1 (tri_aload 2 0) (fa1 (tri_getR 5 12 20 (fun _ => 6)) (fa1 (tri_push 6 (.inl 2)) (fa1 (tri_iload 7 2) (fa1 (tri_bin 8 (fun x y => wr (x * y))) (fa1 (tri_iload 9 3) (fa1 (tri_bin 10 (fun x y => wr (x + y))) (fa1 (tri_ald 11 20 lnR) (fa1 (tri_putI 14 12 74) (fa1 (tri_push 15 (.inl 0)) (fa1 (tri_istore 17 5) (fa1 (tri_iload 19 5) (fa1 (tri_aload 20 0) (fa1 (tri_getI 23 12 74) (fa1 (tri_cmpge 26 56) (fa1 (tri_aload 27 0) (fa1 (tri_getR 30 12 20 (fun _ => 46)) (fa1 (tri_iload 32 5) (fa1 (tri_aload 33 0) (fa1 (tri_getR 36 12 20 (fun _ => 5)) (fa1 (tri_push 38 (.inl 40)) (fa1 (tri_iload 39 2) (fa1 (tri_bin 40 (fun x y => wr (x * y))) (fa1 (tri_push 42 (.inl 20)) (fa1 (tri_iload 43 3) (fa1 (tri_bin 44 (fun x y => wr (x * y))) (fa1 (tri_bin 45 (fun x y => wr (x + y))) (fa1 (tri_iload 47 5) (fa1 (tri_bin 48 (fun x y => wr (x + y))) (fa1 (tri_ald 49 20 lnR) (fa1 (tri_ast 50 20 lnR id) (fa1 (tri_iinc 53 5 (1)) (fa1 (tri_goto 17) (fa1 (tri_iload 58 4) (fa1 (tri_ifeq 61 68) (fa1 (tri_aload 62 0) (fa1 (tri_callI 65 1 (rcv 12) f_X12_firstWord) (fa1 (tri_goto 72) (fa1 (tri_aload 69 0) (fa1 (tri_getI 72 12 74) (fa1 (tri_istore 74 5) (fa1 (tri_push 75 (.inl 0)) (fa1 (tri_istore 77 6) (fa1 (tri_iload 79 6) (fa1 (tri_push 82 (.inl 400)) (fa1 (tri_cmpge 85 129) (fa1 (tri_iload 87 5) (fa1 (tri_aload 88 0) (fa1 (tri_getI 91 12 74) (fa1 (tri_cmpge 94 129) (fa1 (tri_aload 95 0) (fa1 (tri_iload 97 5) (fa1 (tri_callV 100 2 (rcv 12) f_X12_putsIn) (fa1 (tri_aload 101 0) (fa1 (tri_getI 104 12 74) (fa1 (tri_push 107 (.inl 200)) (fa1 (tri_cmple 110 117) (fa1 (tri_aload 111 0) (fa1 (tri_getI 114 12 74) (fa1 (tri_goto 121) (fa1 (tri_aload 118 0) (fa1 (tri_callI 121 1 (rcv 12) f_X12_firstWord) (fa1 (tri_istore 123 5) (fa1 (tri_iinc 126 6 (1)) (fa1 (tri_goto 77) (fa1 (tri_aload 130 0) (fa1 (tri_getR 133 12 20 (fun _ => 45)) (fa1 (tri_iload 134 1) (fa1 (tri_iload 136 5) (fa1 (tri_aload 137 0) (fa1 (tri_getI 140 12 74) (fa1 (tri_cmpge 143 149) (fa1 (tri_push 146 (.inl 201)) (fa1 (tri_goto 153) (fa1 (tri_aload 150 0) (fa1 (tri_getI 153 12 74) (fa1 (tri_ast 154 20 lnR id) (fa1 (tri_push 155 (.inl 0)) (fa1 (tri_istore 157 6) (fa1 (tri_iload 159 6) (fa1 (tri_aload 160 0) (fa1 (tri_getI 163 12 74) (fa1 (tri_cmpge 166 200) (fa1 (tri_iload 168 6) (fa1 (tri_push 171 (.inl 200)) (fa1 (tri_cmpge 174 200) (fa1 (tri_aload 175 0) (fa1 (tri_getR 178 12 20 (fun _ => 44)) (fa1 (tri_push 181 (.inl 200)) (fa1 (tri_iload 182 1) (fa1 (tri_bin 183 (fun x y => wr (x * y))) (fa1 (tri_iload 185 6) (fa1 (tri_bin 186 (fun x y => wr (x + y))) (fa1 (tri_aload 187 0) (fa1 (tri_getR 190 12 20 (fun _ => 46)) (fa1 (tri_iload 192 6) (fa1 (tri_ald 193 20 lnR) (fa1 (tri_ast 194 20 lnR id) (fa1 (tri_iinc 197 6 (1)) (fa1 (tri_goto 157) (fa1 (tri_vret) (fa0)))))))))))))))))))))))))))))))))))))))))))))))))))))))))))))))))))))))))))))))))))))))))))))))))))))))
set_option maxRecDepth 100000 in
set_option maxHeartbeats 4000000 in
theorem ks_X12_widens (G : Wp) (l : Launch) : ∀ e ∈ k_X12_widens, Snd loR G l RX12 cX12_widens 7 none rm_X12_widens e.1 e.2 :=
  fa1 (s_aload_n (kf := 0) (j := 0) (by decide +kernel) rfl) <|
  fa1 (s_aload_n (kf := 0) (j := 0) (by decide +kernel) rfl) <|
  fa1 (s_getR (t2 := 20) (g := (fun _ => 6)) (ci := 12) (f := 7) (idx := 25) (C := RX12) (T := TX12) (NF := 83) (by decide +kernel) rfl (by decide) inG_X12 (by decide) w_1245 lr_X12_7 (by decide)) <|
  fa1 (s_iconst (n := 2) (v := 2) (by decide +kernel) (by decide +kernel) (p32 rfl)) <|
  fa1 (s_iload_n (kf := 2) (j := 2) (by decide +kernel) rfl) <|
  fa1 (s_imul (by decide +kernel)) <|
  fa1 (s_iload_n (kf := 3) (j := 3) (by decide +kernel) rfl) <|
  fa1 (s_iadd (by decide +kernel)) <|
  fa1 (s_iald (by decide +kernel)) <|
  fa1 (s_putI (ci := 12) (f := 74) (idx := 453) (C := RX12) (T := TX12) (NF := 83) (by decide +kernel) rfl (by decide) inG_X12 (by decide) w_1312 tyX12 tyX12_ok nmX12 rfl (by decide +kernel) li_X12_74) <|
  fa1 (s_iconst (n := 0) (v := 0) (by decide +kernel) (by decide +kernel) (p32 rfl)) <|
  fa1 (s_istore (j := 5) (by decide +kernel) (by decide)) <|
  fa1 (s_iload (j := 5) (by decide +kernel)) <|
  fa1 (s_aload_n (kf := 0) (j := 0) (by decide +kernel) rfl) <|
  fa1 (s_getI (ci := 12) (f := 74) (idx := 453) (C := RX12) (T := TX12) (NF := 83) (by decide +kernel) rfl (by decide) inG_X12 (by decide) w_1312 li_X12_74) <|
  fa1 (s_cmpge (off := 33) (by decide +kernel) (by decide)) <|
  fa1 (s_aload_n (kf := 0) (j := 0) (by decide +kernel) rfl) <|
  fa1 (s_getR (t2 := 20) (g := (fun _ => 46)) (ci := 12) (f := 73) (idx := 150) (C := RX12) (T := TX12) (NF := 83) (by decide +kernel) rfl (by decide) inG_X12 (by decide) w_1311 lr_X12_73 (by decide)) <|
  fa1 (s_iload (j := 5) (by decide +kernel)) <|
  fa1 (s_aload_n (kf := 0) (j := 0) (by decide +kernel) rfl) <|
  fa1 (s_getR (t2 := 20) (g := (fun _ => 5)) (ci := 12) (f := 6) (idx := 22) (C := RX12) (T := TX12) (NF := 83) (by decide +kernel) rfl (by decide) inG_X12 (by decide) w_1244 lr_X12_6 (by decide)) <|
  fa1 (s_bipush (n := 40) (v := 40) (by decide +kernel) (by decide +kernel) (p32 rfl)) <|
  fa1 (s_iload_n (kf := 2) (j := 2) (by decide +kernel) rfl) <|
  fa1 (s_imul (by decide +kernel)) <|
  fa1 (s_bipush (n := 20) (v := 20) (by decide +kernel) (by decide +kernel) (p32 rfl)) <|
  fa1 (s_iload_n (kf := 3) (j := 3) (by decide +kernel) rfl) <|
  fa1 (s_imul (by decide +kernel)) <|
  fa1 (s_iadd (by decide +kernel)) <|
  fa1 (s_iload (j := 5) (by decide +kernel)) <|
  fa1 (s_iadd (by decide +kernel)) <|
  fa1 (s_iald (by decide +kernel)) <|
  fa1 (s_iast (by decide +kernel) lt_loR_20) <|
  fa1 (s_iinc (j := 5) (d := 1) (by decide +kernel) (by decide)) <|
  fa1 (s_goto (off := -36) (by decide +kernel) (by decide)) <|
  fa1 (s_iload (j := 4) (by decide +kernel)) <|
  fa1 (s_ifeq (off := 10) (by decide +kernel) (by decide)) <|
  fa1 (s_aload_n (kf := 0) (j := 0) (by decide +kernel) rfl) <|
  fa1 (s_vcallI (n := 0) (ci := 12) (C := RX12) (T := TX12) (NF := 83) (idx := 459) (y := yX12_firstWord) (by decide +kernel) (gg_X12_firstWord) rfl (by decide) yv_X12_firstWord (all5 w_1803 w_1805 w_91 w_113 w_1806) rfl rfl ⟨by decide, by decide⟩) <|
  fa1 (s_goto (off := 7) (by decide +kernel) (by decide)) <|
  fa1 (s_aload_n (kf := 0) (j := 0) (by decide +kernel) rfl) <|
  fa1 (s_getI (ci := 12) (f := 74) (idx := 453) (C := RX12) (T := TX12) (NF := 83) (by decide +kernel) rfl (by decide) inG_X12 (by decide) w_1312 li_X12_74) <|
  fa1 (s_istore (j := 5) (by decide +kernel) (by decide)) <|
  fa1 (s_iconst (n := 0) (v := 0) (by decide +kernel) (by decide +kernel) (p32 rfl)) <|
  fa1 (s_istore (j := 6) (by decide +kernel) (by decide)) <|
  fa1 (s_iload (j := 6) (by decide +kernel)) <|
  fa1 (s_sipush (n := 400) (v := 400) (by decide +kernel) (by decide +kernel) (p32 rfl)) <|
  fa1 (s_cmpge (off := 47) (by decide +kernel) (by decide)) <|
  fa1 (s_iload (j := 5) (by decide +kernel)) <|
  fa1 (s_aload_n (kf := 0) (j := 0) (by decide +kernel) rfl) <|
  fa1 (s_getI (ci := 12) (f := 74) (idx := 453) (C := RX12) (T := TX12) (NF := 83) (by decide +kernel) rfl (by decide) inG_X12 (by decide) w_1312 li_X12_74) <|
  fa1 (s_cmpge (off := 38) (by decide +kernel) (by decide)) <|
  fa1 (s_aload_n (kf := 0) (j := 0) (by decide +kernel) rfl) <|
  fa1 (s_iload (j := 5) (by decide +kernel)) <|
  fa1 (s_vcallV (n := 1) (ci := 12) (C := RX12) (T := TX12) (NF := 83) (idx := 463) (y := yX12_putsIn) (by decide +kernel) (gg_X12_putsIn) rfl (by decide) yv_X12_putsIn (all5 w_1807 w_1809 w_92 w_113 w_1810) rfl rfl ⟨by decide, by decide⟩) <|
  fa1 (s_aload_n (kf := 0) (j := 0) (by decide +kernel) rfl) <|
  fa1 (s_getI (ci := 12) (f := 74) (idx := 453) (C := RX12) (T := TX12) (NF := 83) (by decide +kernel) rfl (by decide) inG_X12 (by decide) w_1312 li_X12_74) <|
  fa1 (s_sipush (n := 200) (v := 200) (by decide +kernel) (by decide +kernel) (p32 rfl)) <|
  fa1 (s_cmple (off := 10) (by decide +kernel) (by decide)) <|
  fa1 (s_aload_n (kf := 0) (j := 0) (by decide +kernel) rfl) <|
  fa1 (s_getI (ci := 12) (f := 74) (idx := 453) (C := RX12) (T := TX12) (NF := 83) (by decide +kernel) rfl (by decide) inG_X12 (by decide) w_1312 li_X12_74) <|
  fa1 (s_goto (off := 7) (by decide +kernel) (by decide)) <|
  fa1 (s_aload_n (kf := 0) (j := 0) (by decide +kernel) rfl) <|
  fa1 (s_vcallI (n := 0) (ci := 12) (C := RX12) (T := TX12) (NF := 83) (idx := 459) (y := yX12_firstWord) (by decide +kernel) (gg_X12_firstWord) rfl (by decide) yv_X12_firstWord (all5 w_1803 w_1805 w_91 w_113 w_1806) rfl rfl ⟨by decide, by decide⟩) <|
  fa1 (s_istore (j := 5) (by decide +kernel) (by decide)) <|
  fa1 (s_iinc (j := 6) (d := 1) (by decide +kernel) (by decide)) <|
  fa1 (s_goto (off := -49) (by decide +kernel) (by decide)) <|
  fa1 (s_aload_n (kf := 0) (j := 0) (by decide +kernel) rfl) <|
  fa1 (s_getR (t2 := 20) (g := (fun _ => 45)) (ci := 12) (f := 72) (idx := 147) (C := RX12) (T := TX12) (NF := 83) (by decide +kernel) rfl (by decide) inG_X12 (by decide) w_1310 lr_X12_72 (by decide)) <|
  fa1 (s_iload_n (kf := 1) (j := 1) (by decide +kernel) rfl) <|
  fa1 (s_iload (j := 5) (by decide +kernel)) <|
  fa1 (s_aload_n (kf := 0) (j := 0) (by decide +kernel) rfl) <|
  fa1 (s_getI (ci := 12) (f := 74) (idx := 453) (C := RX12) (T := TX12) (NF := 83) (by decide +kernel) rfl (by decide) inG_X12 (by decide) w_1312 li_X12_74) <|
  fa1 (s_cmpge (off := 9) (by decide +kernel) (by decide)) <|
  fa1 (s_sipush (n := 201) (v := 201) (by decide +kernel) (by decide +kernel) (p32 rfl)) <|
  fa1 (s_goto (off := 7) (by decide +kernel) (by decide)) <|
  fa1 (s_aload_n (kf := 0) (j := 0) (by decide +kernel) rfl) <|
  fa1 (s_getI (ci := 12) (f := 74) (idx := 453) (C := RX12) (T := TX12) (NF := 83) (by decide +kernel) rfl (by decide) inG_X12 (by decide) w_1312 li_X12_74) <|
  fa1 (s_iast (by decide +kernel) lt_loR_20) <|
  fa1 (s_iconst (n := 0) (v := 0) (by decide +kernel) (by decide +kernel) (p32 rfl)) <|
  fa1 (s_istore (j := 6) (by decide +kernel) (by decide)) <|
  fa1 (s_iload (j := 6) (by decide +kernel)) <|
  fa1 (s_aload_n (kf := 0) (j := 0) (by decide +kernel) rfl) <|
  fa1 (s_getI (ci := 12) (f := 74) (idx := 453) (C := RX12) (T := TX12) (NF := 83) (by decide +kernel) rfl (by decide) inG_X12 (by decide) w_1312 li_X12_74) <|
  fa1 (s_cmpge (off := 37) (by decide +kernel) (by decide)) <|
  fa1 (s_iload (j := 6) (by decide +kernel)) <|
  fa1 (s_sipush (n := 200) (v := 200) (by decide +kernel) (by decide +kernel) (p32 rfl)) <|
  fa1 (s_cmpge (off := 29) (by decide +kernel) (by decide)) <|
  fa1 (s_aload_n (kf := 0) (j := 0) (by decide +kernel) rfl) <|
  fa1 (s_getR (t2 := 20) (g := (fun _ => 44)) (ci := 12) (f := 71) (idx := 144) (C := RX12) (T := TX12) (NF := 83) (by decide +kernel) rfl (by decide) inG_X12 (by decide) w_1309 lr_X12_71 (by decide)) <|
  fa1 (s_sipush (n := 200) (v := 200) (by decide +kernel) (by decide +kernel) (p32 rfl)) <|
  fa1 (s_iload_n (kf := 1) (j := 1) (by decide +kernel) rfl) <|
  fa1 (s_imul (by decide +kernel)) <|
  fa1 (s_iload (j := 6) (by decide +kernel)) <|
  fa1 (s_iadd (by decide +kernel)) <|
  fa1 (s_aload_n (kf := 0) (j := 0) (by decide +kernel) rfl) <|
  fa1 (s_getR (t2 := 20) (g := (fun _ => 46)) (ci := 12) (f := 73) (idx := 150) (C := RX12) (T := TX12) (NF := 83) (by decide +kernel) rfl (by decide) inG_X12 (by decide) w_1311 lr_X12_73 (by decide)) <|
  fa1 (s_iload (j := 6) (by decide +kernel)) <|
  fa1 (s_iald (by decide +kernel)) <|
  fa1 (s_iast (by decide +kernel) lt_loR_20) <|
  fa1 (s_iinc (j := 6) (d := 1) (by decide +kernel) (by decide)) <|
  fa1 (s_goto (off := -40) (by decide +kernel) (by decide)) <|
  fa1 (s_vret (by decide +kernel) rfl) <| fa0
theorem gg_X12_widens {G : Wp} {l : Launch} : GoodM loR G l yX12_widens cX12_widens 7 none rm_X12_widens f_X12_widens := met_of kt_X12_widens (lkp_snd (ks_X12_widens G l)) (by decide +kernel) rfl (by decide)
noncomputable def k_X12_isLess : List (Nat × Ins) := [
  (0, i_push 1 (.inl 0)),
  (1, i_istore 3 5),
  (3, i_iload 5 5),
  (5, i_iload 6 3),
  (6, i_cmpge 9 43),
  (9, i_iload 11 5),
  (11, i_iload 13 4),
  (13, i_cmpge 16 43),
  (16, i_aload 17 0),
  (17, i_getR 20 12 20 (fun _ => 48)),
  (20, i_iload 21 1),
  (21, i_iload 23 5),
  (23, i_bin 24 (fun x y => wr (x + y))),
  (24, i_ald 25 20 lnR),
  (25, i_aload 26 0),
  (26, i_getR 29 12 20 (fun _ => 48)),
  (29, i_iload 30 2),
  (30, i_iload 32 5),
  (32, i_bin 33 (fun x y => wr (x + y))),
  (33, i_ald 34 20 lnR),
  (34, i_cmpne 37 43),
  (37, i_iinc 40 5 (1)),
  (40, i_goto 3),
  (43, i_iload 45 5),
  (45, i_iload 46 3),
  (46, i_cmpge 49 81),
  (49, i_iload 51 5),
  (51, i_iload 53 4),
  (53, i_cmpge 56 81),
  (56, i_aload 57 0),
  (57, i_getR 60 12 20 (fun _ => 48)),
  (60, i_iload 61 2),
  (61, i_iload 63 5),
  (63, i_bin 64 (fun x y => wr (x + y))),
  (64, i_ald 65 20 lnR),
  (65, i_aload 66 0),
  (66, i_getR 69 12 20 (fun _ => 48)),
  (69, i_iload 70 1),
  (70, i_iload 72 5),
  (72, i_bin 73 (fun x y => wr (x + y))),
  (73, i_ald 74 20 lnR),
  (74, i_cmpge 77 81),
  (77, i_push 78 (.inl 1)),
  (78, i_goto 82),
  (81, i_push 82 (.inl 0)),
  (82, i_zret)]
noncomputable def kc_X12_isLess : Nat → Option Ins := lkp k_X12_isLess
noncomputable def f_X12_isLess : List AV → Mem → Option Rs := den 6 kc_X12_isLess
abbrev rm_X12_isLess : Room := { frames := 0, cells := 0, slots := 0, locals := 0 }
set_option maxRecDepth 100000 in
theorem kt_X12_isLess : TriC kc_X12_isLess := lkp_tri (fa1 (tri_push 1 (.inl 0)) (fa1 (tri_istore 3 5) (fa1 (tri_iload 5 5) (fa1 (tri_iload 6 3) (fa1 (tri_cmpge 9 43) (fa1 (tri_iload 11 5) (fa1 (tri_iload 13 4) (fa1 (tri_cmpge 16 43) (fa1 (tri_aload 17 0) (fa1 (tri_getR 20 12 20 (fun _ => 48)) (fa1 (tri_iload 21 1) (fa1 (tri_iload 23 5) (fa1 (tri_bin 24 (fun x y => wr (x + y))) (fa1 (tri_ald 25 20 lnR) (fa1 (tri_aload 26 0) (fa1 (tri_getR 29 12 20 (fun _ => 48)) (fa1 (tri_iload 30 2) (fa1 (tri_iload 32 5) (fa1 (tri_bin 33 (fun x y => wr (x + y))) (fa1 (tri_ald 34 20 lnR) (fa1 (tri_cmpne 37 43) (fa1 (tri_iinc 40 5 (1)) (fa1 (tri_goto 3) (fa1 (tri_iload 45 5) (fa1 (tri_iload 46 3) (fa1 (tri_cmpge 49 81) (fa1 (tri_iload 51 5) (fa1 (tri_iload 53 4) (fa1 (tri_cmpge 56 81) (fa1 (tri_aload 57 0) (fa1 (tri_getR 60 12 20 (fun _ => 48)) (fa1 (tri_iload 61 2) (fa1 (tri_iload 63 5) (fa1 (tri_bin 64 (fun x y => wr (x + y))) (fa1 (tri_ald 65 20 lnR) (fa1 (tri_aload 66 0) (fa1 (tri_getR 69 12 20 (fun _ => 48)) (fa1 (tri_iload 70 1) (fa1 (tri_iload 72 5) (fa1 (tri_bin 73 (fun x y => wr (x + y))) (fa1 (tri_ald 74 20 lnR) (fa1 (tri_cmpge 77 81) (fa1 (tri_push 78 (.inl 1)) (fa1 (tri_goto 82) (fa1 (tri_push 82 (.inl 0)) (fa1 (tri_zret) (fa0)))))))))))))))))))))))))))))))))))))))))))))))
set_option maxRecDepth 100000 in
set_option maxHeartbeats 4000000 in
theorem ks_X12_isLess (G : Wp) (l : Launch) : ∀ e ∈ k_X12_isLess, Snd loR G l RX12 cX12_isLess 6 (some .boolean) rm_X12_isLess e.1 e.2 :=
  fa1 (s_iconst (n := 0) (v := 0) (by decide +kernel) (by decide +kernel) (p32 rfl)) <|
  fa1 (s_istore (j := 5) (by decide +kernel) (by decide)) <|
  fa1 (s_iload (j := 5) (by decide +kernel)) <|
  fa1 (s_iload_n (kf := 3) (j := 3) (by decide +kernel) rfl) <|
  fa1 (s_cmpge (off := 37) (by decide +kernel) (by decide)) <|
  fa1 (s_iload (j := 5) (by decide +kernel)) <|
  fa1 (s_iload (j := 4) (by decide +kernel)) <|
  fa1 (s_cmpge (off := 30) (by decide +kernel) (by decide)) <|
  fa1 (s_aload_n (kf := 0) (j := 0) (by decide +kernel) rfl) <|
  fa1 (s_getR (t2 := 20) (g := (fun _ => 48)) (ci := 12) (f := 77) (idx := 156) (C := RX12) (T := TX12) (NF := 83) (by decide +kernel) rfl (by decide) inG_X12 (by decide) w_1315 lr_X12_77 (by decide)) <|
  fa1 (s_iload_n (kf := 1) (j := 1) (by decide +kernel) rfl) <|
  fa1 (s_iload (j := 5) (by decide +kernel)) <|
  fa1 (s_iadd (by decide +kernel)) <|
  fa1 (s_iald (by decide +kernel)) <|
  fa1 (s_aload_n (kf := 0) (j := 0) (by decide +kernel) rfl) <|
  fa1 (s_getR (t2 := 20) (g := (fun _ => 48)) (ci := 12) (f := 77) (idx := 156) (C := RX12) (T := TX12) (NF := 83) (by decide +kernel) rfl (by decide) inG_X12 (by decide) w_1315 lr_X12_77 (by decide)) <|
  fa1 (s_iload_n (kf := 2) (j := 2) (by decide +kernel) rfl) <|
  fa1 (s_iload (j := 5) (by decide +kernel)) <|
  fa1 (s_iadd (by decide +kernel)) <|
  fa1 (s_iald (by decide +kernel)) <|
  fa1 (s_cmpne (off := 9) (by decide +kernel) (by decide)) <|
  fa1 (s_iinc (j := 5) (d := 1) (by decide +kernel) (by decide)) <|
  fa1 (s_goto (off := -37) (by decide +kernel) (by decide)) <|
  fa1 (s_iload (j := 5) (by decide +kernel)) <|
  fa1 (s_iload_n (kf := 3) (j := 3) (by decide +kernel) rfl) <|
  fa1 (s_cmpge (off := 35) (by decide +kernel) (by decide)) <|
  fa1 (s_iload (j := 5) (by decide +kernel)) <|
  fa1 (s_iload (j := 4) (by decide +kernel)) <|
  fa1 (s_cmpge (off := 28) (by decide +kernel) (by decide)) <|
  fa1 (s_aload_n (kf := 0) (j := 0) (by decide +kernel) rfl) <|
  fa1 (s_getR (t2 := 20) (g := (fun _ => 48)) (ci := 12) (f := 77) (idx := 156) (C := RX12) (T := TX12) (NF := 83) (by decide +kernel) rfl (by decide) inG_X12 (by decide) w_1315 lr_X12_77 (by decide)) <|
  fa1 (s_iload_n (kf := 2) (j := 2) (by decide +kernel) rfl) <|
  fa1 (s_iload (j := 5) (by decide +kernel)) <|
  fa1 (s_iadd (by decide +kernel)) <|
  fa1 (s_iald (by decide +kernel)) <|
  fa1 (s_aload_n (kf := 0) (j := 0) (by decide +kernel) rfl) <|
  fa1 (s_getR (t2 := 20) (g := (fun _ => 48)) (ci := 12) (f := 77) (idx := 156) (C := RX12) (T := TX12) (NF := 83) (by decide +kernel) rfl (by decide) inG_X12 (by decide) w_1315 lr_X12_77 (by decide)) <|
  fa1 (s_iload_n (kf := 1) (j := 1) (by decide +kernel) rfl) <|
  fa1 (s_iload (j := 5) (by decide +kernel)) <|
  fa1 (s_iadd (by decide +kernel)) <|
  fa1 (s_iald (by decide +kernel)) <|
  fa1 (s_cmpge (off := 7) (by decide +kernel) (by decide)) <|
  fa1 (s_iconst (n := 1) (v := 1) (by decide +kernel) (by decide +kernel) (p32 rfl)) <|
  fa1 (s_goto (off := 4) (by decide +kernel) (by decide)) <|
  fa1 (s_iconst (n := 0) (v := 0) (by decide +kernel) (by decide +kernel) (p32 rfl)) <|
  fa1 (s_zret (by decide +kernel) rfl) <| fa0
theorem gg_X12_isLess {G : Wp} {l : Launch} : GoodM loR G l yX12_isLess cX12_isLess 6 (some .boolean) rm_X12_isLess f_X12_isLess := met_of kt_X12_isLess (lkp_snd (ks_X12_isLess G l)) (by decide +kernel) rfl (by decide)
noncomputable def k_X12_renamed : List (Nat × Ins) := [
  (0, i_iload 1 1),
  (1, i_push 2 (.inl 2)),
  (2, i_div 3 bDiv),
  (3, i_istore 4 2),
  (4, i_iload 5 1),
  (5, i_push 6 (.inl 2)),
  (6, i_div 7 bRem),
  (7, i_ifne 10 18),
  (10, i_iload 11 2),
  (11, i_push 12 (.inl 1)),
  (12, i_bin 13 (fun x y => wr (x + y))),
  (13, i_push 14 (.inl 3)),
  (14, i_div 15 bRem),
  (15, i_goto 23),
  (18, i_iload 19 2),
  (19, i_push 20 (.inl 2)),
  (20, i_bin 21 (fun x y => wr (x + y))),
  (21, i_push 22 (.inl 3)),
  (22, i_div 23 bRem),
  (23, i_istore 24 3),
  (24, i_push 26 (.inl 23)),
  (26, i_iload 27 0),
  (27, i_ifne 30 34),
  (30, i_iload 31 2),
  (31, i_goto 48),
  (34, i_iload 35 0),
  (35, i_push 36 (.inl 1)),
  (36, i_cmpne 39 43),
  (39, i_iload 40 3),
  (40, i_goto 48),
  (43, i_push 44 (.inl 3)),
  (44, i_iload 45 2),
  (45, i_bin 46 (fun x y => wr (x - y))),
  (46, i_iload 47 3),
  (47, i_bin 48 (fun x y => wr (x - y))),
  (48, i_bin 49 (fun x y => wr (x + y))),
  (49, i_iret)]
noncomputable def kc_X12_renamed : Nat → Option Ins := lkp k_X12_renamed
noncomputable def f_X12_renamed : List AV → Mem → Option Rs := den 4 kc_X12_renamed
abbrev rm_X12_renamed : Room := { frames := 0, cells := 0, slots := 0, locals := 0 }
set_option maxRecDepth 100000 in
theorem kt_X12_renamed : TriC kc_X12_renamed := lkp_tri (fa1 (tri_iload 1 1) (fa1 (tri_push 2 (.inl 2)) (fa1 (tri_div 3 bDiv) (fa1 (tri_istore 4 2) (fa1 (tri_iload 5 1) (fa1 (tri_push 6 (.inl 2)) (fa1 (tri_div 7 bRem) (fa1 (tri_ifne 10 18) (fa1 (tri_iload 11 2) (fa1 (tri_push 12 (.inl 1)) (fa1 (tri_bin 13 (fun x y => wr (x + y))) (fa1 (tri_push 14 (.inl 3)) (fa1 (tri_div 15 bRem) (fa1 (tri_goto 23) (fa1 (tri_iload 19 2) (fa1 (tri_push 20 (.inl 2)) (fa1 (tri_bin 21 (fun x y => wr (x + y))) (fa1 (tri_push 22 (.inl 3)) (fa1 (tri_div 23 bRem) (fa1 (tri_istore 24 3) (fa1 (tri_push 26 (.inl 23)) (fa1 (tri_iload 27 0) (fa1 (tri_ifne 30 34) (fa1 (tri_iload 31 2) (fa1 (tri_goto 48) (fa1 (tri_iload 35 0) (fa1 (tri_push 36 (.inl 1)) (fa1 (tri_cmpne 39 43) (fa1 (tri_iload 40 3) (fa1 (tri_goto 48) (fa1 (tri_push 44 (.inl 3)) (fa1 (tri_iload 45 2) (fa1 (tri_bin 46 (fun x y => wr (x - y))) (fa1 (tri_iload 47 3) (fa1 (tri_bin 48 (fun x y => wr (x - y))) (fa1 (tri_bin 49 (fun x y => wr (x + y))) (fa1 (tri_iret) (fa0))))))))))))))))))))))))))))))))))))))
set_option maxRecDepth 100000 in
set_option maxHeartbeats 4000000 in
theorem ks_X12_renamed (G : Wp) (l : Launch) : ∀ e ∈ k_X12_renamed, Snd loR G l RX12 cX12_renamed 4 (some .int) rm_X12_renamed e.1 e.2 :=
  fa1 (s_iload_n (kf := 1) (j := 1) (by decide +kernel) rfl) <|
  fa1 (s_iconst (n := 2) (v := 2) (by decide +kernel) (by decide +kernel) (p32 rfl)) <|
  fa1 (s_idiv (by decide +kernel)) <|
  fa1 (s_istore_n (kf := 2) (j := 2) (by decide +kernel) rfl (by decide)) <|
  fa1 (s_iload_n (kf := 1) (j := 1) (by decide +kernel) rfl) <|
  fa1 (s_iconst (n := 2) (v := 2) (by decide +kernel) (by decide +kernel) (p32 rfl)) <|
  fa1 (s_irem (by decide +kernel)) <|
  fa1 (s_ifne (off := 11) (by decide +kernel) (by decide)) <|
  fa1 (s_iload_n (kf := 2) (j := 2) (by decide +kernel) rfl) <|
  fa1 (s_iconst (n := 1) (v := 1) (by decide +kernel) (by decide +kernel) (p32 rfl)) <|
  fa1 (s_iadd (by decide +kernel)) <|
  fa1 (s_iconst (n := 3) (v := 3) (by decide +kernel) (by decide +kernel) (p32 rfl)) <|
  fa1 (s_irem (by decide +kernel)) <|
  fa1 (s_goto (off := 8) (by decide +kernel) (by decide)) <|
  fa1 (s_iload_n (kf := 2) (j := 2) (by decide +kernel) rfl) <|
  fa1 (s_iconst (n := 2) (v := 2) (by decide +kernel) (by decide +kernel) (p32 rfl)) <|
  fa1 (s_iadd (by decide +kernel)) <|
  fa1 (s_iconst (n := 3) (v := 3) (by decide +kernel) (by decide +kernel) (p32 rfl)) <|
  fa1 (s_irem (by decide +kernel)) <|
  fa1 (s_istore_n (kf := 3) (j := 3) (by decide +kernel) rfl (by decide)) <|
  fa1 (s_bipush (n := 23) (v := 23) (by decide +kernel) (by decide +kernel) (p32 rfl)) <|
  fa1 (s_iload_n (kf := 0) (j := 0) (by decide +kernel) rfl) <|
  fa1 (s_ifne (off := 7) (by decide +kernel) (by decide)) <|
  fa1 (s_iload_n (kf := 2) (j := 2) (by decide +kernel) rfl) <|
  fa1 (s_goto (off := 17) (by decide +kernel) (by decide)) <|
  fa1 (s_iload_n (kf := 0) (j := 0) (by decide +kernel) rfl) <|
  fa1 (s_iconst (n := 1) (v := 1) (by decide +kernel) (by decide +kernel) (p32 rfl)) <|
  fa1 (s_cmpne (off := 7) (by decide +kernel) (by decide)) <|
  fa1 (s_iload_n (kf := 3) (j := 3) (by decide +kernel) rfl) <|
  fa1 (s_goto (off := 8) (by decide +kernel) (by decide)) <|
  fa1 (s_iconst (n := 3) (v := 3) (by decide +kernel) (by decide +kernel) (p32 rfl)) <|
  fa1 (s_iload_n (kf := 2) (j := 2) (by decide +kernel) rfl) <|
  fa1 (s_isub (by decide +kernel)) <|
  fa1 (s_iload_n (kf := 3) (j := 3) (by decide +kernel) rfl) <|
  fa1 (s_isub (by decide +kernel)) <|
  fa1 (s_iadd (by decide +kernel)) <|
  fa1 (s_iret (by decide +kernel) rfl) <| fa0
theorem gg_X12_renamed {G : Wp} {l : Launch} : GoodM loR G l yX12_renamed cX12_renamed 4 (some .int) rm_X12_renamed f_X12_renamed := met_of kt_X12_renamed (lkp_snd (ks_X12_renamed G l)) (by decide +kernel) rfl (by decide)
noncomputable def k_X12_tidies : List (Nat × Ins) := [
  (0, i_aload 1 0),
  (1, i_getR 4 12 20 (fun _ => 45)),
  (4, i_iload 5 1),
  (5, i_ald 6 20 lnR),
  (6, i_istore 8 4),
  (8, i_push 9 (.inl 0)),
  (9, i_istore 11 5),
  (11, i_iload 13 5),
  (13, i_iload 15 4),
  (15, i_cmpge 18 67),
  (18, i_aload 19 0),
  (19, i_getR 22 12 20 (fun _ => 44)),
  (22, i_push 25 (.inl 200)),
  (25, i_iload 26 1),
  (26, i_bin 27 (fun x y => wr (x * y))),
  (27, i_iload 29 5),
  (29, i_bin 30 (fun x y => wr (x + y))),
  (30, i_ald 31 20 lnR),
  (31, i_istore 33 6),
  (33, i_aload 34 0),
  (34, i_getR 37 12 20 (fun _ => 48)),
  (37, i_iload 39 5),
  (39, i_iload 41 6),
  (41, i_push 43 (.inl 23)),
  (43, i_cmpge 46 51),
  (46, i_iload 48 6),
  (48, i_goto 60),
  (51, i_iload 53 6),
  (53, i_push 55 (.inl 23)),
  (55, i_bin 56 (fun x y => wr (x - y))),
  (56, i_iload 57 2),
  (57, i_callI 60 2 anyv f_X12_renamed),
  (60, i_ast 61 20 lnR id),
  (61, i_iinc 64 5 (1)),
  (64, i_goto 11),
  (67, i_iload 69 4),
  (69, i_push 70 (.inl 1)),
  (70, i_bin 71 (fun x y => wr (x - y))),
  (71, i_istore 73 5),
  (73, i_iload 75 5),
  (75, i_iflt 78 270),
  (78, i_iload 79 3),
  (79, i_ifeq 82 270),
  (82, i_aload 83 0),
  (83, i_getR 86 12 20 (fun _ => 48)),
  (86, i_iload 88 5),
  (88, i_ald 89 20 lnR),
  (89, i_push 91 (.inl 12)),
  (91, i_cmpne 94 264),
  (94, i_iload 96 5),
  (96, i_push 97 (.inl 1)),
  (97, i_bin 98 (fun x y => wr (x + y))),
  (98, i_istore 100 6),
  (100, i_aload 101 0),
  (101, i_aload 102 0),
  (102, i_getR 105 12 20 (fun _ => 48)),
  (105, i_iload 107 6),
  (107, i_iload 109 4),
  (109, i_callI 112 4 (rcv 12) f_X12_endAt),
  (112, i_istore 114 7),
  (114, i_aload 115 0),
  (115, i_aload 116 0),
  (116, i_getR 119 12 20 (fun _ => 48)),
  (119, i_iload 121 7),
  (121, i_iload 123 4),
  (123, i_callI 126 4 (rcv 12) f_X12_endAt),
  (126, i_istore 128 8),
  (128, i_aload 129 0),
  (129, i_iload 131 6),
  (131, i_iload 133 7),
  (133, i_iload 135 7),
  (135, i_iload 137 6),
  (137, i_bin 138 (fun x y => wr (x - y))),
  (138, i_iload 140 8),
  (140, i_iload 142 7),
  (142, i_bin 143 (fun x y => wr (x - y))),
  (143, i_callI 146 5 (rcv 12) f_X12_isLess),
  (146, i_ifeq 149 264),
  (149, i_iload 151 6),
  (151, i_istore 153 9),
  (153, i_iload 155 9),
  (155, i_iload 157 8),
  (157, i_cmpge 160 180),
  (160, i_aload 161 0),
  (161, i_getR 164 12 20 (fun _ => 49)),
  (164, i_iload 166 9),
  (166, i_aload 167 0),
  (167, i_getR 170 12 20 (fun _ => 48)),
  (170, i_iload 172 9),
  (172, i_ald 173 20 lnR),
  (173, i_ast 174 20 lnR id),
  (174, i_iinc 177 9 (1)),
  (177, i_goto 153),
  (180, i_push 181 (.inl 0)),
  (181, i_istore 183 9),
  (183, i_iload 185 9),
  (185, i_iload 187 8),
  (187, i_iload 189 7),
  (189, i_bin 190 (fun x y => wr (x - y))),
  (190, i_cmpge 193 219),
  (193, i_aload 194 0),
  (194, i_getR 197 12 20 (fun _ => 48)),
  (197, i_iload 199 6),
  (199, i_iload 201 9),
  (201, i_bin 202 (fun x y => wr (x + y))),
  (202, i_aload 203 0),
  (203, i_getR 206 12 20 (fun _ => 49)),
  (206, i_iload 208 7),
  (208, i_iload 210 9),
  (210, i_bin 211 (fun x y => wr (x + y))),
  (211, i_ald 212 20 lnR),
  (212, i_ast 213 20 lnR id),
  (213, i_iinc 216 9 (1)),
  (216, i_goto 183),
  (219, i_push 220 (.inl 0)),
  (220, i_istore 222 9),
  (222, i_iload 224 9),
  (224, i_iload 226 7),
  (226, i_iload 228 6),
  (228, i_bin 229 (fun x y => wr (x - y))),
  (229, i_cmpge 232 264),
  (232, i_aload 233 0),
  (233, i_getR 236 12 20 (fun _ => 48)),
  (236, i_iload 238 6),
  (238, i_iload 240 8),
  (240, i_bin 241 (fun x y => wr (x + y))),
  (241, i_iload 243 7),
  (243, i_bin 244 (fun x y => wr (x - y))),
  (244, i_iload 246 9),
  (246, i_bin 247 (fun x y => wr (x + y))),
  (247, i_aload 248 0),
  (248, i_getR 251 12 20 (fun _ => 49)),
  (251, i_iload 253 6),
  (253, i_iload 255 9),
  (255, i_bin 256 (fun x y => wr (x + y))),
  (256, i_ald 257 20 lnR),
  (257, i_ast 258 20 lnR id),
  (258, i_iinc 261 9 (1)),
  (261, i_goto 222),
  (264, i_iinc 267 5 (-1)),
  (267, i_goto 73),
  (270, i_vret)]
noncomputable def kc_X12_tidies : Nat → Option Ins := lkp k_X12_tidies
noncomputable def f_X12_tidies : List AV → Mem → Option Rs := den 10 kc_X12_tidies
abbrev rm_X12_tidies : Room := { frames := 3, cells := 0, slots := 0, locals := 71 }
set_option maxRecDepth 100000 in
theorem kt_X12_tidies : TriC kc_X12_tidies := lkp_tri (fa1 (tri_aload 1 0) (fa1 (tri_getR 4 12 20 (fun _ => 45)) (fa1 (tri_iload 5 1) (fa1 (tri_ald 6 20 lnR) (fa1 (tri_istore 8 4) (fa1 (tri_push 9 (.inl 0)) (fa1 (tri_istore 11 5) (fa1 (tri_iload 13 5) (fa1 (tri_iload 15 4) (fa1 (tri_cmpge 18 67) (fa1 (tri_aload 19 0) (fa1 (tri_getR 22 12 20 (fun _ => 44)) (fa1 (tri_push 25 (.inl 200)) (fa1 (tri_iload 26 1) (fa1 (tri_bin 27 (fun x y => wr (x * y))) (fa1 (tri_iload 29 5) (fa1 (tri_bin 30 (fun x y => wr (x + y))) (fa1 (tri_ald 31 20 lnR) (fa1 (tri_istore 33 6) (fa1 (tri_aload 34 0) (fa1 (tri_getR 37 12 20 (fun _ => 48)) (fa1 (tri_iload 39 5) (fa1 (tri_iload 41 6) (fa1 (tri_push 43 (.inl 23)) (fa1 (tri_cmpge 46 51) (fa1 (tri_iload 48 6) (fa1 (tri_goto 60) (fa1 (tri_iload 53 6) (fa1 (tri_push 55 (.inl 23)) (fa1 (tri_bin 56 (fun x y => wr (x - y))) (fa1 (tri_iload 57 2) (fa1 (tri_callI 60 2 anyv f_X12_renamed) (fa1 (tri_ast 61 20 lnR id) (fa1 (tri_iinc 64 5 (1)) (fa1 (tri_goto 11) (fa1 (tri_iload 69 4) (fa1 (tri_push 70 (.inl 1)) (fa1 (tri_bin 71 (fun x y => wr (x - y))) (fa1 (tri_istore 73 5) (fa1 (tri_iload 75 5) (fa1 (tri_iflt 78 270) (fa1 (tri_iload 79 3) (fa1 (tri_ifeq 82 270) (fa1 (tri_aload 83 0) (fa1 (tri_getR 86 12 20 (fun _ => 48)) (fa1 (tri_iload 88 5) (fa1 (tri_ald 89 20 lnR) (fa1 (tri_push 91 (.inl 12)) (fa1 (tri_cmpne 94 264) (fa1 (tri_iload 96 5) (fa1 (tri_push 97 (.inl 1)) (fa1 (tri_bin 98 (fun x y => wr (x + y))) (fa1 (tri_istore 100 6) (fa1 (tri_aload 101 0) (fa1 (tri_aload 102 0) (fa1 (tri_getR 105 12 20 (fun _ => 48)) (fa1 (tri_iload 107 6) (fa1 (tri_iload 109 4) (fa1 (tri_callI 112 4 (rcv 12) f_X12_endAt) (fa1 (tri_istore 114 7) (fa1 (tri_aload 115 0) (fa1 (tri_aload 116 0) (fa1 (tri_getR 119 12 20 (fun _ => 48)) (fa1 (tri_iload 121 7) (fa1 (tri_iload 123 4) (fa1 (tri_callI 126 4 (rcv 12) f_X12_endAt) (fa1 (tri_istore 128 8) (fa1 (tri_aload 129 0) (fa1 (tri_iload 131 6) (fa1 (tri_iload 133 7) (fa1 (tri_iload 135 7) (fa1 (tri_iload 137 6) (fa1 (tri_bin 138 (fun x y => wr (x - y))) (fa1 (tri_iload 140 8) (fa1 (tri_iload 142 7) (fa1 (tri_bin 143 (fun x y => wr (x - y))) (fa1 (tri_callI 146 5 (rcv 12) f_X12_isLess) (fa1 (tri_ifeq 149 264) (fa1 (tri_iload 151 6) (fa1 (tri_istore 153 9) (fa1 (tri_iload 155 9) (fa1 (tri_iload 157 8) (fa1 (tri_cmpge 160 180) (fa1 (tri_aload 161 0) (fa1 (tri_getR 164 12 20 (fun _ => 49)) (fa1 (tri_iload 166 9) (fa1 (tri_aload 167 0) (fa1 (tri_getR 170 12 20 (fun _ => 48)) (fa1 (tri_iload 172 9) (fa1 (tri_ald 173 20 lnR) (fa1 (tri_ast 174 20 lnR id) (fa1 (tri_iinc 177 9 (1)) (fa1 (tri_goto 153) (fa1 (tri_push 181 (.inl 0)) (fa1 (tri_istore 183 9) (fa1 (tri_iload 185 9) (fa1 (tri_iload 187 8) (fa1 (tri_iload 189 7) (fa1 (tri_bin 190 (fun x y => wr (x - y))) (fa1 (tri_cmpge 193 219) (fa1 (tri_aload 194 0) (fa1 (tri_getR 197 12 20 (fun _ => 48)) (fa1 (tri_iload 199 6) (fa1 (tri_iload 201 9) (fa1 (tri_bin 202 (fun x y => wr (x + y))) (fa1 (tri_aload 203 0) (fa1 (tri_getR 206 12 20 (fun _ => 49)) (fa1 (tri_iload 208 7) (fa1 (tri_iload 210 9) (fa1 (tri_bin 211 (fun x y => wr (x + y))) (fa1 (tri_ald 212 20 lnR) (fa1 (tri_ast 213 20 lnR id) (fa1 (tri_iinc 216 9 (1)) (fa1 (tri_goto 183) (fa1 (tri_push 220 (.inl 0)) (fa1 (tri_istore 222 9) (fa1 (tri_iload 224 9) (fa1 (tri_iload 226 7) (fa1 (tri_iload 228 6) (fa1 (tri_bin 229 (fun x y => wr (x - y))) (fa1 (tri_cmpge 232 264) (fa1 (tri_aload 233 0) (fa1 (tri_getR 236 12 20 (fun _ => 48)) (fa1 (tri_iload 238 6) (fa1 (tri_iload 240 8) (fa1 (tri_bin 241 (fun x y => wr (x + y))) (fa1 (tri_iload 243 7) (fa1 (tri_bin 244 (fun x y => wr (x - y))) (fa1 (tri_iload 246 9) (fa1 (tri_bin 247 (fun x y => wr (x + y))) (fa1 (tri_aload 248 0) (fa1 (tri_getR 251 12 20 (fun _ => 49)) (fa1 (tri_iload 253 6) (fa1 (tri_iload 255 9) (fa1 (tri_bin 256 (fun x y => wr (x + y))) (fa1 (tri_ald 257 20 lnR) (fa1 (tri_ast 258 20 lnR id) (fa1 (tri_iinc 261 9 (1)) (fa1 (tri_goto 222) (fa1 (tri_iinc 267 5 (-1)) (fa1 (tri_goto 73) (fa1 (tri_vret) (fa0)))))))))))))))))))))))))))))))))))))))))))))))))))))))))))))))))))))))))))))))))))))))))))))))))))))))))))))))))))))))))))))))))))))))))))))))
set_option maxRecDepth 100000 in
set_option maxHeartbeats 4000000 in
theorem ks_X12_tidies (G : Wp) (l : Launch) : ∀ e ∈ k_X12_tidies, Snd loR G l RX12 cX12_tidies 10 none rm_X12_tidies e.1 e.2 :=
  fa1 (s_aload_n (kf := 0) (j := 0) (by decide +kernel) rfl) <|
  fa1 (s_getR (t2 := 20) (g := (fun _ => 45)) (ci := 12) (f := 72) (idx := 147) (C := RX12) (T := TX12) (NF := 83) (by decide +kernel) rfl (by decide) inG_X12 (by decide) w_1310 lr_X12_72 (by decide)) <|
  fa1 (s_iload_n (kf := 1) (j := 1) (by decide +kernel) rfl) <|
  fa1 (s_iald (by decide +kernel)) <|
  fa1 (s_istore (j := 4) (by decide +kernel) (by decide)) <|
  fa1 (s_iconst (n := 0) (v := 0) (by decide +kernel) (by decide +kernel) (p32 rfl)) <|
  fa1 (s_istore (j := 5) (by decide +kernel) (by decide)) <|
  fa1 (s_iload (j := 5) (by decide +kernel)) <|
  fa1 (s_iload (j := 4) (by decide +kernel)) <|
  fa1 (s_cmpge (off := 52) (by decide +kernel) (by decide)) <|
  fa1 (s_aload_n (kf := 0) (j := 0) (by decide +kernel) rfl) <|
  fa1 (s_getR (t2 := 20) (g := (fun _ => 44)) (ci := 12) (f := 71) (idx := 144) (C := RX12) (T := TX12) (NF := 83) (by decide +kernel) rfl (by decide) inG_X12 (by decide) w_1309 lr_X12_71 (by decide)) <|
  fa1 (s_sipush (n := 200) (v := 200) (by decide +kernel) (by decide +kernel) (p32 rfl)) <|
  fa1 (s_iload_n (kf := 1) (j := 1) (by decide +kernel) rfl) <|
  fa1 (s_imul (by decide +kernel)) <|
  fa1 (s_iload (j := 5) (by decide +kernel)) <|
  fa1 (s_iadd (by decide +kernel)) <|
  fa1 (s_iald (by decide +kernel)) <|
  fa1 (s_istore (j := 6) (by decide +kernel) (by decide)) <|
  fa1 (s_aload_n (kf := 0) (j := 0) (by decide +kernel) rfl) <|
  fa1 (s_getR (t2 := 20) (g := (fun _ => 48)) (ci := 12) (f := 77) (idx := 156) (C := RX12) (T := TX12) (NF := 83) (by decide +kernel) rfl (by decide) inG_X12 (by decide) w_1315 lr_X12_77 (by decide)) <|
  fa1 (s_iload (j := 5) (by decide +kernel)) <|
  fa1 (s_iload (j := 6) (by decide +kernel)) <|
  fa1 (s_bipush (n := 23) (v := 23) (by decide +kernel) (by decide +kernel) (p32 rfl)) <|
  fa1 (s_cmpge (off := 8) (by decide +kernel) (by decide)) <|
  fa1 (s_iload (j := 6) (by decide +kernel)) <|
  fa1 (s_goto (off := 12) (by decide +kernel) (by decide)) <|
  fa1 (s_iload (j := 6) (by decide +kernel)) <|
  fa1 (s_bipush (n := 23) (v := 23) (by decide +kernel) (by decide +kernel) (p32 rfl)) <|
  fa1 (s_isub (by decide +kernel)) <|
  fa1 (s_iload_n (kf := 2) (j := 2) (by decide +kernel) rfl) <|
  fa1 (s_scallI (n := 2) (idx := 466) (y := yX12_renamed) (by decide +kernel) (gg_X12_renamed) yv_X12_renamed (all4 w_1819 w_1820 w_113 w_1821) rfl rfl ⟨by decide, by decide⟩) <|
  fa1 (s_iast (by decide +kernel) lt_loR_20) <|
  fa1 (s_iinc (j := 5) (d := 1) (by decide +kernel) (by decide)) <|
  fa1 (s_goto (off := -53) (by decide +kernel) (by decide)) <|
  fa1 (s_iload (j := 4) (by decide +kernel)) <|
  fa1 (s_iconst (n := 1) (v := 1) (by decide +kernel) (by decide +kernel) (p32 rfl)) <|
  fa1 (s_isub (by decide +kernel)) <|
  fa1 (s_istore (j := 5) (by decide +kernel) (by decide)) <|
  fa1 (s_iload (j := 5) (by decide +kernel)) <|
  fa1 (s_iflt (off := 195) (by decide +kernel) (by decide)) <|
  fa1 (s_iload_n (kf := 3) (j := 3) (by decide +kernel) rfl) <|
  fa1 (s_ifeq (off := 191) (by decide +kernel) (by decide)) <|
  fa1 (s_aload_n (kf := 0) (j := 0) (by decide +kernel) rfl) <|
  fa1 (s_getR (t2 := 20) (g := (fun _ => 48)) (ci := 12) (f := 77) (idx := 156) (C := RX12) (T := TX12) (NF := 83) (by decide +kernel) rfl (by decide) inG_X12 (by decide) w_1315 lr_X12_77 (by decide)) <|
  fa1 (s_iload (j := 5) (by decide +kernel)) <|
  fa1 (s_iald (by decide +kernel)) <|
  fa1 (s_bipush (n := 12) (v := 12) (by decide +kernel) (by decide +kernel) (p32 rfl)) <|
  fa1 (s_cmpne (off := 173) (by decide +kernel) (by decide)) <|
  fa1 (s_iload (j := 5) (by decide +kernel)) <|
  fa1 (s_iconst (n := 1) (v := 1) (by decide +kernel) (by decide +kernel) (p32 rfl)) <|
  fa1 (s_iadd (by decide +kernel)) <|
  fa1 (s_istore (j := 6) (by decide +kernel) (by decide)) <|
  fa1 (s_aload_n (kf := 0) (j := 0) (by decide +kernel) rfl) <|
  fa1 (s_aload_n (kf := 0) (j := 0) (by decide +kernel) rfl) <|
  fa1 (s_getR (t2 := 20) (g := (fun _ => 48)) (ci := 12) (f := 77) (idx := 156) (C := RX12) (T := TX12) (NF := 83) (by decide +kernel) rfl (by decide) inG_X12 (by decide) w_1315 lr_X12_77 (by decide)) <|
  fa1 (s_iload (j := 6) (by decide +kernel)) <|
  fa1 (s_iload (j := 4) (by decide +kernel)) <|
  fa1 (s_vcallI (n := 3) (ci := 12) (C := RX12) (T := TX12) (NF := 83) (idx := 238) (y := yX12_endAt) (by decide +kernel) (gg_X12_endAt) rfl (by decide) yv_X12_endAt (all5 w_1539 w_1541 w_50 w_113 w_1542) rfl rfl ⟨by decide, by decide⟩) <|
  fa1 (s_istore (j := 7) (by decide +kernel) (by decide)) <|
  fa1 (s_aload_n (kf := 0) (j := 0) (by decide +kernel) rfl) <|
  fa1 (s_aload_n (kf := 0) (j := 0) (by decide +kernel) rfl) <|
  fa1 (s_getR (t2 := 20) (g := (fun _ => 48)) (ci := 12) (f := 77) (idx := 156) (C := RX12) (T := TX12) (NF := 83) (by decide +kernel) rfl (by decide) inG_X12 (by decide) w_1315 lr_X12_77 (by decide)) <|
  fa1 (s_iload (j := 7) (by decide +kernel)) <|
  fa1 (s_iload (j := 4) (by decide +kernel)) <|
  fa1 (s_vcallI (n := 3) (ci := 12) (C := RX12) (T := TX12) (NF := 83) (idx := 238) (y := yX12_endAt) (by decide +kernel) (gg_X12_endAt) rfl (by decide) yv_X12_endAt (all5 w_1539 w_1541 w_50 w_113 w_1542) rfl rfl ⟨by decide, by decide⟩) <|
  fa1 (s_istore (j := 8) (by decide +kernel) (by decide)) <|
  fa1 (s_aload_n (kf := 0) (j := 0) (by decide +kernel) rfl) <|
  fa1 (s_iload (j := 6) (by decide +kernel)) <|
  fa1 (s_iload (j := 7) (by decide +kernel)) <|
  fa1 (s_iload (j := 7) (by decide +kernel)) <|
  fa1 (s_iload (j := 6) (by decide +kernel)) <|
  fa1 (s_isub (by decide +kernel)) <|
  fa1 (s_iload (j := 8) (by decide +kernel)) <|
  fa1 (s_iload (j := 7) (by decide +kernel)) <|
  fa1 (s_isub (by decide +kernel)) <|
  fa1 (s_vcallI (n := 4) (ci := 12) (C := RX12) (T := TX12) (NF := 83) (idx := 469) (y := yX12_isLess) (by decide +kernel) (gg_X12_isLess) rfl (by decide) yv_X12_isLess (all5 w_1822 w_1824 w_95 w_113 w_1825) rfl rfl ⟨by decide, by decide⟩) <|
  fa1 (s_ifeq (off := 118) (by decide +kernel) (by decide)) <|
  fa1 (s_iload (j := 6) (by decide +kernel)) <|
  fa1 (s_istore (j := 9) (by decide +kernel) (by decide)) <|
  fa1 (s_iload (j := 9) (by decide +kernel)) <|
  fa1 (s_iload (j := 8) (by decide +kernel)) <|
  fa1 (s_cmpge (off := 23) (by decide +kernel) (by decide)) <|
  fa1 (s_aload_n (kf := 0) (j := 0) (by decide +kernel) rfl) <|
  fa1 (s_getR (t2 := 20) (g := (fun _ => 49)) (ci := 12) (f := 78) (idx := 159) (C := RX12) (T := TX12) (NF := 83) (by decide +kernel) rfl (by decide) inG_X12 (by decide) w_1316 lr_X12_78 (by decide)) <|
  fa1 (s_iload (j := 9) (by decide +kernel)) <|
  fa1 (s_aload_n (kf := 0) (j := 0) (by decide +kernel) rfl) <|
  fa1 (s_getR (t2 := 20) (g := (fun _ => 48)) (ci := 12) (f := 77) (idx := 156) (C := RX12) (T := TX12) (NF := 83) (by decide +kernel) rfl (by decide) inG_X12 (by decide) w_1315 lr_X12_77 (by decide)) <|
  fa1 (s_iload (j := 9) (by decide +kernel)) <|
  fa1 (s_iald (by decide +kernel)) <|
  fa1 (s_iast (by decide +kernel) lt_loR_20) <|
  fa1 (s_iinc (j := 9) (d := 1) (by decide +kernel) (by decide)) <|
  fa1 (s_goto (off := -24) (by decide +kernel) (by decide)) <|
  fa1 (s_iconst (n := 0) (v := 0) (by decide +kernel) (by decide +kernel) (p32 rfl)) <|
  fa1 (s_istore (j := 9) (by decide +kernel) (by decide)) <|
  fa1 (s_iload (j := 9) (by decide +kernel)) <|
  fa1 (s_iload (j := 8) (by decide +kernel)) <|
  fa1 (s_iload (j := 7) (by decide +kernel)) <|
  fa1 (s_isub (by decide +kernel)) <|
  fa1 (s_cmpge (off := 29) (by decide +kernel) (by decide)) <|
  fa1 (s_aload_n (kf := 0) (j := 0) (by decide +kernel) rfl) <|
  fa1 (s_getR (t2 := 20) (g := (fun _ => 48)) (ci := 12) (f := 77) (idx := 156) (C := RX12) (T := TX12) (NF := 83) (by decide +kernel) rfl (by decide) inG_X12 (by decide) w_1315 lr_X12_77 (by decide)) <|
  fa1 (s_iload (j := 6) (by decide +kernel)) <|
  fa1 (s_iload (j := 9) (by decide +kernel)) <|
  fa1 (s_iadd (by decide +kernel)) <|
  fa1 (s_aload_n (kf := 0) (j := 0) (by decide +kernel) rfl) <|
  fa1 (s_getR (t2 := 20) (g := (fun _ => 49)) (ci := 12) (f := 78) (idx := 159) (C := RX12) (T := TX12) (NF := 83) (by decide +kernel) rfl (by decide) inG_X12 (by decide) w_1316 lr_X12_78 (by decide)) <|
  fa1 (s_iload (j := 7) (by decide +kernel)) <|
  fa1 (s_iload (j := 9) (by decide +kernel)) <|
  fa1 (s_iadd (by decide +kernel)) <|
  fa1 (s_iald (by decide +kernel)) <|
  fa1 (s_iast (by decide +kernel) lt_loR_20) <|
  fa1 (s_iinc (j := 9) (d := 1) (by decide +kernel) (by decide)) <|
  fa1 (s_goto (off := -33) (by decide +kernel) (by decide)) <|
  fa1 (s_iconst (n := 0) (v := 0) (by decide +kernel) (by decide +kernel) (p32 rfl)) <|
  fa1 (s_istore (j := 9) (by decide +kernel) (by decide)) <|
  fa1 (s_iload (j := 9) (by decide +kernel)) <|
  fa1 (s_iload (j := 7) (by decide +kernel)) <|
  fa1 (s_iload (j := 6) (by decide +kernel)) <|
  fa1 (s_isub (by decide +kernel)) <|
  fa1 (s_cmpge (off := 35) (by decide +kernel) (by decide)) <|
  fa1 (s_aload_n (kf := 0) (j := 0) (by decide +kernel) rfl) <|
  fa1 (s_getR (t2 := 20) (g := (fun _ => 48)) (ci := 12) (f := 77) (idx := 156) (C := RX12) (T := TX12) (NF := 83) (by decide +kernel) rfl (by decide) inG_X12 (by decide) w_1315 lr_X12_77 (by decide)) <|
  fa1 (s_iload (j := 6) (by decide +kernel)) <|
  fa1 (s_iload (j := 8) (by decide +kernel)) <|
  fa1 (s_iadd (by decide +kernel)) <|
  fa1 (s_iload (j := 7) (by decide +kernel)) <|
  fa1 (s_isub (by decide +kernel)) <|
  fa1 (s_iload (j := 9) (by decide +kernel)) <|
  fa1 (s_iadd (by decide +kernel)) <|
  fa1 (s_aload_n (kf := 0) (j := 0) (by decide +kernel) rfl) <|
  fa1 (s_getR (t2 := 20) (g := (fun _ => 49)) (ci := 12) (f := 78) (idx := 159) (C := RX12) (T := TX12) (NF := 83) (by decide +kernel) rfl (by decide) inG_X12 (by decide) w_1316 lr_X12_78 (by decide)) <|
  fa1 (s_iload (j := 6) (by decide +kernel)) <|
  fa1 (s_iload (j := 9) (by decide +kernel)) <|
  fa1 (s_iadd (by decide +kernel)) <|
  fa1 (s_iald (by decide +kernel)) <|
  fa1 (s_iast (by decide +kernel) lt_loR_20) <|
  fa1 (s_iinc (j := 9) (d := 1) (by decide +kernel) (by decide)) <|
  fa1 (s_goto (off := -39) (by decide +kernel) (by decide)) <|
  fa1 (s_iinc (j := 5) (d := -1) (by decide +kernel) (by decide)) <|
  fa1 (s_goto (off := -194) (by decide +kernel) (by decide)) <|
  fa1 (s_vret (by decide +kernel) rfl) <| fa0
theorem gg_X12_tidies {G : Wp} {l : Launch} : GoodM loR G l yX12_tidies cX12_tidies 10 none rm_X12_tidies f_X12_tidies := met_of kt_X12_tidies (lkp_snd (ks_X12_tidies G l)) (by decide +kernel) rfl (by decide)
noncomputable def k_X12_isKept : List (Nat × Ins) := [
  (0, i_push 1 (.inl 1)),
  (1, i_istore 2 3),
  (2, i_push 3 (.inl 0)),
  (3, i_istore 5 4),
  (5, i_iload 7 4),
  (7, i_aload 8 0),
  (8, i_getR 11 12 20 (fun _ => 45)),
  (11, i_iload 12 1),
  (12, i_ald 13 20 lnR),
  (13, i_cmpge 16 55),
  (16, i_iload 17 3),
  (17, i_ifeq 20 55),
  (20, i_aload 21 0),
  (21, i_getR 24 12 20 (fun _ => 48)),
  (24, i_iload 26 4),
  (26, i_ald 27 20 lnR),
  (27, i_aload 28 0),
  (28, i_getR 31 12 20 (fun _ => 50)),
  (31, i_push 34 (.inl 200)),
  (34, i_iload 35 2),
  (35, i_bin 36 (fun x y => wr (x * y))),
  (36, i_iload 38 4),
  (38, i_bin 39 (fun x y => wr (x + y))),
  (39, i_ald 40 20 lnR),
  (40, i_cmpne 43 47),
  (43, i_push 44 (.inl 1)),
  (44, i_goto 48),
  (47, i_push 48 (.inl 0)),
  (48, i_istore 49 3),
  (49, i_iinc 52 4 (1)),
  (52, i_goto 5),
  (55, i_iload 56 3),
  (56, i_zret)]
noncomputable def kc_X12_isKept : Nat → Option Ins := lkp k_X12_isKept
noncomputable def f_X12_isKept : List AV → Mem → Option Rs := den 5 kc_X12_isKept
abbrev rm_X12_isKept : Room := { frames := 0, cells := 0, slots := 0, locals := 0 }
set_option maxRecDepth 100000 in
theorem kt_X12_isKept : TriC kc_X12_isKept := lkp_tri (fa1 (tri_push 1 (.inl 1)) (fa1 (tri_istore 2 3) (fa1 (tri_push 3 (.inl 0)) (fa1 (tri_istore 5 4) (fa1 (tri_iload 7 4) (fa1 (tri_aload 8 0) (fa1 (tri_getR 11 12 20 (fun _ => 45)) (fa1 (tri_iload 12 1) (fa1 (tri_ald 13 20 lnR) (fa1 (tri_cmpge 16 55) (fa1 (tri_iload 17 3) (fa1 (tri_ifeq 20 55) (fa1 (tri_aload 21 0) (fa1 (tri_getR 24 12 20 (fun _ => 48)) (fa1 (tri_iload 26 4) (fa1 (tri_ald 27 20 lnR) (fa1 (tri_aload 28 0) (fa1 (tri_getR 31 12 20 (fun _ => 50)) (fa1 (tri_push 34 (.inl 200)) (fa1 (tri_iload 35 2) (fa1 (tri_bin 36 (fun x y => wr (x * y))) (fa1 (tri_iload 38 4) (fa1 (tri_bin 39 (fun x y => wr (x + y))) (fa1 (tri_ald 40 20 lnR) (fa1 (tri_cmpne 43 47) (fa1 (tri_push 44 (.inl 1)) (fa1 (tri_goto 48) (fa1 (tri_push 48 (.inl 0)) (fa1 (tri_istore 49 3) (fa1 (tri_iinc 52 4 (1)) (fa1 (tri_goto 5) (fa1 (tri_iload 56 3) (fa1 (tri_zret) (fa0))))))))))))))))))))))))))))))))))
set_option maxRecDepth 100000 in
set_option maxHeartbeats 4000000 in
theorem ks_X12_isKept (G : Wp) (l : Launch) : ∀ e ∈ k_X12_isKept, Snd loR G l RX12 cX12_isKept 5 (some .boolean) rm_X12_isKept e.1 e.2 :=
  fa1 (s_iconst (n := 1) (v := 1) (by decide +kernel) (by decide +kernel) (p32 rfl)) <|
  fa1 (s_istore_n (kf := 3) (j := 3) (by decide +kernel) rfl (by decide)) <|
  fa1 (s_iconst (n := 0) (v := 0) (by decide +kernel) (by decide +kernel) (p32 rfl)) <|
  fa1 (s_istore (j := 4) (by decide +kernel) (by decide)) <|
  fa1 (s_iload (j := 4) (by decide +kernel)) <|
  fa1 (s_aload_n (kf := 0) (j := 0) (by decide +kernel) rfl) <|
  fa1 (s_getR (t2 := 20) (g := (fun _ => 45)) (ci := 12) (f := 72) (idx := 147) (C := RX12) (T := TX12) (NF := 83) (by decide +kernel) rfl (by decide) inG_X12 (by decide) w_1310 lr_X12_72 (by decide)) <|
  fa1 (s_iload_n (kf := 1) (j := 1) (by decide +kernel) rfl) <|
  fa1 (s_iald (by decide +kernel)) <|
  fa1 (s_cmpge (off := 42) (by decide +kernel) (by decide)) <|
  fa1 (s_iload_n (kf := 3) (j := 3) (by decide +kernel) rfl) <|
  fa1 (s_ifeq (off := 38) (by decide +kernel) (by decide)) <|
  fa1 (s_aload_n (kf := 0) (j := 0) (by decide +kernel) rfl) <|
  fa1 (s_getR (t2 := 20) (g := (fun _ => 48)) (ci := 12) (f := 77) (idx := 156) (C := RX12) (T := TX12) (NF := 83) (by decide +kernel) rfl (by decide) inG_X12 (by decide) w_1315 lr_X12_77 (by decide)) <|
  fa1 (s_iload (j := 4) (by decide +kernel)) <|
  fa1 (s_iald (by decide +kernel)) <|
  fa1 (s_aload_n (kf := 0) (j := 0) (by decide +kernel) rfl) <|
  fa1 (s_getR (t2 := 20) (g := (fun _ => 50)) (ci := 12) (f := 79) (idx := 162) (C := RX12) (T := TX12) (NF := 83) (by decide +kernel) rfl (by decide) inG_X12 (by decide) w_1317 lr_X12_79 (by decide)) <|
  fa1 (s_sipush (n := 200) (v := 200) (by decide +kernel) (by decide +kernel) (p32 rfl)) <|
  fa1 (s_iload_n (kf := 2) (j := 2) (by decide +kernel) rfl) <|
  fa1 (s_imul (by decide +kernel)) <|
  fa1 (s_iload (j := 4) (by decide +kernel)) <|
  fa1 (s_iadd (by decide +kernel)) <|
  fa1 (s_iald (by decide +kernel)) <|
  fa1 (s_cmpne (off := 7) (by decide +kernel) (by decide)) <|
  fa1 (s_iconst (n := 1) (v := 1) (by decide +kernel) (by decide +kernel) (p32 rfl)) <|
  fa1 (s_goto (off := 4) (by decide +kernel) (by decide)) <|
  fa1 (s_iconst (n := 0) (v := 0) (by decide +kernel) (by decide +kernel) (p32 rfl)) <|
  fa1 (s_istore_n (kf := 3) (j := 3) (by decide +kernel) rfl (by decide)) <|
  fa1 (s_iinc (j := 4) (d := 1) (by decide +kernel) (by decide)) <|
  fa1 (s_goto (off := -47) (by decide +kernel) (by decide)) <|
  fa1 (s_iload_n (kf := 3) (j := 3) (by decide +kernel) rfl) <|
  fa1 (s_zret (by decide +kernel) rfl) <| fa0
theorem gg_X12_isKept {G : Wp} {l : Launch} : GoodM loR G l yX12_isKept cX12_isKept 5 (some .boolean) rm_X12_isKept f_X12_isKept := met_of kt_X12_isKept (lkp_snd (ks_X12_isKept G l)) (by decide +kernel) rfl (by decide)
noncomputable def k_X12_isSide : List (Nat × Ins) := [
  (0, i_aload 1 0),
  (1, i_getR 4 12 20 (fun _ => 45)),
  (4, i_iload 5 1),
  (5, i_ald 6 20 lnR),
  (6, i_aload 7 0),
  (7, i_getR 10 12 20 (fun _ => 45)),
  (10, i_push 11 (.inl 2)),
  (11, i_iload 13 4),
  (13, i_bin 14 (fun x y => wr (x + y))),
  (14, i_ald 15 20 lnR),
  (15, i_cmpeq 18 20),
  (18, i_push 19 (.inl 0)),
  (19, i_zret),
  (20, i_aload 21 0),
  (21, i_iload 22 1),
  (22, i_iload 23 2),
  (23, i_iload 24 3),
  (24, i_callV 27 4 (rcv 12) f_X12_tidies),
  (27, i_aload 28 0),
  (28, i_iload 29 1),
  (29, i_iload 31 4),
  (31, i_callI 34 3 (rcv 12) f_X12_isKept),
  (34, i_zret)]
noncomputable def kc_X12_isSide : Nat → Option Ins := lkp k_X12_isSide
noncomputable def f_X12_isSide : List AV → Mem → Option Rs := den 5 kc_X12_isSide
abbrev rm_X12_isSide : Room := { frames := 4, cells := 0, slots := 0, locals := 100 }
set_option maxRecDepth 100000 in
theorem kt_X12_isSide : TriC kc_X12_isSide := lkp_tri (fa1 (tri_aload 1 0) (fa1 (tri_getR 4 12 20 (fun _ => 45)) (fa1 (tri_iload 5 1) (fa1 (tri_ald 6 20 lnR) (fa1 (tri_aload 7 0) (fa1 (tri_getR 10 12 20 (fun _ => 45)) (fa1 (tri_push 11 (.inl 2)) (fa1 (tri_iload 13 4) (fa1 (tri_bin 14 (fun x y => wr (x + y))) (fa1 (tri_ald 15 20 lnR) (fa1 (tri_cmpeq 18 20) (fa1 (tri_push 19 (.inl 0)) (fa1 (tri_zret) (fa1 (tri_aload 21 0) (fa1 (tri_iload 22 1) (fa1 (tri_iload 23 2) (fa1 (tri_iload 24 3) (fa1 (tri_callV 27 4 (rcv 12) f_X12_tidies) (fa1 (tri_aload 28 0) (fa1 (tri_iload 29 1) (fa1 (tri_iload 31 4) (fa1 (tri_callI 34 3 (rcv 12) f_X12_isKept) (fa1 (tri_zret) (fa0))))))))))))))))))))))))
set_option maxRecDepth 100000 in
set_option maxHeartbeats 4000000 in
theorem ks_X12_isSide (G : Wp) (l : Launch) : ∀ e ∈ k_X12_isSide, Snd loR G l RX12 cX12_isSide 5 (some .boolean) rm_X12_isSide e.1 e.2 :=
  fa1 (s_aload_n (kf := 0) (j := 0) (by decide +kernel) rfl) <|
  fa1 (s_getR (t2 := 20) (g := (fun _ => 45)) (ci := 12) (f := 72) (idx := 147) (C := RX12) (T := TX12) (NF := 83) (by decide +kernel) rfl (by decide) inG_X12 (by decide) w_1310 lr_X12_72 (by decide)) <|
  fa1 (s_iload_n (kf := 1) (j := 1) (by decide +kernel) rfl) <|
  fa1 (s_iald (by decide +kernel)) <|
  fa1 (s_aload_n (kf := 0) (j := 0) (by decide +kernel) rfl) <|
  fa1 (s_getR (t2 := 20) (g := (fun _ => 45)) (ci := 12) (f := 72) (idx := 147) (C := RX12) (T := TX12) (NF := 83) (by decide +kernel) rfl (by decide) inG_X12 (by decide) w_1310 lr_X12_72 (by decide)) <|
  fa1 (s_iconst (n := 2) (v := 2) (by decide +kernel) (by decide +kernel) (p32 rfl)) <|
  fa1 (s_iload (j := 4) (by decide +kernel)) <|
  fa1 (s_iadd (by decide +kernel)) <|
  fa1 (s_iald (by decide +kernel)) <|
  fa1 (s_cmpeq (off := 5) (by decide +kernel) (by decide)) <|
  fa1 (s_iconst (n := 0) (v := 0) (by decide +kernel) (by decide +kernel) (p32 rfl)) <|
  fa1 (s_zret (by decide +kernel) rfl) <|
  fa1 (s_aload_n (kf := 0) (j := 0) (by decide +kernel) rfl) <|
  fa1 (s_iload_n (kf := 1) (j := 1) (by decide +kernel) rfl) <|
  fa1 (s_iload_n (kf := 2) (j := 2) (by decide +kernel) rfl) <|
  fa1 (s_iload_n (kf := 3) (j := 3) (by decide +kernel) rfl) <|
  fa1 (s_vcallV (n := 3) (ci := 12) (C := RX12) (T := TX12) (NF := 83) (idx := 473) (y := yX12_tidies) (by decide +kernel) (gg_X12_tidies) rfl (by decide) yv_X12_tidies (all5 w_1815 w_1817 w_94 w_113 w_1818) rfl rfl ⟨by decide, by decide⟩) <|
  fa1 (s_aload_n (kf := 0) (j := 0) (by decide +kernel) rfl) <|
  fa1 (s_iload_n (kf := 1) (j := 1) (by decide +kernel) rfl) <|
  fa1 (s_iload (j := 4) (by decide +kernel)) <|
  fa1 (s_vcallI (n := 2) (ci := 12) (C := RX12) (T := TX12) (NF := 83) (idx := 476) (y := yX12_isKept) (by decide +kernel) (gg_X12_isKept) rfl (by decide) yv_X12_isKept (all5 w_1830 w_1832 w_97 w_113 w_1833) rfl rfl ⟨by decide, by decide⟩) <|
  fa1 (s_zret (by decide +kernel) rfl) <| fa0
theorem gg_X12_isSide {G : Wp} {l : Launch} : GoodM loR G l yX12_isSide cX12_isSide 5 (some .boolean) rm_X12_isSide f_X12_isSide := met_of kt_X12_isSide (lkp_snd (ks_X12_isSide G l)) (by decide +kernel) rfl (by decide)
noncomputable def k_X12_areLike : List (Nat × Ins) := [
  (0, i_iload 1 3),
  (1, i_push 2 (.inl 3)),
  (2, i_cmple 5 9),
  (5, i_push 6 (.inl 1)),
  (6, i_goto 10),
  (9, i_push 10 (.inl 0)),
  (10, i_istore 12 4),
  (12, i_iload 13 3),
  (13, i_push 14 (.inl 2)),
  (14, i_bin 15 bAnd),
  (15, i_push 16 (.inl 2)),
  (16, i_cmpne 19 23),
  (19, i_push 20 (.inl 1)),
  (20, i_goto 24),
  (23, i_push 24 (.inl 0)),
  (24, i_istore 26 5),
  (26, i_push 27 (.inl 0)),
  (27, i_istore 29 6),
  (29, i_iload 31 6),
  (31, i_push 32 (.inl 2)),
  (32, i_cmpge 35 65),
  (35, i_aload 36 0),
  (36, i_iload 38 6),
  (38, i_iload 39 1),
  (39, i_iload 41 6),
  (41, i_iload 43 4),
  (43, i_callV 46 5 (rcv 12) f_X12_widens),
  (46, i_aload 47 0),
  (47, i_push 48 (.inl 2)),
  (48, i_iload 50 6),
  (50, i_bin 51 (fun x y => wr (x + y))),
  (51, i_iload 52 2),
  (52, i_iload 54 6),
  (54, i_iload 56 4),
  (56, i_callV 59 5 (rcv 12) f_X12_widens),
  (59, i_iinc 62 6 (1)),
  (62, i_goto 29),
  (65, i_push 66 (.inl 1)),
  (66, i_istore 68 6),
  (68, i_push 69 (.inl 0)),
  (69, i_istore 71 7),
  (71, i_iload 73 7),
  (73, i_push 74 (.inl 4)),
  (74, i_cmpge 77 108),
  (77, i_iload 79 6),
  (79, i_ifeq 82 99),
  (82, i_aload 83 0),
  (83, i_getR 86 12 20 (fun _ => 45)),
  (86, i_iload 88 7),
  (88, i_ald 89 20 lnR),
  (89, i_push 92 (.inl 200)),
  (92, i_cmpgt 95 99),
  (95, i_push 96 (.inl 1)),
  (96, i_goto 100),
  (99, i_push 100 (.inl 0)),
  (100, i_istore 102 6),
  (102, i_iinc 105 7 (1)),
  (105, i_goto 71),
  (108, i_iload 110 6),
  (110, i_ifne 113 115),
  (113, i_push 114 (.inl 0)),
  (114, i_zret),
  (115, i_push 116 (.inl 0)),
  (116, i_istore 118 7),
  (118, i_iload 120 7),
  (120, i_push 121 (.inl 2)),
  (121, i_cmpge 124 185),
  (124, i_aload 125 0),
  (125, i_push 126 (.inl 2)),
  (126, i_iload 128 7),
  (128, i_bin 129 (fun x y => wr (x + y))),
  (129, i_push 130 (.inl 0)),
  (130, i_iload 132 5),
  (132, i_callV 135 4 (rcv 12) f_X12_tidies),
  (135, i_push 136 (.inl 0)),
  (136, i_istore 138 8),
  (138, i_iload 140 8),
  (140, i_aload 141 0),
  (141, i_getR 144 12 20 (fun _ => 45)),
  (144, i_push 145 (.inl 2)),
  (145, i_iload 147 7),
  (147, i_bin 148 (fun x y => wr (x + y))),
  (148, i_ald 149 20 lnR),
  (149, i_cmpge 152 179),
  (152, i_aload 153 0),
  (153, i_getR 156 12 20 (fun _ => 50)),
  (156, i_push 159 (.inl 200)),
  (159, i_iload 161 7),
  (161, i_bin 162 (fun x y => wr (x * y))),
  (162, i_iload 164 8),
  (164, i_bin 165 (fun x y => wr (x + y))),
  (165, i_aload 166 0),
  (166, i_getR 169 12 20 (fun _ => 48)),
  (169, i_iload 171 8),
  (171, i_ald 172 20 lnR),
  (172, i_ast 173 20 lnR id),
  (173, i_iinc 176 8 (1)),
  (176, i_goto 138),
  (179, i_iinc 182 7 (1)),
  (182, i_goto 118),
  (185, i_push 186 (.inl 0)),
  (186, i_istore 188 7),
  (188, i_push 189 (.inl 0)),
  (189, i_istore 191 8),
  (191, i_iload 193 8),
  (193, i_push 195 (.inl 6)),
  (195, i_cmpge 198 287),
  (198, i_iload 200 7),
  (200, i_ifne 203 287),
  (203, i_aload 204 0),
  (204, i_push 205 (.inl 0)),
  (205, i_iload 207 8),
  (207, i_iload 209 5),
  (209, i_push 210 (.inl 0)),
  (210, i_callI 213 5 (rcv 12) f_X12_isSide),
  (213, i_ifeq 216 233),
  (216, i_aload 217 0),
  (217, i_push 218 (.inl 1)),
  (218, i_iload 220 8),
  (220, i_iload 222 5),
  (222, i_push 223 (.inl 1)),
  (223, i_callI 226 5 (rcv 12) f_X12_isSide),
  (226, i_ifeq 229 233),
  (229, i_push 230 (.inl 1)),
  (230, i_goto 234),
  (233, i_push 234 (.inl 0)),
  (234, i_istore 236 7),
  (236, i_iload 238 7),
  (238, i_ifne 241 274),
  (241, i_iload 242 3),
  (242, i_push 243 (.inl 2)),
  (243, i_div 244 bRem),
  (244, i_push 245 (.inl 1)),
  (245, i_cmpne 248 278),
  (248, i_aload 249 0),
  (249, i_push 250 (.inl 0)),
  (250, i_iload 252 8),
  (252, i_iload 254 5),
  (254, i_push 255 (.inl 1)),
  (255, i_callI 258 5 (rcv 12) f_X12_isSide),
  (258, i_ifeq 261 278),
  (261, i_aload 262 0),
  (262, i_push 263 (.inl 1)),
  (263, i_iload 265 8),
  (265, i_iload 267 5),
  (267, i_push 268 (.inl 0)),
  (268, i_callI 271 5 (rcv 12) f_X12_isSide),
  (271, i_ifeq 274 278),
  (274, i_push 275 (.inl 1)),
  (275, i_goto 279),
  (278, i_push 279 (.inl 0)),
  (279, i_istore 281 7),
  (281, i_iinc 284 8 (1)),
  (284, i_goto 191),
  (287, i_iload 289 7),
  (289, i_zret)]
noncomputable def kc_X12_areLike : Nat → Option Ins := lkp k_X12_areLike
noncomputable def f_X12_areLike : List AV → Mem → Option Rs := den 9 kc_X12_areLike
abbrev rm_X12_areLike : Room := { frames := 5, cells := 0, slots := 0, locals := 125 }
set_option maxRecDepth 100000 in
theorem kt_X12_areLike : TriC kc_X12_areLike := lkp_tri (fa1 (tri_iload 1 3) (fa1 (tri_push 2 (.inl 3)) (fa1 (tri_cmple 5 9) (fa1 (tri_push 6 (.inl 1)) (fa1 (tri_goto 10) (fa1 (tri_push 10 (.inl 0)) (fa1 (tri_istore 12 4) (fa1 (tri_iload 13 3) (fa1 (tri_push 14 (.inl 2)) (fa1 (tri_bin 15 bAnd) (fa1 (tri_push 16 (.inl 2)) (fa1 (tri_cmpne 19 23) (fa1 (tri_push 20 (.inl 1)) (fa1 (tri_goto 24) (fa1 (tri_push 24 (.inl 0)) (fa1 (tri_istore 26 5) (fa1 (tri_push 27 (.inl 0)) (fa1 (tri_istore 29 6) (fa1 (tri_iload 31 6) (fa1 (tri_push 32 (.inl 2)) (fa1 (tri_cmpge 35 65) (fa1 (tri_aload 36 0) (fa1 (tri_iload 38 6) (fa1 (tri_iload 39 1) (fa1 (tri_iload 41 6) (fa1 (tri_iload 43 4) (fa1 (tri_callV 46 5 (rcv 12) f_X12_widens) (fa1 (tri_aload 47 0) (fa1 (tri_push 48 (.inl 2)) (fa1 (tri_iload 50 6) (fa1 (tri_bin 51 (fun x y => wr (x + y))) (fa1 (tri_iload 52 2) (fa1 (tri_iload 54 6) (fa1 (tri_iload 56 4) (fa1 (tri_callV 59 5 (rcv 12) f_X12_widens) (fa1 (tri_iinc 62 6 (1)) (fa1 (tri_goto 29) (fa1 (tri_push 66 (.inl 1)) (fa1 (tri_istore 68 6) (fa1 (tri_push 69 (.inl 0)) (fa1 (tri_istore 71 7) (fa1 (tri_iload 73 7) (fa1 (tri_push 74 (.inl 4)) (fa1 (tri_cmpge 77 108) (fa1 (tri_iload 79 6) (fa1 (tri_ifeq 82 99) (fa1 (tri_aload 83 0) (fa1 (tri_getR 86 12 20 (fun _ => 45)) (fa1 (tri_iload 88 7) (fa1 (tri_ald 89 20 lnR) (fa1 (tri_push 92 (.inl 200)) (fa1 (tri_cmpgt 95 99) (fa1 (tri_push 96 (.inl 1)) (fa1 (tri_goto 100) (fa1 (tri_push 100 (.inl 0)) (fa1 (tri_istore 102 6) (fa1 (tri_iinc 105 7 (1)) (fa1 (tri_goto 71) (fa1 (tri_iload 110 6) (fa1 (tri_ifne 113 115) (fa1 (tri_push 114 (.inl 0)) (fa1 (tri_zret) (fa1 (tri_push 116 (.inl 0)) (fa1 (tri_istore 118 7) (fa1 (tri_iload 120 7) (fa1 (tri_push 121 (.inl 2)) (fa1 (tri_cmpge 124 185) (fa1 (tri_aload 125 0) (fa1 (tri_push 126 (.inl 2)) (fa1 (tri_iload 128 7) (fa1 (tri_bin 129 (fun x y => wr (x + y))) (fa1 (tri_push 130 (.inl 0)) (fa1 (tri_iload 132 5) (fa1 (tri_callV 135 4 (rcv 12) f_X12_tidies) (fa1 (tri_push 136 (.inl 0)) (fa1 (tri_istore 138 8) (fa1 (tri_iload 140 8) (fa1 (tri_aload 141 0) (fa1 (tri_getR 144 12 20 (fun _ => 45)) (fa1 (tri_push 145 (.inl 2)) (fa1 (tri_iload 147 7) (fa1 (tri_bin 148 (fun x y => wr (x + y))) (fa1 (tri_ald 149 20 lnR) (fa1 (tri_cmpge 152 179) (fa1 (tri_aload 153 0) (fa1 (tri_getR 156 12 20 (fun _ => 50)) (fa1 (tri_push 159 (.inl 200)) (fa1 (tri_iload 161 7) (fa1 (tri_bin 162 (fun x y => wr (x * y))) (fa1 (tri_iload 164 8) (fa1 (tri_bin 165 (fun x y => wr (x + y))) (fa1 (tri_aload 166 0) (fa1 (tri_getR 169 12 20 (fun _ => 48)) (fa1 (tri_iload 171 8) (fa1 (tri_ald 172 20 lnR) (fa1 (tri_ast 173 20 lnR id) (fa1 (tri_iinc 176 8 (1)) (fa1 (tri_goto 138) (fa1 (tri_iinc 182 7 (1)) (fa1 (tri_goto 118) (fa1 (tri_push 186 (.inl 0)) (fa1 (tri_istore 188 7) (fa1 (tri_push 189 (.inl 0)) (fa1 (tri_istore 191 8) (fa1 (tri_iload 193 8) (fa1 (tri_push 195 (.inl 6)) (fa1 (tri_cmpge 198 287) (fa1 (tri_iload 200 7) (fa1 (tri_ifne 203 287) (fa1 (tri_aload 204 0) (fa1 (tri_push 205 (.inl 0)) (fa1 (tri_iload 207 8) (fa1 (tri_iload 209 5) (fa1 (tri_push 210 (.inl 0)) (fa1 (tri_callI 213 5 (rcv 12) f_X12_isSide) (fa1 (tri_ifeq 216 233) (fa1 (tri_aload 217 0) (fa1 (tri_push 218 (.inl 1)) (fa1 (tri_iload 220 8) (fa1 (tri_iload 222 5) (fa1 (tri_push 223 (.inl 1)) (fa1 (tri_callI 226 5 (rcv 12) f_X12_isSide) (fa1 (tri_ifeq 229 233) (fa1 (tri_push 230 (.inl 1)) (fa1 (tri_goto 234) (fa1 (tri_push 234 (.inl 0)) (fa1 (tri_istore 236 7) (fa1 (tri_iload 238 7) (fa1 (tri_ifne 241 274) (fa1 (tri_iload 242 3) (fa1 (tri_push 243 (.inl 2)) (fa1 (tri_div 244 bRem) (fa1 (tri_push 245 (.inl 1)) (fa1 (tri_cmpne 248 278) (fa1 (tri_aload 249 0) (fa1 (tri_push 250 (.inl 0)) (fa1 (tri_iload 252 8) (fa1 (tri_iload 254 5) (fa1 (tri_push 255 (.inl 1)) (fa1 (tri_callI 258 5 (rcv 12) f_X12_isSide) (fa1 (tri_ifeq 261 278) (fa1 (tri_aload 262 0) (fa1 (tri_push 263 (.inl 1)) (fa1 (tri_iload 265 8) (fa1 (tri_iload 267 5) (fa1 (tri_push 268 (.inl 0)) (fa1 (tri_callI 271 5 (rcv 12) f_X12_isSide) (fa1 (tri_ifeq 274 278) (fa1 (tri_push 275 (.inl 1)) (fa1 (tri_goto 279) (fa1 (tri_push 279 (.inl 0)) (fa1 (tri_istore 281 7) (fa1 (tri_iinc 284 8 (1)) (fa1 (tri_goto 191) (fa1 (tri_iload 289 7) (fa1 (tri_zret) (fa0)))))))))))))))))))))))))))))))))))))))))))))))))))))))))))))))))))))))))))))))))))))))))))))))))))))))))))))))))))))))))))))))))))))))))))))))))))))))))))))
set_option maxRecDepth 100000 in
set_option maxHeartbeats 4000000 in
theorem ks_X12_areLike (G : Wp) (l : Launch) : ∀ e ∈ k_X12_areLike, Snd loR G l RX12 cX12_areLike 9 (some .boolean) rm_X12_areLike e.1 e.2 :=
  fa1 (s_iload_n (kf := 3) (j := 3) (by decide +kernel) rfl) <|
  fa1 (s_iconst (n := 3) (v := 3) (by decide +kernel) (by decide +kernel) (p32 rfl)) <|
  fa1 (s_cmple (off := 7) (by decide +kernel) (by decide)) <|
  fa1 (s_iconst (n := 1) (v := 1) (by decide +kernel) (by decide +kernel) (p32 rfl)) <|
  fa1 (s_goto (off := 4) (by decide +kernel) (by decide)) <|
  fa1 (s_iconst (n := 0) (v := 0) (by decide +kernel) (by decide +kernel) (p32 rfl)) <|
  fa1 (s_istore (j := 4) (by decide +kernel) (by decide)) <|
  fa1 (s_iload_n (kf := 3) (j := 3) (by decide +kernel) rfl) <|
  fa1 (s_iconst (n := 2) (v := 2) (by decide +kernel) (by decide +kernel) (p32 rfl)) <|
  fa1 (s_iand (by decide +kernel)) <|
  fa1 (s_iconst (n := 2) (v := 2) (by decide +kernel) (by decide +kernel) (p32 rfl)) <|
  fa1 (s_cmpne (off := 7) (by decide +kernel) (by decide)) <|
  fa1 (s_iconst (n := 1) (v := 1) (by decide +kernel) (by decide +kernel) (p32 rfl)) <|
  fa1 (s_goto (off := 4) (by decide +kernel) (by decide)) <|
  fa1 (s_iconst (n := 0) (v := 0) (by decide +kernel) (by decide +kernel) (p32 rfl)) <|
  fa1 (s_istore (j := 5) (by decide +kernel) (by decide)) <|
  fa1 (s_iconst (n := 0) (v := 0) (by decide +kernel) (by decide +kernel) (p32 rfl)) <|
  fa1 (s_istore (j := 6) (by decide +kernel) (by decide)) <|
  fa1 (s_iload (j := 6) (by decide +kernel)) <|
  fa1 (s_iconst (n := 2) (v := 2) (by decide +kernel) (by decide +kernel) (p32 rfl)) <|
  fa1 (s_cmpge (off := 33) (by decide +kernel) (by decide)) <|
  fa1 (s_aload_n (kf := 0) (j := 0) (by decide +kernel) rfl) <|
  fa1 (s_iload (j := 6) (by decide +kernel)) <|
  fa1 (s_iload_n (kf := 1) (j := 1) (by decide +kernel) rfl) <|
  fa1 (s_iload (j := 6) (by decide +kernel)) <|
  fa1 (s_iload (j := 4) (by decide +kernel)) <|
  fa1 (s_vcallV (n := 4) (ci := 12) (C := RX12) (T := TX12) (NF := 83) (idx := 479) (y := yX12_widens) (by decide +kernel) (gg_X12_widens) rfl (by decide) yv_X12_widens (all5 w_1799 w_1801 w_90 w_113 w_1802) rfl rfl ⟨by decide, by decide⟩) <|
  fa1 (s_aload_n (kf := 0) (j := 0) (by decide +kernel) rfl) <|
  fa1 (s_iconst (n := 2) (v := 2) (by decide +kernel) (by decide +kernel) (p32 rfl)) <|
  fa1 (s_iload (j := 6) (by decide +kernel)) <|
  fa1 (s_iadd (by decide +kernel)) <|
  fa1 (s_iload_n (kf := 2) (j := 2) (by decide +kernel) rfl) <|
  fa1 (s_iload (j := 6) (by decide +kernel)) <|
  fa1 (s_iload (j := 4) (by decide +kernel)) <|
  fa1 (s_vcallV (n := 4) (ci := 12) (C := RX12) (T := TX12) (NF := 83) (idx := 479) (y := yX12_widens) (by decide +kernel) (gg_X12_widens) rfl (by decide) yv_X12_widens (all5 w_1799 w_1801 w_90 w_113 w_1802) rfl rfl ⟨by decide, by decide⟩) <|
  fa1 (s_iinc (j := 6) (d := 1) (by decide +kernel) (by decide)) <|
  fa1 (s_goto (off := -33) (by decide +kernel) (by decide)) <|
  fa1 (s_iconst (n := 1) (v := 1) (by decide +kernel) (by decide +kernel) (p32 rfl)) <|
  fa1 (s_istore (j := 6) (by decide +kernel) (by decide)) <|
  fa1 (s_iconst (n := 0) (v := 0) (by decide +kernel) (by decide +kernel) (p32 rfl)) <|
  fa1 (s_istore (j := 7) (by decide +kernel) (by decide)) <|
  fa1 (s_iload (j := 7) (by decide +kernel)) <|
  fa1 (s_iconst (n := 4) (v := 4) (by decide +kernel) (by decide +kernel) (p32 rfl)) <|
  fa1 (s_cmpge (off := 34) (by decide +kernel) (by decide)) <|
  fa1 (s_iload (j := 6) (by decide +kernel)) <|
  fa1 (s_ifeq (off := 20) (by decide +kernel) (by decide)) <|
  fa1 (s_aload_n (kf := 0) (j := 0) (by decide +kernel) rfl) <|
  fa1 (s_getR (t2 := 20) (g := (fun _ => 45)) (ci := 12) (f := 72) (idx := 147) (C := RX12) (T := TX12) (NF := 83) (by decide +kernel) rfl (by decide) inG_X12 (by decide) w_1310 lr_X12_72 (by decide)) <|
  fa1 (s_iload (j := 7) (by decide +kernel)) <|
  fa1 (s_iald (by decide +kernel)) <|
  fa1 (s_sipush (n := 200) (v := 200) (by decide +kernel) (by decide +kernel) (p32 rfl)) <|
  fa1 (s_cmpgt (off := 7) (by decide +kernel) (by decide)) <|
  fa1 (s_iconst (n := 1) (v := 1) (by decide +kernel) (by decide +kernel) (p32 rfl)) <|
  fa1 (s_goto (off := 4) (by decide +kernel) (by decide)) <|
  fa1 (s_iconst (n := 0) (v := 0) (by decide +kernel) (by decide +kernel) (p32 rfl)) <|
  fa1 (s_istore (j := 6) (by decide +kernel) (by decide)) <|
  fa1 (s_iinc (j := 7) (d := 1) (by decide +kernel) (by decide)) <|
  fa1 (s_goto (off := -34) (by decide +kernel) (by decide)) <|
  fa1 (s_iload (j := 6) (by decide +kernel)) <|
  fa1 (s_ifne (off := 5) (by decide +kernel) (by decide)) <|
  fa1 (s_iconst (n := 0) (v := 0) (by decide +kernel) (by decide +kernel) (p32 rfl)) <|
  fa1 (s_zret (by decide +kernel) rfl) <|
  fa1 (s_iconst (n := 0) (v := 0) (by decide +kernel) (by decide +kernel) (p32 rfl)) <|
  fa1 (s_istore (j := 7) (by decide +kernel) (by decide)) <|
  fa1 (s_iload (j := 7) (by decide +kernel)) <|
  fa1 (s_iconst (n := 2) (v := 2) (by decide +kernel) (by decide +kernel) (p32 rfl)) <|
  fa1 (s_cmpge (off := 64) (by decide +kernel) (by decide)) <|
  fa1 (s_aload_n (kf := 0) (j := 0) (by decide +kernel) rfl) <|
  fa1 (s_iconst (n := 2) (v := 2) (by decide +kernel) (by decide +kernel) (p32 rfl)) <|
  fa1 (s_iload (j := 7) (by decide +kernel)) <|
  fa1 (s_iadd (by decide +kernel)) <|
  fa1 (s_iconst (n := 0) (v := 0) (by decide +kernel) (by decide +kernel) (p32 rfl)) <|
  fa1 (s_iload (j := 5) (by decide +kernel)) <|
  fa1 (s_vcallV (n := 3) (ci := 12) (C := RX12) (T := TX12) (NF := 83) (idx := 473) (y := yX12_tidies) (by decide +kernel) (gg_X12_tidies) rfl (by decide) yv_X12_tidies (all5 w_1815 w_1817 w_94 w_113 w_1818) rfl rfl ⟨by decide, by decide⟩) <|
  fa1 (s_iconst (n := 0) (v := 0) (by decide +kernel) (by decide +kernel) (p32 rfl)) <|
  fa1 (s_istore (j := 8) (by decide +kernel) (by decide)) <|
  fa1 (s_iload (j := 8) (by decide +kernel)) <|
  fa1 (s_aload_n (kf := 0) (j := 0) (by decide +kernel) rfl) <|
  fa1 (s_getR (t2 := 20) (g := (fun _ => 45)) (ci := 12) (f := 72) (idx := 147) (C := RX12) (T := TX12) (NF := 83) (by decide +kernel) rfl (by decide) inG_X12 (by decide) w_1310 lr_X12_72 (by decide)) <|
  fa1 (s_iconst (n := 2) (v := 2) (by decide +kernel) (by decide +kernel) (p32 rfl)) <|
  fa1 (s_iload (j := 7) (by decide +kernel)) <|
  fa1 (s_iadd (by decide +kernel)) <|
  fa1 (s_iald (by decide +kernel)) <|
  fa1 (s_cmpge (off := 30) (by decide +kernel) (by decide)) <|
  fa1 (s_aload_n (kf := 0) (j := 0) (by decide +kernel) rfl) <|
  fa1 (s_getR (t2 := 20) (g := (fun _ => 50)) (ci := 12) (f := 79) (idx := 162) (C := RX12) (T := TX12) (NF := 83) (by decide +kernel) rfl (by decide) inG_X12 (by decide) w_1317 lr_X12_79 (by decide)) <|
  fa1 (s_sipush (n := 200) (v := 200) (by decide +kernel) (by decide +kernel) (p32 rfl)) <|
  fa1 (s_iload (j := 7) (by decide +kernel)) <|
  fa1 (s_imul (by decide +kernel)) <|
  fa1 (s_iload (j := 8) (by decide +kernel)) <|
  fa1 (s_iadd (by decide +kernel)) <|
  fa1 (s_aload_n (kf := 0) (j := 0) (by decide +kernel) rfl) <|
  fa1 (s_getR (t2 := 20) (g := (fun _ => 48)) (ci := 12) (f := 77) (idx := 156) (C := RX12) (T := TX12) (NF := 83) (by decide +kernel) rfl (by decide) inG_X12 (by decide) w_1315 lr_X12_77 (by decide)) <|
  fa1 (s_iload (j := 8) (by decide +kernel)) <|
  fa1 (s_iald (by decide +kernel)) <|
  fa1 (s_iast (by decide +kernel) lt_loR_20) <|
  fa1 (s_iinc (j := 8) (d := 1) (by decide +kernel) (by decide)) <|
  fa1 (s_goto (off := -38) (by decide +kernel) (by decide)) <|
  fa1 (s_iinc (j := 7) (d := 1) (by decide +kernel) (by decide)) <|
  fa1 (s_goto (off := -64) (by decide +kernel) (by decide)) <|
  fa1 (s_iconst (n := 0) (v := 0) (by decide +kernel) (by decide +kernel) (p32 rfl)) <|
  fa1 (s_istore (j := 7) (by decide +kernel) (by decide)) <|
  fa1 (s_iconst (n := 0) (v := 0) (by decide +kernel) (by decide +kernel) (p32 rfl)) <|
  fa1 (s_istore (j := 8) (by decide +kernel) (by decide)) <|
  fa1 (s_iload (j := 8) (by decide +kernel)) <|
  fa1 (s_bipush (n := 6) (v := 6) (by decide +kernel) (by decide +kernel) (p32 rfl)) <|
  fa1 (s_cmpge (off := 92) (by decide +kernel) (by decide)) <|
  fa1 (s_iload (j := 7) (by decide +kernel)) <|
  fa1 (s_ifne (off := 87) (by decide +kernel) (by decide)) <|
  fa1 (s_aload_n (kf := 0) (j := 0) (by decide +kernel) rfl) <|
  fa1 (s_iconst (n := 0) (v := 0) (by decide +kernel) (by decide +kernel) (p32 rfl)) <|
  fa1 (s_iload (j := 8) (by decide +kernel)) <|
  fa1 (s_iload (j := 5) (by decide +kernel)) <|
  fa1 (s_iconst (n := 0) (v := 0) (by decide +kernel) (by decide +kernel) (p32 rfl)) <|
  fa1 (s_vcallI (n := 4) (ci := 12) (C := RX12) (T := TX12) (NF := 83) (idx := 483) (y := yX12_isSide) (by decide +kernel) (gg_X12_isSide) rfl (by decide) yv_X12_isSide (all5 w_1826 w_1828 w_96 w_113 w_1829) rfl rfl ⟨by decide, by decide⟩) <|
  fa1 (s_ifeq (off := 20) (by decide +kernel) (by decide)) <|
  fa1 (s_aload_n (kf := 0) (j := 0) (by decide +kernel) rfl) <|
  fa1 (s_iconst (n := 1) (v := 1) (by decide +kernel) (by decide +kernel) (p32 rfl)) <|
  fa1 (s_iload (j := 8) (by decide +kernel)) <|
  fa1 (s_iload (j := 5) (by decide +kernel)) <|
  fa1 (s_iconst (n := 1) (v := 1) (by decide +kernel) (by decide +kernel) (p32 rfl)) <|
  fa1 (s_vcallI (n := 4) (ci := 12) (C := RX12) (T := TX12) (NF := 83) (idx := 483) (y := yX12_isSide) (by decide +kernel) (gg_X12_isSide) rfl (by decide) yv_X12_isSide (all5 w_1826 w_1828 w_96 w_113 w_1829) rfl rfl ⟨by decide, by decide⟩) <|
  fa1 (s_ifeq (off := 7) (by decide +kernel) (by decide)) <|
  fa1 (s_iconst (n := 1) (v := 1) (by decide +kernel) (by decide +kernel) (p32 rfl)) <|
  fa1 (s_goto (off := 4) (by decide +kernel) (by decide)) <|
  fa1 (s_iconst (n := 0) (v := 0) (by decide +kernel) (by decide +kernel) (p32 rfl)) <|
  fa1 (s_istore (j := 7) (by decide +kernel) (by decide)) <|
  fa1 (s_iload (j := 7) (by decide +kernel)) <|
  fa1 (s_ifne (off := 36) (by decide +kernel) (by decide)) <|
  fa1 (s_iload_n (kf := 3) (j := 3) (by decide +kernel) rfl) <|
  fa1 (s_iconst (n := 2) (v := 2) (by decide +kernel) (by decide +kernel) (p32 rfl)) <|
  fa1 (s_irem (by decide +kernel)) <|
  fa1 (s_iconst (n := 1) (v := 1) (by decide +kernel) (by decide +kernel) (p32 rfl)) <|
  fa1 (s_cmpne (off := 33) (by decide +kernel) (by decide)) <|
  fa1 (s_aload_n (kf := 0) (j := 0) (by decide +kernel) rfl) <|
  fa1 (s_iconst (n := 0) (v := 0) (by decide +kernel) (by decide +kernel) (p32 rfl)) <|
  fa1 (s_iload (j := 8) (by decide +kernel)) <|
  fa1 (s_iload (j := 5) (by decide +kernel)) <|
  fa1 (s_iconst (n := 1) (v := 1) (by decide +kernel) (by decide +kernel) (p32 rfl)) <|
  fa1 (s_vcallI (n := 4) (ci := 12) (C := RX12) (T := TX12) (NF := 83) (idx := 483) (y := yX12_isSide) (by decide +kernel) (gg_X12_isSide) rfl (by decide) yv_X12_isSide (all5 w_1826 w_1828 w_96 w_113 w_1829) rfl rfl ⟨by decide, by decide⟩) <|
  fa1 (s_ifeq (off := 20) (by decide +kernel) (by decide)) <|
  fa1 (s_aload_n (kf := 0) (j := 0) (by decide +kernel) rfl) <|
  fa1 (s_iconst (n := 1) (v := 1) (by decide +kernel) (by decide +kernel) (p32 rfl)) <|
  fa1 (s_iload (j := 8) (by decide +kernel)) <|
  fa1 (s_iload (j := 5) (by decide +kernel)) <|
  fa1 (s_iconst (n := 0) (v := 0) (by decide +kernel) (by decide +kernel) (p32 rfl)) <|
  fa1 (s_vcallI (n := 4) (ci := 12) (C := RX12) (T := TX12) (NF := 83) (idx := 483) (y := yX12_isSide) (by decide +kernel) (gg_X12_isSide) rfl (by decide) yv_X12_isSide (all5 w_1826 w_1828 w_96 w_113 w_1829) rfl rfl ⟨by decide, by decide⟩) <|
  fa1 (s_ifeq (off := 7) (by decide +kernel) (by decide)) <|
  fa1 (s_iconst (n := 1) (v := 1) (by decide +kernel) (by decide +kernel) (p32 rfl)) <|
  fa1 (s_goto (off := 4) (by decide +kernel) (by decide)) <|
  fa1 (s_iconst (n := 0) (v := 0) (by decide +kernel) (by decide +kernel) (p32 rfl)) <|
  fa1 (s_istore (j := 7) (by decide +kernel) (by decide)) <|
  fa1 (s_iinc (j := 8) (d := 1) (by decide +kernel) (by decide)) <|
  fa1 (s_goto (off := -93) (by decide +kernel) (by decide)) <|
  fa1 (s_iload (j := 7) (by decide +kernel)) <|
  fa1 (s_zret (by decide +kernel) rfl) <| fa0
theorem gg_X12_areLike {G : Wp} {l : Launch} : GoodM loR G l yX12_areLike cX12_areLike 9 (some .boolean) rm_X12_areLike f_X12_areLike := met_of kt_X12_areLike (lkp_snd (ks_X12_areLike G l)) (by decide +kernel) rfl (by decide)
noncomputable def k_X12_like : List (Nat × Ins) := [
  (0, i_aload 1 0),
  (1, i_iload 2 1),
  (2, i_callI 5 2 (rcv 12) f_X12_isSaying),
  (5, i_ifeq 8 28),
  (8, i_aload 9 0),
  (9, i_iload 10 2),
  (10, i_callI 13 2 (rcv 12) f_X12_isSaying),
  (13, i_ifeq 16 28),
  (16, i_iload 17 3),
  (17, i_i2l 18),
  (18, i_push 19 (.inr (.inl 0))),
  (19, i_push 22 (.inr (.inl (7)))),
  (22, i_callI 25 3 anyv f_X12_in),
  (25, i_ifne 28 32),
  (28, i_push 29 (.inl (-1))),
  (29, i_goto 47),
  (32, i_aload 33 0),
  (33, i_iload 34 1),
  (34, i_iload 35 2),
  (35, i_iload 36 3),
  (36, i_callI 39 4 (rcv 12) f_X12_areLike),
  (39, i_ifeq 42 46),
  (42, i_push 43 (.inl 1)),
  (43, i_goto 47),
  (46, i_push 47 (.inl 0)),
  (47, i_iret)]
noncomputable def kc_X12_like : Nat → Option Ins := lkp k_X12_like
noncomputable def f_X12_like : List AV → Mem → Option Rs := den 4 kc_X12_like
abbrev rm_X12_like : Room := { frames := 6, cells := 0, slots := 0, locals := 153 }
set_option maxRecDepth 100000 in
theorem kt_X12_like : TriC kc_X12_like := lkp_tri (fa1 (tri_aload 1 0) (fa1 (tri_iload 2 1) (fa1 (tri_callI 5 2 (rcv 12) f_X12_isSaying) (fa1 (tri_ifeq 8 28) (fa1 (tri_aload 9 0) (fa1 (tri_iload 10 2) (fa1 (tri_callI 13 2 (rcv 12) f_X12_isSaying) (fa1 (tri_ifeq 16 28) (fa1 (tri_iload 17 3) (fa1 (tri_i2l 18) (fa1 (tri_push 19 (.inr (.inl 0))) (fa1 (tri_push 22 (.inr (.inl (7)))) (fa1 (tri_callI 25 3 anyv f_X12_in) (fa1 (tri_ifne 28 32) (fa1 (tri_push 29 (.inl (-1))) (fa1 (tri_goto 47) (fa1 (tri_aload 33 0) (fa1 (tri_iload 34 1) (fa1 (tri_iload 35 2) (fa1 (tri_iload 36 3) (fa1 (tri_callI 39 4 (rcv 12) f_X12_areLike) (fa1 (tri_ifeq 42 46) (fa1 (tri_push 43 (.inl 1)) (fa1 (tri_goto 47) (fa1 (tri_push 47 (.inl 0)) (fa1 (tri_iret) (fa0)))))))))))))))))))))))))))
set_option maxRecDepth 100000 in
set_option maxHeartbeats 4000000 in
theorem ks_X12_like (G : Wp) (l : Launch) : ∀ e ∈ k_X12_like, Snd loR G l RX12 cX12_like 4 (some .int) rm_X12_like e.1 e.2 :=
  fa1 (s_aload_n (kf := 0) (j := 0) (by decide +kernel) rfl) <|
  fa1 (s_iload_n (kf := 1) (j := 1) (by decide +kernel) rfl) <|
  fa1 (s_vcallI (n := 1) (ci := 12) (C := RX12) (T := TX12) (NF := 83) (idx := 287) (y := yX12_isSaying) (by decide +kernel) (gg_X12_isSaying) rfl (by decide) yv_X12_isSaying (all5 w_1581 w_1583 w_56 w_113 w_1584) rfl rfl ⟨by decide, by decide⟩) <|
  fa1 (s_ifeq (off := 23) (by decide +kernel) (by decide)) <|
  fa1 (s_aload_n (kf := 0) (j := 0) (by decide +kernel) rfl) <|
  fa1 (s_iload_n (kf := 2) (j := 2) (by decide +kernel) rfl) <|
  fa1 (s_vcallI (n := 1) (ci := 12) (C := RX12) (T := TX12) (NF := 83) (idx := 287) (y := yX12_isSaying) (by decide +kernel) (gg_X12_isSaying) rfl (by decide) yv_X12_isSaying (all5 w_1581 w_1583 w_56 w_113 w_1584) rfl rfl ⟨by decide, by decide⟩) <|
  fa1 (s_ifeq (off := 15) (by decide +kernel) (by decide)) <|
  fa1 (s_iload_n (kf := 3) (j := 3) (by decide +kernel) rfl) <|
  fa1 (s_i2l (by decide +kernel)) <|
  fa1 (s_lconst (n := 0) (v := 0) (by decide +kernel) (by decide +kernel) (p64 rfl)) <|
  fa1 (s_ldc2 (idx := 487) (v := 7) (by decide +kernel) w_1794 (p64 rfl)) <|
  fa1 (s_scallI (n := 3) (idx := 187) (y := yX12_in) (by decide +kernel) (gg_X12_in) yv_X12_in (all4 w_1498 w_1499 w_113 w_1500) rfl rfl ⟨by decide, by decide⟩) <|
  fa1 (s_ifne (off := 7) (by decide +kernel) (by decide)) <|
  fa1 (s_iconst (n := -1) (v := -1) (by decide +kernel) (by decide +kernel) (p32 rfl)) <|
  fa1 (s_goto (off := 18) (by decide +kernel) (by decide)) <|
  fa1 (s_aload_n (kf := 0) (j := 0) (by decide +kernel) rfl) <|
  fa1 (s_iload_n (kf := 1) (j := 1) (by decide +kernel) rfl) <|
  fa1 (s_iload_n (kf := 2) (j := 2) (by decide +kernel) rfl) <|
  fa1 (s_iload_n (kf := 3) (j := 3) (by decide +kernel) rfl) <|
  fa1 (s_vcallI (n := 3) (ci := 12) (C := RX12) (T := TX12) (NF := 83) (idx := 489) (y := yX12_areLike) (by decide +kernel) (gg_X12_areLike) rfl (by decide) yv_X12_areLike (all5 w_1795 w_1797 w_89 w_113 w_1798) rfl rfl ⟨by decide, by decide⟩) <|
  fa1 (s_ifeq (off := 7) (by decide +kernel) (by decide)) <|
  fa1 (s_iconst (n := 1) (v := 1) (by decide +kernel) (by decide +kernel) (p32 rfl)) <|
  fa1 (s_goto (off := 4) (by decide +kernel) (by decide)) <|
  fa1 (s_iconst (n := 0) (v := 0) (by decide +kernel) (by decide +kernel) (p32 rfl)) <|
  fa1 (s_iret (by decide +kernel) rfl) <| fa0
theorem gg_X12_like {G : Wp} {l : Launch} : GoodM loR G l yX12_like cX12_like 4 (some .int) rm_X12_like f_X12_like := met_of kt_X12_like (lkp_snd (ks_X12_like G l)) (by decide +kernel) rfl (by decide)
noncomputable def k_X12_find : List (Nat × Ins) := [
  (0, i_aload 1 0),
  (1, i_iload 2 1),
  (2, i_callI 5 2 (rcv 12) f_X12_isSaying),
  (5, i_ifeq 8 30),
  (8, i_iload 9 2),
  (9, i_i2l 10),
  (10, i_push 11 (.inr (.inl 0))),
  (11, i_push 14 (.inr (.inl (7)))),
  (14, i_callI 17 3 anyv f_X12_in),
  (17, i_ifeq 20 30),
  (20, i_iload 21 3),
  (21, i_i2l 22),
  (22, i_push 23 (.inr (.inl 0))),
  (23, i_push 24 (.inr (.inl 1))),
  (24, i_callI 27 3 anyv f_X12_in),
  (27, i_ifne 30 32),
  (30, i_push 31 (.inl (-1))),
  (31, i_iret),
  (32, i_push 33 (.inl 0)),
  (33, i_istore 35 4),
  (35, i_push 37 (.inl (-4))),
  (37, i_istore 39 5),
  (39, i_push 40 (.inl 0)),
  (40, i_istore 42 6),
  (42, i_iload 44 6),
  (44, i_aload 45 0),
  (45, i_getI 48 12 5),
  (48, i_cmpge 51 117),
  (51, i_iload 53 6),
  (53, i_iload 54 1),
  (54, i_cmpeq 57 72),
  (57, i_aload 58 0),
  (58, i_iload 59 1),
  (59, i_iload 61 6),
  (61, i_iload 62 2),
  (62, i_callI 65 4 (rcv 12) f_X12_areLike),
  (65, i_ifeq 68 72),
  (68, i_push 69 (.inl 1)),
  (69, i_goto 73),
  (72, i_push 73 (.inl 0)),
  (73, i_istore 75 7),
  (75, i_iload 77 4),
  (77, i_iload 79 7),
  (79, i_ifeq 82 86),
  (82, i_push 83 (.inl 1)),
  (83, i_goto 87),
  (86, i_push 87 (.inl 0)),
  (87, i_bin 88 (fun x y => wr (x + y))),
  (88, i_istore 90 4),
  (90, i_iload 92 7),
  (92, i_ifeq 95 107),
  (95, i_iload 97 5),
  (97, i_push 99 (.inl (-4))),
  (99, i_cmpne 102 107),
  (102, i_iload 104 6),
  (104, i_goto 109),
  (107, i_iload 109 5),
  (109, i_istore 111 5),
  (111, i_iinc 114 6 (1)),
  (114, i_goto 42),
  (117, i_iload 118 3),
  (118, i_ifne 121 126),
  (121, i_iload 123 4),
  (123, i_goto 128),
  (126, i_iload 128 5),
  (128, i_iret)]
noncomputable def kc_X12_find : Nat → Option Ins := lkp k_X12_find
noncomputable def f_X12_find : List AV → Mem → Option Rs := den 8 kc_X12_find
abbrev rm_X12_find : Room := { frames := 6, cells := 0, slots := 0, locals := 153 }
set_option maxRecDepth 100000 in
theorem kt_X12_find : TriC kc_X12_find := lkp_tri (fa1 (tri_aload 1 0) (fa1 (tri_iload 2 1) (fa1 (tri_callI 5 2 (rcv 12) f_X12_isSaying) (fa1 (tri_ifeq 8 30) (fa1 (tri_iload 9 2) (fa1 (tri_i2l 10) (fa1 (tri_push 11 (.inr (.inl 0))) (fa1 (tri_push 14 (.inr (.inl (7)))) (fa1 (tri_callI 17 3 anyv f_X12_in) (fa1 (tri_ifeq 20 30) (fa1 (tri_iload 21 3) (fa1 (tri_i2l 22) (fa1 (tri_push 23 (.inr (.inl 0))) (fa1 (tri_push 24 (.inr (.inl 1))) (fa1 (tri_callI 27 3 anyv f_X12_in) (fa1 (tri_ifne 30 32) (fa1 (tri_push 31 (.inl (-1))) (fa1 (tri_iret) (fa1 (tri_push 33 (.inl 0)) (fa1 (tri_istore 35 4) (fa1 (tri_push 37 (.inl (-4))) (fa1 (tri_istore 39 5) (fa1 (tri_push 40 (.inl 0)) (fa1 (tri_istore 42 6) (fa1 (tri_iload 44 6) (fa1 (tri_aload 45 0) (fa1 (tri_getI 48 12 5) (fa1 (tri_cmpge 51 117) (fa1 (tri_iload 53 6) (fa1 (tri_iload 54 1) (fa1 (tri_cmpeq 57 72) (fa1 (tri_aload 58 0) (fa1 (tri_iload 59 1) (fa1 (tri_iload 61 6) (fa1 (tri_iload 62 2) (fa1 (tri_callI 65 4 (rcv 12) f_X12_areLike) (fa1 (tri_ifeq 68 72) (fa1 (tri_push 69 (.inl 1)) (fa1 (tri_goto 73) (fa1 (tri_push 73 (.inl 0)) (fa1 (tri_istore 75 7) (fa1 (tri_iload 77 4) (fa1 (tri_iload 79 7) (fa1 (tri_ifeq 82 86) (fa1 (tri_push 83 (.inl 1)) (fa1 (tri_goto 87) (fa1 (tri_push 87 (.inl 0)) (fa1 (tri_bin 88 (fun x y => wr (x + y))) (fa1 (tri_istore 90 4) (fa1 (tri_iload 92 7) (fa1 (tri_ifeq 95 107) (fa1 (tri_iload 97 5) (fa1 (tri_push 99 (.inl (-4))) (fa1 (tri_cmpne 102 107) (fa1 (tri_iload 104 6) (fa1 (tri_goto 109) (fa1 (tri_iload 109 5) (fa1 (tri_istore 111 5) (fa1 (tri_iinc 114 6 (1)) (fa1 (tri_goto 42) (fa1 (tri_iload 118 3) (fa1 (tri_ifne 121 126) (fa1 (tri_iload 123 4) (fa1 (tri_goto 128) (fa1 (tri_iload 128 5) (fa1 (tri_iret) (fa0)))))))))))))))))))))))))))))))))))))))))))))))))))))))))))))))))))
set_option maxRecDepth 100000 in
set_option maxHeartbeats 4000000 in
theorem ks_X12_find (G : Wp) (l : Launch) : ∀ e ∈ k_X12_find, Snd loR G l RX12 cX12_find 8 (some .int) rm_X12_find e.1 e.2 :=
  fa1 (s_aload_n (kf := 0) (j := 0) (by decide +kernel) rfl) <|
  fa1 (s_iload_n (kf := 1) (j := 1) (by decide +kernel) rfl) <|
  fa1 (s_vcallI (n := 1) (ci := 12) (C := RX12) (T := TX12) (NF := 83) (idx := 287) (y := yX12_isSaying) (by decide +kernel) (gg_X12_isSaying) rfl (by decide) yv_X12_isSaying (all5 w_1581 w_1583 w_56 w_113 w_1584) rfl rfl ⟨by decide, by decide⟩) <|
  fa1 (s_ifeq (off := 25) (by decide +kernel) (by decide)) <|
  fa1 (s_iload_n (kf := 2) (j := 2) (by decide +kernel) rfl) <|
  fa1 (s_i2l (by decide +kernel)) <|
  fa1 (s_lconst (n := 0) (v := 0) (by decide +kernel) (by decide +kernel) (p64 rfl)) <|
  fa1 (s_ldc2 (idx := 487) (v := 7) (by decide +kernel) w_1794 (p64 rfl)) <|
  fa1 (s_scallI (n := 3) (idx := 187) (y := yX12_in) (by decide +kernel) (gg_X12_in) yv_X12_in (all4 w_1498 w_1499 w_113 w_1500) rfl rfl ⟨by decide, by decide⟩) <|
  fa1 (s_ifeq (off := 13) (by decide +kernel) (by decide)) <|
  fa1 (s_iload_n (kf := 3) (j := 3) (by decide +kernel) rfl) <|
  fa1 (s_i2l (by decide +kernel)) <|
  fa1 (s_lconst (n := 0) (v := 0) (by decide +kernel) (by decide +kernel) (p64 rfl)) <|
  fa1 (s_lconst (n := 1) (v := 1) (by decide +kernel) (by decide +kernel) (p64 rfl)) <|
  fa1 (s_scallI (n := 3) (idx := 187) (y := yX12_in) (by decide +kernel) (gg_X12_in) yv_X12_in (all4 w_1498 w_1499 w_113 w_1500) rfl rfl ⟨by decide, by decide⟩) <|
  fa1 (s_ifne (off := 5) (by decide +kernel) (by decide)) <|
  fa1 (s_iconst (n := -1) (v := -1) (by decide +kernel) (by decide +kernel) (p32 rfl)) <|
  fa1 (s_iret (by decide +kernel) rfl) <|
  fa1 (s_iconst (n := 0) (v := 0) (by decide +kernel) (by decide +kernel) (p32 rfl)) <|
  fa1 (s_istore (j := 4) (by decide +kernel) (by decide)) <|
  fa1 (s_bipush (n := -4) (v := -4) (by decide +kernel) (by decide +kernel) (p32 rfl)) <|
  fa1 (s_istore (j := 5) (by decide +kernel) (by decide)) <|
  fa1 (s_iconst (n := 0) (v := 0) (by decide +kernel) (by decide +kernel) (p32 rfl)) <|
  fa1 (s_istore (j := 6) (by decide +kernel) (by decide)) <|
  fa1 (s_iload (j := 6) (by decide +kernel)) <|
  fa1 (s_aload_n (kf := 0) (j := 0) (by decide +kernel) rfl) <|
  fa1 (s_getI (ci := 12) (f := 5) (idx := 184) (C := RX12) (T := TX12) (NF := 83) (by decide +kernel) rfl (by decide) inG_X12 (by decide) w_1243 li_X12_5) <|
  fa1 (s_cmpge (off := 69) (by decide +kernel) (by decide)) <|
  fa1 (s_iload (j := 6) (by decide +kernel)) <|
  fa1 (s_iload_n (kf := 1) (j := 1) (by decide +kernel) rfl) <|
  fa1 (s_cmpeq (off := 18) (by decide +kernel) (by decide)) <|
  fa1 (s_aload_n (kf := 0) (j := 0) (by decide +kernel) rfl) <|
  fa1 (s_iload_n (kf := 1) (j := 1) (by decide +kernel) rfl) <|
  fa1 (s_iload (j := 6) (by decide +kernel)) <|
  fa1 (s_iload_n (kf := 2) (j := 2) (by decide +kernel) rfl) <|
  fa1 (s_vcallI (n := 3) (ci := 12) (C := RX12) (T := TX12) (NF := 83) (idx := 489) (y := yX12_areLike) (by decide +kernel) (gg_X12_areLike) rfl (by decide) yv_X12_areLike (all5 w_1795 w_1797 w_89 w_113 w_1798) rfl rfl ⟨by decide, by decide⟩) <|
  fa1 (s_ifeq (off := 7) (by decide +kernel) (by decide)) <|
  fa1 (s_iconst (n := 1) (v := 1) (by decide +kernel) (by decide +kernel) (p32 rfl)) <|
  fa1 (s_goto (off := 4) (by decide +kernel) (by decide)) <|
  fa1 (s_iconst (n := 0) (v := 0) (by decide +kernel) (by decide +kernel) (p32 rfl)) <|
  fa1 (s_istore (j := 7) (by decide +kernel) (by decide)) <|
  fa1 (s_iload (j := 4) (by decide +kernel)) <|
  fa1 (s_iload (j := 7) (by decide +kernel)) <|
  fa1 (s_ifeq (off := 7) (by decide +kernel) (by decide)) <|
  fa1 (s_iconst (n := 1) (v := 1) (by decide +kernel) (by decide +kernel) (p32 rfl)) <|
  fa1 (s_goto (off := 4) (by decide +kernel) (by decide)) <|
  fa1 (s_iconst (n := 0) (v := 0) (by decide +kernel) (by decide +kernel) (p32 rfl)) <|
  fa1 (s_iadd (by decide +kernel)) <|
  fa1 (s_istore (j := 4) (by decide +kernel) (by decide)) <|
  fa1 (s_iload (j := 7) (by decide +kernel)) <|
  fa1 (s_ifeq (off := 15) (by decide +kernel) (by decide)) <|
  fa1 (s_iload (j := 5) (by decide +kernel)) <|
  fa1 (s_bipush (n := -4) (v := -4) (by decide +kernel) (by decide +kernel) (p32 rfl)) <|
  fa1 (s_cmpne (off := 8) (by decide +kernel) (by decide)) <|
  fa1 (s_iload (j := 6) (by decide +kernel)) <|
  fa1 (s_goto (off := 5) (by decide +kernel) (by decide)) <|
  fa1 (s_iload (j := 5) (by decide +kernel)) <|
  fa1 (s_istore (j := 5) (by decide +kernel) (by decide)) <|
  fa1 (s_iinc (j := 6) (d := 1) (by decide +kernel) (by decide)) <|
  fa1 (s_goto (off := -72) (by decide +kernel) (by decide)) <|
  fa1 (s_iload_n (kf := 3) (j := 3) (by decide +kernel) rfl) <|
  fa1 (s_ifne (off := 8) (by decide +kernel) (by decide)) <|
  fa1 (s_iload (j := 4) (by decide +kernel)) <|
  fa1 (s_goto (off := 5) (by decide +kernel) (by decide)) <|
  fa1 (s_iload (j := 5) (by decide +kernel)) <|
  fa1 (s_iret (by decide +kernel) rfl) <| fa0
theorem gg_X12_find {G : Wp} {l : Launch} : GoodM loR G l yX12_find cX12_find 8 (some .int) rm_X12_find f_X12_find := met_of kt_X12_find (lkp_snd (ks_X12_find G l)) (by decide +kernel) rfl (by decide)
noncomputable def k_X12_teach : List (Nat × Ins) := [
  (0, i_aload 1 0),
  (1, i_iload 2 1),
  (2, i_callI 5 2 (rcv 12) f_X12_isSaying),
  (5, i_ifeq 8 44),
  (8, i_iload 9 2),
  (9, i_i2l 10),
  (10, i_push 11 (.inr (.inl 0))),
  (11, i_push 12 (.inl 1)),
  (12, i_aload 13 0),
  (13, i_getI 16 12 5),
  (16, i_bin 17 bShl),
  (17, i_push 18 (.inl 1)),
  (18, i_bin 19 (fun x y => wr (x - y))),
  (19, i_i2l 20),
  (20, i_callI 23 3 anyv f_X12_in),
  (23, i_ifeq 26 44),
  (26, i_iload 27 3),
  (27, i_ifeq 30 46),
  (30, i_iload 31 3),
  (31, i_i2l 32),
  (32, i_push 35 (.inr (.inl (10)))),
  (35, i_push 38 (.inr (.inl (33)))),
  (38, i_callI 41 3 anyv f_X12_in),
  (41, i_ifne 44 46),
  (44, i_push 45 (.inl (-1))),
  (45, i_iret),
  (46, i_aload 47 0),
  (47, i_iload 48 1),
  (48, i_callI 51 2 (rcv 12) f_X12_leansOf),
  (51, i_push 52 (.inl 1)),
  (52, i_iload 53 1),
  (53, i_bin 54 bShl),
  (54, i_bin 55 bOr),
  (55, i_iload 56 2),
  (56, i_push 57 (.inl (-1))),
  (57, i_bin 58 bXor),
  (58, i_bin 59 bAnd),
  (59, i_istore 61 4),
  (61, i_iload 62 3),
  (62, i_ifne 65 71),
  (65, i_iload 67 4),
  (67, i_callI 70 1 anyv f_X12_bits),
  (70, i_iret),
  (71, i_push 73 (.inl (-4))),
  (73, i_istore 75 5),
  (75, i_push 76 (.inl 0)),
  (76, i_istore 78 6),
  (78, i_iload 80 6),
  (80, i_iload 81 3),
  (81, i_push 83 (.inl 10)),
  (83, i_bin 84 (fun x y => wr (x - y))),
  (84, i_cmpgt 87 184),
  (87, i_push 89 (.inl (-4))),
  (89, i_istore 91 5),
  (91, i_push 92 (.inl 0)),
  (92, i_istore 94 7),
  (94, i_iload 96 7),
  (96, i_aload 97 0),
  (97, i_getI 100 12 5),
  (100, i_cmpge 103 155),
  (103, i_iload 105 5),
  (105, i_push 107 (.inl (-4))),
  (107, i_cmpne 110 145),
  (110, i_iload 112 4),
  (112, i_iload 114 7),
  (114, i_bin 115 bShr),
  (115, i_push 116 (.inl 1)),
  (116, i_bin 117 bAnd),
  (117, i_push 118 (.inl 1)),
  (118, i_cmpne 121 145),
  (121, i_aload 122 0),
  (122, i_iload 124 7),
  (124, i_callI 127 2 (rcv 12) f_X12_leansOf),
  (127, i_iload 129 4),
  (129, i_bin 130 bAnd),
  (130, i_push 131 (.inl 1)),
  (131, i_iload 133 7),
  (133, i_bin 134 bShl),
  (134, i_push 135 (.inl (-1))),
  (135, i_bin 136 bXor),
  (136, i_bin 137 bAnd),
  (137, i_ifne 140 145),
  (140, i_iload 142 7),
  (142, i_goto 147),
  (145, i_iload 147 5),
  (147, i_istore 149 5),
  (149, i_iinc 152 7 (1)),
  (152, i_goto 94),
  (155, i_iload 157 4),
  (157, i_iload 159 5),
  (159, i_push 161 (.inl (-4))),
  (161, i_cmpne 164 169),
  (164, i_iload 166 4),
  (166, i_goto 175),
  (169, i_push 170 (.inl 1)),
  (170, i_iload 172 5),
  (172, i_bin 173 bShl),
  (173, i_push 174 (.inl (-1))),
  (174, i_bin 175 bXor),
  (175, i_bin 176 bAnd),
  (176, i_istore 178 4),
  (178, i_iinc 181 6 (1)),
  (181, i_goto 78),
  (184, i_iload 186 5),
  (186, i_iret)]
noncomputable def kc_X12_teach : Nat → Option Ins := lkp k_X12_teach
noncomputable def f_X12_teach : List AV → Mem → Option Rs := den 8 kc_X12_teach
abbrev rm_X12_teach : Room := { frames := 2, cells := 0, slots := 0, locals := 47 }
set_option maxRecDepth 100000 in
theorem kt_X12_teach : TriC kc_X12_teach := lkp_tri (fa1 (tri_aload 1 0) (fa1 (tri_iload 2 1) (fa1 (tri_callI 5 2 (rcv 12) f_X12_isSaying) (fa1 (tri_ifeq 8 44) (fa1 (tri_iload 9 2) (fa1 (tri_i2l 10) (fa1 (tri_push 11 (.inr (.inl 0))) (fa1 (tri_push 12 (.inl 1)) (fa1 (tri_aload 13 0) (fa1 (tri_getI 16 12 5) (fa1 (tri_bin 17 bShl) (fa1 (tri_push 18 (.inl 1)) (fa1 (tri_bin 19 (fun x y => wr (x - y))) (fa1 (tri_i2l 20) (fa1 (tri_callI 23 3 anyv f_X12_in) (fa1 (tri_ifeq 26 44) (fa1 (tri_iload 27 3) (fa1 (tri_ifeq 30 46) (fa1 (tri_iload 31 3) (fa1 (tri_i2l 32) (fa1 (tri_push 35 (.inr (.inl (10)))) (fa1 (tri_push 38 (.inr (.inl (33)))) (fa1 (tri_callI 41 3 anyv f_X12_in) (fa1 (tri_ifne 44 46) (fa1 (tri_push 45 (.inl (-1))) (fa1 (tri_iret) (fa1 (tri_aload 47 0) (fa1 (tri_iload 48 1) (fa1 (tri_callI 51 2 (rcv 12) f_X12_leansOf) (fa1 (tri_push 52 (.inl 1)) (fa1 (tri_iload 53 1) (fa1 (tri_bin 54 bShl) (fa1 (tri_bin 55 bOr) (fa1 (tri_iload 56 2) (fa1 (tri_push 57 (.inl (-1))) (fa1 (tri_bin 58 bXor) (fa1 (tri_bin 59 bAnd) (fa1 (tri_istore 61 4) (fa1 (tri_iload 62 3) (fa1 (tri_ifne 65 71) (fa1 (tri_iload 67 4) (fa1 (tri_callI 70 1 anyv f_X12_bits) (fa1 (tri_iret) (fa1 (tri_push 73 (.inl (-4))) (fa1 (tri_istore 75 5) (fa1 (tri_push 76 (.inl 0)) (fa1 (tri_istore 78 6) (fa1 (tri_iload 80 6) (fa1 (tri_iload 81 3) (fa1 (tri_push 83 (.inl 10)) (fa1 (tri_bin 84 (fun x y => wr (x - y))) (fa1 (tri_cmpgt 87 184) (fa1 (tri_push 89 (.inl (-4))) (fa1 (tri_istore 91 5) (fa1 (tri_push 92 (.inl 0)) (fa1 (tri_istore 94 7) (fa1 (tri_iload 96 7) (fa1 (tri_aload 97 0) (fa1 (tri_getI 100 12 5) (fa1 (tri_cmpge 103 155) (fa1 (tri_iload 105 5) (fa1 (tri_push 107 (.inl (-4))) (fa1 (tri_cmpne 110 145) (fa1 (tri_iload 112 4) (fa1 (tri_iload 114 7) (fa1 (tri_bin 115 bShr) (fa1 (tri_push 116 (.inl 1)) (fa1 (tri_bin 117 bAnd) (fa1 (tri_push 118 (.inl 1)) (fa1 (tri_cmpne 121 145) (fa1 (tri_aload 122 0) (fa1 (tri_iload 124 7) (fa1 (tri_callI 127 2 (rcv 12) f_X12_leansOf) (fa1 (tri_iload 129 4) (fa1 (tri_bin 130 bAnd) (fa1 (tri_push 131 (.inl 1)) (fa1 (tri_iload 133 7) (fa1 (tri_bin 134 bShl) (fa1 (tri_push 135 (.inl (-1))) (fa1 (tri_bin 136 bXor) (fa1 (tri_bin 137 bAnd) (fa1 (tri_ifne 140 145) (fa1 (tri_iload 142 7) (fa1 (tri_goto 147) (fa1 (tri_iload 147 5) (fa1 (tri_istore 149 5) (fa1 (tri_iinc 152 7 (1)) (fa1 (tri_goto 94) (fa1 (tri_iload 157 4) (fa1 (tri_iload 159 5) (fa1 (tri_push 161 (.inl (-4))) (fa1 (tri_cmpne 164 169) (fa1 (tri_iload 166 4) (fa1 (tri_goto 175) (fa1 (tri_push 170 (.inl 1)) (fa1 (tri_iload 172 5) (fa1 (tri_bin 173 bShl) (fa1 (tri_push 174 (.inl (-1))) (fa1 (tri_bin 175 bXor) (fa1 (tri_bin 176 bAnd) (fa1 (tri_istore 178 4) (fa1 (tri_iinc 181 6 (1)) (fa1 (tri_goto 78) (fa1 (tri_iload 186 5) (fa1 (tri_iret) (fa0))))))))))))))))))))))))))))))))))))))))))))))))))))))))))))))))))))))))))))))))))))))))))))))))))))))))))
set_option maxRecDepth 100000 in
set_option maxHeartbeats 4000000 in
theorem ks_X12_teach (G : Wp) (l : Launch) : ∀ e ∈ k_X12_teach, Snd loR G l RX12 cX12_teach 8 (some .int) rm_X12_teach e.1 e.2 :=
  fa1 (s_aload_n (kf := 0) (j := 0) (by decide +kernel) rfl) <|
  fa1 (s_iload_n (kf := 1) (j := 1) (by decide +kernel) rfl) <|
  fa1 (s_vcallI (n := 1) (ci := 12) (C := RX12) (T := TX12) (NF := 83) (idx := 287) (y := yX12_isSaying) (by decide +kernel) (gg_X12_isSaying) rfl (by decide) yv_X12_isSaying (all5 w_1581 w_1583 w_56 w_113 w_1584) rfl rfl ⟨by decide, by decide⟩) <|
  fa1 (s_ifeq (off := 39) (by decide +kernel) (by decide)) <|
  fa1 (s_iload_n (kf := 2) (j := 2) (by decide +kernel) rfl) <|
  fa1 (s_i2l (by decide +kernel)) <|
  fa1 (s_lconst (n := 0) (v := 0) (by decide +kernel) (by decide +kernel) (p64 rfl)) <|
  fa1 (s_iconst (n := 1) (v := 1) (by decide +kernel) (by decide +kernel) (p32 rfl)) <|
  fa1 (s_aload_n (kf := 0) (j := 0) (by decide +kernel) rfl) <|
  fa1 (s_getI (ci := 12) (f := 5) (idx := 184) (C := RX12) (T := TX12) (NF := 83) (by decide +kernel) rfl (by decide) inG_X12 (by decide) w_1243 li_X12_5) <|
  fa1 (s_ishl (by decide +kernel)) <|
  fa1 (s_iconst (n := 1) (v := 1) (by decide +kernel) (by decide +kernel) (p32 rfl)) <|
  fa1 (s_isub (by decide +kernel)) <|
  fa1 (s_i2l (by decide +kernel)) <|
  fa1 (s_scallI (n := 3) (idx := 187) (y := yX12_in) (by decide +kernel) (gg_X12_in) yv_X12_in (all4 w_1498 w_1499 w_113 w_1500) rfl rfl ⟨by decide, by decide⟩) <|
  fa1 (s_ifeq (off := 21) (by decide +kernel) (by decide)) <|
  fa1 (s_iload_n (kf := 3) (j := 3) (by decide +kernel) rfl) <|
  fa1 (s_ifeq (off := 19) (by decide +kernel) (by decide)) <|
  fa1 (s_iload_n (kf := 3) (j := 3) (by decide +kernel) rfl) <|
  fa1 (s_i2l (by decide +kernel)) <|
  fa1 (s_ldc2 (idx := 305) (v := 10) (by decide +kernel) w_1613 (p64 rfl)) <|
  fa1 (s_ldc2 (idx := 492) (v := 33) (by decide +kernel) w_1842 (p64 rfl)) <|
  fa1 (s_scallI (n := 3) (idx := 187) (y := yX12_in) (by decide +kernel) (gg_X12_in) yv_X12_in (all4 w_1498 w_1499 w_113 w_1500) rfl rfl ⟨by decide, by decide⟩) <|
  fa1 (s_ifne (off := 5) (by decide +kernel) (by decide)) <|
  fa1 (s_iconst (n := -1) (v := -1) (by decide +kernel) (by decide +kernel) (p32 rfl)) <|
  fa1 (s_iret (by decide +kernel) rfl) <|
  fa1 (s_aload_n (kf := 0) (j := 0) (by decide +kernel) rfl) <|
  fa1 (s_iload_n (kf := 1) (j := 1) (by decide +kernel) rfl) <|
  fa1 (s_vcallI (n := 1) (ci := 12) (C := RX12) (T := TX12) (NF := 83) (idx := 293) (y := yX12_leansOf) (by decide +kernel) (gg_X12_leansOf) rfl (by decide) yv_X12_leansOf (all5 w_1586 w_1588 w_57 w_113 w_1589) rfl rfl ⟨by decide, by decide⟩) <|
  fa1 (s_iconst (n := 1) (v := 1) (by decide +kernel) (by decide +kernel) (p32 rfl)) <|
  fa1 (s_iload_n (kf := 1) (j := 1) (by decide +kernel) rfl) <|
  fa1 (s_ishl (by decide +kernel)) <|
  fa1 (s_ior (by decide +kernel)) <|
  fa1 (s_iload_n (kf := 2) (j := 2) (by decide +kernel) rfl) <|
  fa1 (s_iconst (n := -1) (v := -1) (by decide +kernel) (by decide +kernel) (p32 rfl)) <|
  fa1 (s_ixor (by decide +kernel)) <|
  fa1 (s_iand (by decide +kernel)) <|
  fa1 (s_istore (j := 4) (by decide +kernel) (by decide)) <|
  fa1 (s_iload_n (kf := 3) (j := 3) (by decide +kernel) rfl) <|
  fa1 (s_ifne (off := 9) (by decide +kernel) (by decide)) <|
  fa1 (s_iload (j := 4) (by decide +kernel)) <|
  fa1 (s_scallI (n := 1) (idx := 296) (y := yX12_bits) (by decide +kernel) (gg_X12_bits) yv_X12_bits (all4 w_1594 w_1595 w_113 w_1596) rfl rfl ⟨by decide, by decide⟩) <|
  fa1 (s_iret (by decide +kernel) rfl) <|
  fa1 (s_bipush (n := -4) (v := -4) (by decide +kernel) (by decide +kernel) (p32 rfl)) <|
  fa1 (s_istore (j := 5) (by decide +kernel) (by decide)) <|
  fa1 (s_iconst (n := 0) (v := 0) (by decide +kernel) (by decide +kernel) (p32 rfl)) <|
  fa1 (s_istore (j := 6) (by decide +kernel) (by decide)) <|
  fa1 (s_iload (j := 6) (by decide +kernel)) <|
  fa1 (s_iload_n (kf := 3) (j := 3) (by decide +kernel) rfl) <|
  fa1 (s_bipush (n := 10) (v := 10) (by decide +kernel) (by decide +kernel) (p32 rfl)) <|
  fa1 (s_isub (by decide +kernel)) <|
  fa1 (s_cmpgt (off := 100) (by decide +kernel) (by decide)) <|
  fa1 (s_bipush (n := -4) (v := -4) (by decide +kernel) (by decide +kernel) (p32 rfl)) <|
  fa1 (s_istore (j := 5) (by decide +kernel) (by decide)) <|
  fa1 (s_iconst (n := 0) (v := 0) (by decide +kernel) (by decide +kernel) (p32 rfl)) <|
  fa1 (s_istore (j := 7) (by decide +kernel) (by decide)) <|
  fa1 (s_iload (j := 7) (by decide +kernel)) <|
  fa1 (s_aload_n (kf := 0) (j := 0) (by decide +kernel) rfl) <|
  fa1 (s_getI (ci := 12) (f := 5) (idx := 184) (C := RX12) (T := TX12) (NF := 83) (by decide +kernel) rfl (by decide) inG_X12 (by decide) w_1243 li_X12_5) <|
  fa1 (s_cmpge (off := 55) (by decide +kernel) (by decide)) <|
  fa1 (s_iload (j := 5) (by decide +kernel)) <|
  fa1 (s_bipush (n := -4) (v := -4) (by decide +kernel) (by decide +kernel) (p32 rfl)) <|
  fa1 (s_cmpne (off := 38) (by decide +kernel) (by decide)) <|
  fa1 (s_iload (j := 4) (by decide +kernel)) <|
  fa1 (s_iload (j := 7) (by decide +kernel)) <|
  fa1 (s_ishr (by decide +kernel)) <|
  fa1 (s_iconst (n := 1) (v := 1) (by decide +kernel) (by decide +kernel) (p32 rfl)) <|
  fa1 (s_iand (by decide +kernel)) <|
  fa1 (s_iconst (n := 1) (v := 1) (by decide +kernel) (by decide +kernel) (p32 rfl)) <|
  fa1 (s_cmpne (off := 27) (by decide +kernel) (by decide)) <|
  fa1 (s_aload_n (kf := 0) (j := 0) (by decide +kernel) rfl) <|
  fa1 (s_iload (j := 7) (by decide +kernel)) <|
  fa1 (s_vcallI (n := 1) (ci := 12) (C := RX12) (T := TX12) (NF := 83) (idx := 293) (y := yX12_leansOf) (by decide +kernel) (gg_X12_leansOf) rfl (by decide) yv_X12_leansOf (all5 w_1586 w_1588 w_57 w_113 w_1589) rfl rfl ⟨by decide, by decide⟩) <|
  fa1 (s_iload (j := 4) (by decide +kernel)) <|
  fa1 (s_iand (by decide +kernel)) <|
  fa1 (s_iconst (n := 1) (v := 1) (by decide +kernel) (by decide +kernel) (p32 rfl)) <|
  fa1 (s_iload (j := 7) (by decide +kernel)) <|
  fa1 (s_ishl (by decide +kernel)) <|
  fa1 (s_iconst (n := -1) (v := -1) (by decide +kernel) (by decide +kernel) (p32 rfl)) <|
  fa1 (s_ixor (by decide +kernel)) <|
  fa1 (s_iand (by decide +kernel)) <|
  fa1 (s_ifne (off := 8) (by decide +kernel) (by decide)) <|
  fa1 (s_iload (j := 7) (by decide +kernel)) <|
  fa1 (s_goto (off := 5) (by decide +kernel) (by decide)) <|
  fa1 (s_iload (j := 5) (by decide +kernel)) <|
  fa1 (s_istore (j := 5) (by decide +kernel) (by decide)) <|
  fa1 (s_iinc (j := 7) (d := 1) (by decide +kernel) (by decide)) <|
  fa1 (s_goto (off := -58) (by decide +kernel) (by decide)) <|
  fa1 (s_iload (j := 4) (by decide +kernel)) <|
  fa1 (s_iload (j := 5) (by decide +kernel)) <|
  fa1 (s_bipush (n := -4) (v := -4) (by decide +kernel) (by decide +kernel) (p32 rfl)) <|
  fa1 (s_cmpne (off := 8) (by decide +kernel) (by decide)) <|
  fa1 (s_iload (j := 4) (by decide +kernel)) <|
  fa1 (s_goto (off := 9) (by decide +kernel) (by decide)) <|
  fa1 (s_iconst (n := 1) (v := 1) (by decide +kernel) (by decide +kernel) (p32 rfl)) <|
  fa1 (s_iload (j := 5) (by decide +kernel)) <|
  fa1 (s_ishl (by decide +kernel)) <|
  fa1 (s_iconst (n := -1) (v := -1) (by decide +kernel) (by decide +kernel) (p32 rfl)) <|
  fa1 (s_ixor (by decide +kernel)) <|
  fa1 (s_iand (by decide +kernel)) <|
  fa1 (s_istore (j := 4) (by decide +kernel) (by decide)) <|
  fa1 (s_iinc (j := 6) (d := 1) (by decide +kernel) (by decide)) <|
  fa1 (s_goto (off := -103) (by decide +kernel) (by decide)) <|
  fa1 (s_iload (j := 5) (by decide +kernel)) <|
  fa1 (s_iret (by decide +kernel) rfl) <| fa0
theorem gg_X12_teach {G : Wp} {l : Launch} : GoodM loR G l yX12_teach cX12_teach 8 (some .int) rm_X12_teach f_X12_teach := met_of kt_X12_teach (lkp_snd (ks_X12_teach G l)) (by decide +kernel) rfl (by decide)
noncomputable def k_X12_isSheet : List (Nat × Ins) := [
  (0, i_iload 1 0),
  (1, i_i2l 2),
  (2, i_push 3 (.inr (.inl 0))),
  (3, i_push 6 (.inr (.inl (3)))),
  (6, i_callI 9 3 anyv f_X12_in),
  (9, i_ifeq 12 28),
  (12, i_iload 13 1),
  (13, i_i2l 14),
  (14, i_push 15 (.inr (.inl 0))),
  (15, i_push 18 (.inr (.inl (2)))),
  (18, i_callI 21 3 anyv f_X12_in),
  (21, i_ifeq 24 28),
  (24, i_push 25 (.inl 1)),
  (25, i_goto 29),
  (28, i_push 29 (.inl 0)),
  (29, i_zret)]
noncomputable def kc_X12_isSheet : Nat → Option Ins := lkp k_X12_isSheet
noncomputable def f_X12_isSheet : List AV → Mem → Option Rs := den 2 kc_X12_isSheet
abbrev rm_X12_isSheet : Room := { frames := 1, cells := 0, slots := 0, locals := 25 }
set_option maxRecDepth 100000 in
theorem kt_X12_isSheet : TriC kc_X12_isSheet := lkp_tri (fa1 (tri_iload 1 0) (fa1 (tri_i2l 2) (fa1 (tri_push 3 (.inr (.inl 0))) (fa1 (tri_push 6 (.inr (.inl (3)))) (fa1 (tri_callI 9 3 anyv f_X12_in) (fa1 (tri_ifeq 12 28) (fa1 (tri_iload 13 1) (fa1 (tri_i2l 14) (fa1 (tri_push 15 (.inr (.inl 0))) (fa1 (tri_push 18 (.inr (.inl (2)))) (fa1 (tri_callI 21 3 anyv f_X12_in) (fa1 (tri_ifeq 24 28) (fa1 (tri_push 25 (.inl 1)) (fa1 (tri_goto 29) (fa1 (tri_push 29 (.inl 0)) (fa1 (tri_zret) (fa0)))))))))))))))))
set_option maxRecDepth 100000 in
set_option maxHeartbeats 4000000 in
theorem ks_X12_isSheet (G : Wp) (l : Launch) : ∀ e ∈ k_X12_isSheet, Snd loR G l RX12 cX12_isSheet 2 (some .boolean) rm_X12_isSheet e.1 e.2 :=
  fa1 (s_iload_n (kf := 0) (j := 0) (by decide +kernel) rfl) <|
  fa1 (s_i2l (by decide +kernel)) <|
  fa1 (s_lconst (n := 0) (v := 0) (by decide +kernel) (by decide +kernel) (p64 rfl)) <|
  fa1 (s_ldc2 (idx := 364) (v := 3) (by decide +kernel) w_1674 (p64 rfl)) <|
  fa1 (s_scallI (n := 3) (idx := 187) (y := yX12_in) (by decide +kernel) (gg_X12_in) yv_X12_in (all4 w_1498 w_1499 w_113 w_1500) rfl rfl ⟨by decide, by decide⟩) <|
  fa1 (s_ifeq (off := 19) (by decide +kernel) (by decide)) <|
  fa1 (s_iload_n (kf := 1) (j := 1) (by decide +kernel) rfl) <|
  fa1 (s_i2l (by decide +kernel)) <|
  fa1 (s_lconst (n := 0) (v := 0) (by decide +kernel) (by decide +kernel) (p64 rfl)) <|
  fa1 (s_ldc2 (idx := 244) (v := 2) (by decide +kernel) w_1534 (p64 rfl)) <|
  fa1 (s_scallI (n := 3) (idx := 187) (y := yX12_in) (by decide +kernel) (gg_X12_in) yv_X12_in (all4 w_1498 w_1499 w_113 w_1500) rfl rfl ⟨by decide, by decide⟩) <|
  fa1 (s_ifeq (off := 7) (by decide +kernel) (by decide)) <|
  fa1 (s_iconst (n := 1) (v := 1) (by decide +kernel) (by decide +kernel) (p32 rfl)) <|
  fa1 (s_goto (off := 4) (by decide +kernel) (by decide)) <|
  fa1 (s_iconst (n := 0) (v := 0) (by decide +kernel) (by decide +kernel) (p32 rfl)) <|
  fa1 (s_zret (by decide +kernel) rfl) <| fa0
theorem gg_X12_isSheet {G : Wp} {l : Launch} : GoodM loR G l yX12_isSheet cX12_isSheet 2 (some .boolean) rm_X12_isSheet f_X12_isSheet := met_of kt_X12_isSheet (lkp_snd (ks_X12_isSheet G l)) (by decide +kernel) rfl (by decide)
noncomputable def k_X12_sheet : List (Nat × Ins) := [
  (0, i_iload 1 1),
  (1, i_iload 2 2),
  (2, i_callI 5 2 anyv f_X12_isSheet),
  (5, i_ifeq 8 14),
  (8, i_iload 9 3),
  (9, i_push 11 (.inl 90)),
  (11, i_cmple 14 16),
  (14, i_push 15 (.inl (-1))),
  (15, i_iret),
  (16, i_iload 17 3),
  (17, i_ifge 20 23),
  (20, i_push 22 (.inl (-14))),
  (22, i_iret),
  (23, i_aload 24 0),
  (24, i_getR 27 12 20 (fun _ => 51)),
  (27, i_iload 28 1),
  (28, i_iload 29 2),
  (29, i_ast 30 20 lnR id),
  (30, i_aload 31 0),
  (31, i_getR 34 12 20 (fun _ => 52)),
  (34, i_iload 35 1),
  (35, i_iload 36 3),
  (36, i_ast 37 20 lnR id),
  (37, i_push 38 (.inl 0)),
  (38, i_istore 40 4),
  (40, i_iload 42 4),
  (42, i_push 44 (.inl 90)),
  (44, i_cmpge 47 66),
  (47, i_aload 48 0),
  (48, i_getR 51 12 20 (fun _ => 53)),
  (51, i_push 53 (.inl 90)),
  (53, i_iload 54 1),
  (54, i_bin 55 (fun x y => wr (x * y))),
  (55, i_iload 57 4),
  (57, i_bin 58 (fun x y => wr (x + y))),
  (58, i_push 59 (.inl 0)),
  (59, i_ast 60 20 lnR id),
  (60, i_iinc 63 4 (1)),
  (63, i_goto 40),
  (66, i_push 67 (.inl 1)),
  (67, i_iret)]
noncomputable def kc_X12_sheet : Nat → Option Ins := lkp k_X12_sheet
noncomputable def f_X12_sheet : List AV → Mem → Option Rs := den 5 kc_X12_sheet
abbrev rm_X12_sheet : Room := { frames := 2, cells := 0, slots := 0, locals := 46 }
set_option maxRecDepth 100000 in
theorem kt_X12_sheet : TriC kc_X12_sheet := lkp_tri (fa1 (tri_iload 1 1) (fa1 (tri_iload 2 2) (fa1 (tri_callI 5 2 anyv f_X12_isSheet) (fa1 (tri_ifeq 8 14) (fa1 (tri_iload 9 3) (fa1 (tri_push 11 (.inl 90)) (fa1 (tri_cmple 14 16) (fa1 (tri_push 15 (.inl (-1))) (fa1 (tri_iret) (fa1 (tri_iload 17 3) (fa1 (tri_ifge 20 23) (fa1 (tri_push 22 (.inl (-14))) (fa1 (tri_iret) (fa1 (tri_aload 24 0) (fa1 (tri_getR 27 12 20 (fun _ => 51)) (fa1 (tri_iload 28 1) (fa1 (tri_iload 29 2) (fa1 (tri_ast 30 20 lnR id) (fa1 (tri_aload 31 0) (fa1 (tri_getR 34 12 20 (fun _ => 52)) (fa1 (tri_iload 35 1) (fa1 (tri_iload 36 3) (fa1 (tri_ast 37 20 lnR id) (fa1 (tri_push 38 (.inl 0)) (fa1 (tri_istore 40 4) (fa1 (tri_iload 42 4) (fa1 (tri_push 44 (.inl 90)) (fa1 (tri_cmpge 47 66) (fa1 (tri_aload 48 0) (fa1 (tri_getR 51 12 20 (fun _ => 53)) (fa1 (tri_push 53 (.inl 90)) (fa1 (tri_iload 54 1) (fa1 (tri_bin 55 (fun x y => wr (x * y))) (fa1 (tri_iload 57 4) (fa1 (tri_bin 58 (fun x y => wr (x + y))) (fa1 (tri_push 59 (.inl 0)) (fa1 (tri_ast 60 20 lnR id) (fa1 (tri_iinc 63 4 (1)) (fa1 (tri_goto 40) (fa1 (tri_push 67 (.inl 1)) (fa1 (tri_iret) (fa0))))))))))))))))))))))))))))))))))))))))))
set_option maxRecDepth 100000 in
set_option maxHeartbeats 4000000 in
theorem ks_X12_sheet (G : Wp) (l : Launch) : ∀ e ∈ k_X12_sheet, Snd loR G l RX12 cX12_sheet 5 (some .int) rm_X12_sheet e.1 e.2 :=
  fa1 (s_iload_n (kf := 1) (j := 1) (by decide +kernel) rfl) <|
  fa1 (s_iload_n (kf := 2) (j := 2) (by decide +kernel) rfl) <|
  fa1 (s_scallI (n := 2) (idx := 494) (y := yX12_isSheet) (by decide +kernel) (gg_X12_isSheet) yv_X12_isSheet (all4 w_1847 w_1848 w_113 w_1849) rfl rfl ⟨by decide, by decide⟩) <|
  fa1 (s_ifeq (off := 9) (by decide +kernel) (by decide)) <|
  fa1 (s_iload_n (kf := 3) (j := 3) (by decide +kernel) rfl) <|
  fa1 (s_bipush (n := 90) (v := 90) (by decide +kernel) (by decide +kernel) (p32 rfl)) <|
  fa1 (s_cmple (off := 5) (by decide +kernel) (by decide)) <|
  fa1 (s_iconst (n := -1) (v := -1) (by decide +kernel) (by decide +kernel) (p32 rfl)) <|
  fa1 (s_iret (by decide +kernel) rfl) <|
  fa1 (s_iload_n (kf := 3) (j := 3) (by decide +kernel) rfl) <|
  fa1 (s_ifge (off := 6) (by decide +kernel) (by decide)) <|
  fa1 (s_bipush (n := -14) (v := -14) (by decide +kernel) (by decide +kernel) (p32 rfl)) <|
  fa1 (s_iret (by decide +kernel) rfl) <|
  fa1 (s_aload_n (kf := 0) (j := 0) (by decide +kernel) rfl) <|
  fa1 (s_getR (t2 := 20) (g := (fun _ => 51)) (ci := 12) (f := 80) (idx := 165) (C := RX12) (T := TX12) (NF := 83) (by decide +kernel) rfl (by decide) inG_X12 (by decide) w_1318 lr_X12_80 (by decide)) <|
  fa1 (s_iload_n (kf := 1) (j := 1) (by decide +kernel) rfl) <|
  fa1 (s_iload_n (kf := 2) (j := 2) (by decide +kernel) rfl) <|
  fa1 (s_iast (by decide +kernel) lt_loR_20) <|
  fa1 (s_aload_n (kf := 0) (j := 0) (by decide +kernel) rfl) <|
  fa1 (s_getR (t2 := 20) (g := (fun _ => 52)) (ci := 12) (f := 81) (idx := 168) (C := RX12) (T := TX12) (NF := 83) (by decide +kernel) rfl (by decide) inG_X12 (by decide) w_1319 lr_X12_81 (by decide)) <|
  fa1 (s_iload_n (kf := 1) (j := 1) (by decide +kernel) rfl) <|
  fa1 (s_iload_n (kf := 3) (j := 3) (by decide +kernel) rfl) <|
  fa1 (s_iast (by decide +kernel) lt_loR_20) <|
  fa1 (s_iconst (n := 0) (v := 0) (by decide +kernel) (by decide +kernel) (p32 rfl)) <|
  fa1 (s_istore (j := 4) (by decide +kernel) (by decide)) <|
  fa1 (s_iload (j := 4) (by decide +kernel)) <|
  fa1 (s_bipush (n := 90) (v := 90) (by decide +kernel) (by decide +kernel) (p32 rfl)) <|
  fa1 (s_cmpge (off := 22) (by decide +kernel) (by decide)) <|
  fa1 (s_aload_n (kf := 0) (j := 0) (by decide +kernel) rfl) <|
  fa1 (s_getR (t2 := 20) (g := (fun _ => 53)) (ci := 12) (f := 82) (idx := 171) (C := RX12) (T := TX12) (NF := 83) (by decide +kernel) rfl (by decide) inG_X12 (by decide) w_1320 lr_X12_82 (by decide)) <|
  fa1 (s_bipush (n := 90) (v := 90) (by decide +kernel) (by decide +kernel) (p32 rfl)) <|
  fa1 (s_iload_n (kf := 1) (j := 1) (by decide +kernel) rfl) <|
  fa1 (s_imul (by decide +kernel)) <|
  fa1 (s_iload (j := 4) (by decide +kernel)) <|
  fa1 (s_iadd (by decide +kernel)) <|
  fa1 (s_iconst (n := 0) (v := 0) (by decide +kernel) (by decide +kernel) (p32 rfl)) <|
  fa1 (s_iast (by decide +kernel) lt_loR_20) <|
  fa1 (s_iinc (j := 4) (d := 1) (by decide +kernel) (by decide)) <|
  fa1 (s_goto (off := -23) (by decide +kernel) (by decide)) <|
  fa1 (s_iconst (n := 1) (v := 1) (by decide +kernel) (by decide +kernel) (p32 rfl)) <|
  fa1 (s_iret (by decide +kernel) rfl) <| fa0
theorem gg_X12_sheet {G : Wp} {l : Launch} : GoodM loR G l yX12_sheet cX12_sheet 5 (some .int) rm_X12_sheet f_X12_sheet := met_of kt_X12_sheet (lkp_snd (ks_X12_sheet G l)) (by decide +kernel) rfl (by decide)
noncomputable def k_X12_lay : List (Nat × Ins) := [
  (0, i_iload 1 1),
  (1, i_push 2 (.inl 0)),
  (2, i_callI 5 2 anyv f_X12_isSheet),
  (5, i_ifne 8 10),
  (8, i_push 9 (.inl (-1))),
  (9, i_iret),
  (10, i_aload 11 0),
  (11, i_getR 14 12 20 (fun _ => 51)),
  (14, i_iload 15 1),
  (15, i_ald 16 20 lnR),
  (16, i_push 18 (.inl (-4))),
  (18, i_cmpne 21 24),
  (21, i_push 23 (.inl (-11))),
  (23, i_iret),
  (24, i_iload 25 2),
  (25, i_i2l 26),
  (26, i_push 27 (.inr (.inl 0))),
  (27, i_aload 28 0),
  (28, i_getR 31 12 20 (fun _ => 52)),
  (31, i_iload 32 1),
  (32, i_ald 33 20 lnR),
  (33, i_push 34 (.inl 1)),
  (34, i_bin 35 (fun x y => wr (x - y))),
  (35, i_i2l 36),
  (36, i_callI 39 3 anyv f_X12_in),
  (39, i_ifne 42 45),
  (42, i_push 44 (.inl (-12))),
  (44, i_iret),
  (45, i_aload 46 0),
  (46, i_getR 49 12 20 (fun _ => 53)),
  (49, i_push 51 (.inl 90)),
  (51, i_iload 52 1),
  (52, i_bin 53 (fun x y => wr (x * y))),
  (53, i_iload 54 2),
  (54, i_bin 55 (fun x y => wr (x + y))),
  (55, i_aload 56 0),
  (56, i_getR 59 12 20 (fun _ => 51)),
  (59, i_iload 60 1),
  (60, i_ald 61 20 lnR),
  (61, i_ifne 64 69),
  (64, i_iload 65 3),
  (65, i_un 66 wrB),
  (66, i_goto 85),
  (69, i_aload 70 0),
  (70, i_getR 73 12 20 (fun _ => 51)),
  (73, i_iload 74 1),
  (74, i_ald 75 20 lnR),
  (75, i_push 76 (.inl 1)),
  (76, i_cmpne 79 84),
  (79, i_iload 80 3),
  (80, i_un 81 wrS),
  (81, i_goto 85),
  (84, i_iload 85 3),
  (85, i_ast 86 20 lnR id),
  (86, i_push 87 (.inl 1)),
  (87, i_iret)]
noncomputable def kc_X12_lay : Nat → Option Ins := lkp k_X12_lay
noncomputable def f_X12_lay : List AV → Mem → Option Rs := den 4 kc_X12_lay
abbrev rm_X12_lay : Room := { frames := 2, cells := 0, slots := 0, locals := 46 }
set_option maxRecDepth 100000 in
theorem kt_X12_lay : TriC kc_X12_lay := lkp_tri (fa1 (tri_iload 1 1) (fa1 (tri_push 2 (.inl 0)) (fa1 (tri_callI 5 2 anyv f_X12_isSheet) (fa1 (tri_ifne 8 10) (fa1 (tri_push 9 (.inl (-1))) (fa1 (tri_iret) (fa1 (tri_aload 11 0) (fa1 (tri_getR 14 12 20 (fun _ => 51)) (fa1 (tri_iload 15 1) (fa1 (tri_ald 16 20 lnR) (fa1 (tri_push 18 (.inl (-4))) (fa1 (tri_cmpne 21 24) (fa1 (tri_push 23 (.inl (-11))) (fa1 (tri_iret) (fa1 (tri_iload 25 2) (fa1 (tri_i2l 26) (fa1 (tri_push 27 (.inr (.inl 0))) (fa1 (tri_aload 28 0) (fa1 (tri_getR 31 12 20 (fun _ => 52)) (fa1 (tri_iload 32 1) (fa1 (tri_ald 33 20 lnR) (fa1 (tri_push 34 (.inl 1)) (fa1 (tri_bin 35 (fun x y => wr (x - y))) (fa1 (tri_i2l 36) (fa1 (tri_callI 39 3 anyv f_X12_in) (fa1 (tri_ifne 42 45) (fa1 (tri_push 44 (.inl (-12))) (fa1 (tri_iret) (fa1 (tri_aload 46 0) (fa1 (tri_getR 49 12 20 (fun _ => 53)) (fa1 (tri_push 51 (.inl 90)) (fa1 (tri_iload 52 1) (fa1 (tri_bin 53 (fun x y => wr (x * y))) (fa1 (tri_iload 54 2) (fa1 (tri_bin 55 (fun x y => wr (x + y))) (fa1 (tri_aload 56 0) (fa1 (tri_getR 59 12 20 (fun _ => 51)) (fa1 (tri_iload 60 1) (fa1 (tri_ald 61 20 lnR) (fa1 (tri_ifne 64 69) (fa1 (tri_iload 65 3) (fa1 (tri_un 66 wrB) (fa1 (tri_goto 85) (fa1 (tri_aload 70 0) (fa1 (tri_getR 73 12 20 (fun _ => 51)) (fa1 (tri_iload 74 1) (fa1 (tri_ald 75 20 lnR) (fa1 (tri_push 76 (.inl 1)) (fa1 (tri_cmpne 79 84) (fa1 (tri_iload 80 3) (fa1 (tri_un 81 wrS) (fa1 (tri_goto 85) (fa1 (tri_iload 85 3) (fa1 (tri_ast 86 20 lnR id) (fa1 (tri_push 87 (.inl 1)) (fa1 (tri_iret) (fa0)))))))))))))))))))))))))))))))))))))))))))))))))))))))))
set_option maxRecDepth 100000 in
set_option maxHeartbeats 4000000 in
theorem ks_X12_lay (G : Wp) (l : Launch) : ∀ e ∈ k_X12_lay, Snd loR G l RX12 cX12_lay 4 (some .int) rm_X12_lay e.1 e.2 :=
  fa1 (s_iload_n (kf := 1) (j := 1) (by decide +kernel) rfl) <|
  fa1 (s_iconst (n := 0) (v := 0) (by decide +kernel) (by decide +kernel) (p32 rfl)) <|
  fa1 (s_scallI (n := 2) (idx := 494) (y := yX12_isSheet) (by decide +kernel) (gg_X12_isSheet) yv_X12_isSheet (all4 w_1847 w_1848 w_113 w_1849) rfl rfl ⟨by decide, by decide⟩) <|
  fa1 (s_ifne (off := 5) (by decide +kernel) (by decide)) <|
  fa1 (s_iconst (n := -1) (v := -1) (by decide +kernel) (by decide +kernel) (p32 rfl)) <|
  fa1 (s_iret (by decide +kernel) rfl) <|
  fa1 (s_aload_n (kf := 0) (j := 0) (by decide +kernel) rfl) <|
  fa1 (s_getR (t2 := 20) (g := (fun _ => 51)) (ci := 12) (f := 80) (idx := 165) (C := RX12) (T := TX12) (NF := 83) (by decide +kernel) rfl (by decide) inG_X12 (by decide) w_1318 lr_X12_80 (by decide)) <|
  fa1 (s_iload_n (kf := 1) (j := 1) (by decide +kernel) rfl) <|
  fa1 (s_iald (by decide +kernel)) <|
  fa1 (s_bipush (n := -4) (v := -4) (by decide +kernel) (by decide +kernel) (p32 rfl)) <|
  fa1 (s_cmpne (off := 6) (by decide +kernel) (by decide)) <|
  fa1 (s_bipush (n := -11) (v := -11) (by decide +kernel) (by decide +kernel) (p32 rfl)) <|
  fa1 (s_iret (by decide +kernel) rfl) <|
  fa1 (s_iload_n (kf := 2) (j := 2) (by decide +kernel) rfl) <|
  fa1 (s_i2l (by decide +kernel)) <|
  fa1 (s_lconst (n := 0) (v := 0) (by decide +kernel) (by decide +kernel) (p64 rfl)) <|
  fa1 (s_aload_n (kf := 0) (j := 0) (by decide +kernel) rfl) <|
  fa1 (s_getR (t2 := 20) (g := (fun _ => 52)) (ci := 12) (f := 81) (idx := 168) (C := RX12) (T := TX12) (NF := 83) (by decide +kernel) rfl (by decide) inG_X12 (by decide) w_1319 lr_X12_81 (by decide)) <|
  fa1 (s_iload_n (kf := 1) (j := 1) (by decide +kernel) rfl) <|
  fa1 (s_iald (by decide +kernel)) <|
  fa1 (s_iconst (n := 1) (v := 1) (by decide +kernel) (by decide +kernel) (p32 rfl)) <|
  fa1 (s_isub (by decide +kernel)) <|
  fa1 (s_i2l (by decide +kernel)) <|
  fa1 (s_scallI (n := 3) (idx := 187) (y := yX12_in) (by decide +kernel) (gg_X12_in) yv_X12_in (all4 w_1498 w_1499 w_113 w_1500) rfl rfl ⟨by decide, by decide⟩) <|
  fa1 (s_ifne (off := 6) (by decide +kernel) (by decide)) <|
  fa1 (s_bipush (n := -12) (v := -12) (by decide +kernel) (by decide +kernel) (p32 rfl)) <|
  fa1 (s_iret (by decide +kernel) rfl) <|
  fa1 (s_aload_n (kf := 0) (j := 0) (by decide +kernel) rfl) <|
  fa1 (s_getR (t2 := 20) (g := (fun _ => 53)) (ci := 12) (f := 82) (idx := 171) (C := RX12) (T := TX12) (NF := 83) (by decide +kernel) rfl (by decide) inG_X12 (by decide) w_1320 lr_X12_82 (by decide)) <|
  fa1 (s_bipush (n := 90) (v := 90) (by decide +kernel) (by decide +kernel) (p32 rfl)) <|
  fa1 (s_iload_n (kf := 1) (j := 1) (by decide +kernel) rfl) <|
  fa1 (s_imul (by decide +kernel)) <|
  fa1 (s_iload_n (kf := 2) (j := 2) (by decide +kernel) rfl) <|
  fa1 (s_iadd (by decide +kernel)) <|
  fa1 (s_aload_n (kf := 0) (j := 0) (by decide +kernel) rfl) <|
  fa1 (s_getR (t2 := 20) (g := (fun _ => 51)) (ci := 12) (f := 80) (idx := 165) (C := RX12) (T := TX12) (NF := 83) (by decide +kernel) rfl (by decide) inG_X12 (by decide) w_1318 lr_X12_80 (by decide)) <|
  fa1 (s_iload_n (kf := 1) (j := 1) (by decide +kernel) rfl) <|
  fa1 (s_iald (by decide +kernel)) <|
  fa1 (s_ifne (off := 8) (by decide +kernel) (by decide)) <|
  fa1 (s_iload_n (kf := 3) (j := 3) (by decide +kernel) rfl) <|
  fa1 (s_i2b (by decide +kernel)) <|
  fa1 (s_goto (off := 19) (by decide +kernel) (by decide)) <|
  fa1 (s_aload_n (kf := 0) (j := 0) (by decide +kernel) rfl) <|
  fa1 (s_getR (t2 := 20) (g := (fun _ => 51)) (ci := 12) (f := 80) (idx := 165) (C := RX12) (T := TX12) (NF := 83) (by decide +kernel) rfl (by decide) inG_X12 (by decide) w_1318 lr_X12_80 (by decide)) <|
  fa1 (s_iload_n (kf := 1) (j := 1) (by decide +kernel) rfl) <|
  fa1 (s_iald (by decide +kernel)) <|
  fa1 (s_iconst (n := 1) (v := 1) (by decide +kernel) (by decide +kernel) (p32 rfl)) <|
  fa1 (s_cmpne (off := 8) (by decide +kernel) (by decide)) <|
  fa1 (s_iload_n (kf := 3) (j := 3) (by decide +kernel) rfl) <|
  fa1 (s_i2s (by decide +kernel)) <|
  fa1 (s_goto (off := 4) (by decide +kernel) (by decide)) <|
  fa1 (s_iload_n (kf := 3) (j := 3) (by decide +kernel) rfl) <|
  fa1 (s_iast (by decide +kernel) lt_loR_20) <|
  fa1 (s_iconst (n := 1) (v := 1) (by decide +kernel) (by decide +kernel) (p32 rfl)) <|
  fa1 (s_iret (by decide +kernel) rfl) <| fa0
theorem gg_X12_lay {G : Wp} {l : Launch} : GoodM loR G l yX12_lay cX12_lay 4 (some .int) rm_X12_lay f_X12_lay := met_of kt_X12_lay (lkp_snd (ks_X12_lay G l)) (by decide +kernel) rfl (by decide)
noncomputable def k_X12_read : List (Nat × Ins) := [
  (0, i_aload 1 0),
  (1, i_iload 2 1),
  (2, i_callI 5 2 (rcv 12) f_X12_isSaying),
  (5, i_ifeq 8 29),
  (8, i_iload 9 2),
  (9, i_iload 10 3),
  (10, i_callI 13 2 anyv f_X12_isSheet),
  (13, i_ifeq 16 29),
  (16, i_iload 18 5),
  (18, i_i2l 19),
  (19, i_push 20 (.inr (.inl 0))),
  (20, i_push 23 (.inr (.inl (20)))),
  (23, i_callI 26 3 anyv f_X12_in),
  (26, i_ifne 29 31),
  (29, i_push 30 (.inl (-1))),
  (30, i_iret),
  (31, i_aload 32 0),
  (32, i_iload 33 1),
  (33, i_callI 36 2 (rcv 12) f_X12_isOpen),
  (36, i_ifne 39 42),
  (39, i_push 41 (.inl (-2))),
  (41, i_iret),
  (42, i_aload 43 0),
  (43, i_getR 46 12 20 (fun _ => 51)),
  (46, i_iload 47 2),
  (47, i_ald 48 20 lnR),
  (48, i_iload 49 3),
  (49, i_cmpeq 52 71),
  (52, i_aload 53 0),
  (53, i_getR 56 12 20 (fun _ => 51)),
  (56, i_iload 57 2),
  (57, i_ald 58 20 lnR),
  (58, i_push 60 (.inl (-4))),
  (60, i_cmpne 63 68),
  (63, i_push 65 (.inl (-11))),
  (65, i_goto 70),
  (68, i_push 70 (.inl (-13))),
  (70, i_iret),
  (71, i_iload 73 5),
  (73, i_ifle 76 104),
  (76, i_iload 78 4),
  (78, i_iflt 81 101),
  (81, i_iload 83 4),
  (83, i_i2l 84),
  (84, i_push 85 (.inl 3)),
  (85, i_iload 87 5),
  (87, i_bin 88 (fun x y => wr (x * y))),
  (88, i_i2l 89),
  (89, i_lbin 90 lAdd),
  (90, i_aload 91 0),
  (91, i_getR 94 12 20 (fun _ => 52)),
  (94, i_iload 95 2),
  (95, i_ald 96 20 lnR),
  (96, i_i2l 97),
  (97, i_lcmp 98),
  (98, i_ifle 101 104),
  (101, i_push 103 (.inl (-12))),
  (103, i_iret),
  (104, i_aload 105 0),
  (105, i_iload 106 1),
  (106, i_callV 109 2 (rcv 12) f_X12_begins),
  (109, i_push 110 (.inl 0)),
  (110, i_istore 112 6),
  (112, i_iload 114 6),
  (114, i_iload 116 5),
  (116, i_cmpge 119 214),
  (119, i_aload 120 0),
  (120, i_getR 123 12 20 (fun _ => 53)),
  (123, i_push 125 (.inl 90)),
  (125, i_iload 126 2),
  (126, i_bin 127 (fun x y => wr (x * y))),
  (127, i_iload 129 4),
  (129, i_bin 130 (fun x y => wr (x + y))),
  (130, i_push 131 (.inl 3)),
  (131, i_iload 133 6),
  (133, i_bin 134 (fun x y => wr (x * y))),
  (134, i_bin 135 (fun x y => wr (x + y))),
  (135, i_ald 136 20 lnR),
  (136, i_istore 138 7),
  (138, i_iload 140 7),
  (140, i_i2l 141),
  (141, i_push 142 (.inr (.inl 0))),
  (142, i_push 145 (.inr (.inl (3)))),
  (145, i_callI 148 3 anyv f_X12_in),
  (148, i_ifeq 151 198),
  (151, i_aload 152 0),
  (152, i_iload 154 7),
  (154, i_aload 155 0),
  (155, i_getR 158 12 20 (fun _ => 53)),
  (158, i_push 160 (.inl 90)),
  (160, i_iload 161 2),
  (161, i_bin 162 (fun x y => wr (x * y))),
  (162, i_iload 164 4),
  (164, i_bin 165 (fun x y => wr (x + y))),
  (165, i_push 166 (.inl 3)),
  (166, i_iload 168 6),
  (168, i_bin 169 (fun x y => wr (x * y))),
  (169, i_bin 170 (fun x y => wr (x + y))),
  (170, i_push 171 (.inl 1)),
  (171, i_bin 172 (fun x y => wr (x + y))),
  (172, i_ald 173 20 lnR),
  (173, i_aload 174 0),
  (174, i_getR 177 12 20 (fun _ => 53)),
  (177, i_push 179 (.inl 90)),
  (179, i_iload 180 2),
  (180, i_bin 181 (fun x y => wr (x * y))),
  (181, i_iload 183 4),
  (183, i_bin 184 (fun x y => wr (x + y))),
  (184, i_push 185 (.inl 3)),
  (185, i_iload 187 6),
  (187, i_bin 188 (fun x y => wr (x * y))),
  (188, i_bin 189 (fun x y => wr (x + y))),
  (189, i_push 190 (.inl 2)),
  (190, i_bin 191 (fun x y => wr (x + y))),
  (191, i_ald 192 20 lnR),
  (192, i_callI 195 4 (rcv 12) f_X12_steps),
  (195, i_ifge 198 204),
  (198, i_push 200 (.inl (-100))),
  (200, i_iload 202 6),
  (202, i_bin 203 (fun x y => wr (x - y))),
  (203, i_iret),
  (204, i_aload 205 0),
  (205, i_callV 208 1 (rcv 12) f_X12_goes),
  (208, i_iinc 211 6 (1)),
  (211, i_goto 112),
  (214, i_aload 215 0),
  (215, i_iload 216 1),
  (216, i_callI 219 2 (rcv 12) f_X12_isAtRight),
  (219, i_ifne 222 224),
  (222, i_push 223 (.inl 0)),
  (223, i_iret),
  (224, i_aload 225 0),
  (225, i_getI 228 12 16),
  (228, i_iload 230 5),
  (230, i_bin 231 (fun x y => wr (x + y))),
  (231, i_push 234 (.inl 200)),
  (234, i_cmple 237 240),
  (237, i_push 239 (.inl (-3))),
  (239, i_iret),
  (240, i_aload 241 0),
  (241, i_getR 244 12 20 (fun _ => 10)),
  (244, i_iload 245 1),
  (245, i_aload 246 0),
  (246, i_getI 249 12 16),
  (249, i_ast 250 20 lnR id),
  (250, i_aload 251 0),
  (251, i_getR 254 12 20 (fun _ => 11)),
  (254, i_iload 255 1),
  (255, i_iload 257 5),
  (257, i_ast 258 20 lnR id),
  (258, i_push 259 (.inl 0)),
  (259, i_istore 261 6),
  (261, i_iload 263 6),
  (263, i_iload 265 5),
  (265, i_cmpge 268 384),
  (268, i_aload 269 0),
  (269, i_getR 272 12 20 (fun _ => 14)),
  (272, i_aload 273 0),
  (273, i_getI 276 12 16),
  (276, i_aload 277 0),
  (277, i_getR 280 12 20 (fun _ => 53)),
  (280, i_push 282 (.inl 90)),
  (282, i_iload 283 2),
  (283, i_bin 284 (fun x y => wr (x * y))),
  (284, i_iload 286 4),
  (286, i_bin 287 (fun x y => wr (x + y))),
  (287, i_push 288 (.inl 3)),
  (288, i_iload 290 6),
  (290, i_bin 291 (fun x y => wr (x * y))),
  (291, i_bin 292 (fun x y => wr (x + y))),
  (292, i_ald 293 20 lnR),
  (293, i_ast 294 20 lnR id),
  (294, i_aload 295 0),
  (295, i_getR 298 12 20 (fun _ => 15)),
  (298, i_aload 299 0),
  (299, i_getI 302 12 16),
  (302, i_aload 303 0),
  (303, i_getR 306 12 20 (fun _ => 14)),
  (306, i_aload 307 0),
  (307, i_getI 310 12 16),
  (310, i_ald 311 20 lnR),
  (311, i_push 312 (.inl 2)),
  (312, i_cmpne 315 320),
  (315, i_push 317 (.inl (-4))),
  (317, i_goto 339),
  (320, i_aload 321 0),
  (321, i_getR 324 12 20 (fun _ => 53)),
  (324, i_push 326 (.inl 90)),
  (326, i_iload 327 2),
  (327, i_bin 328 (fun x y => wr (x * y))),
  (328, i_iload 330 4),
  (330, i_bin 331 (fun x y => wr (x + y))),
  (331, i_push 332 (.inl 3)),
  (332, i_iload 334 6),
  (334, i_bin 335 (fun x y => wr (x * y))),
  (335, i_bin 336 (fun x y => wr (x + y))),
  (336, i_push 337 (.inl 1)),
  (337, i_bin 338 (fun x y => wr (x + y))),
  (338, i_ald 339 20 lnR),
  (339, i_ast 340 20 lnR id),
  (340, i_aload 341 0),
  (341, i_getR 344 12 20 (fun _ => 16)),
  (344, i_aload 345 0),
  (345, i_getI 348 12 16),
  (348, i_aload 349 0),
  (349, i_getR 352 12 20 (fun _ => 53)),
  (352, i_push 354 (.inl 90)),
  (354, i_iload 355 2),
  (355, i_bin 356 (fun x y => wr (x * y))),
  (356, i_iload 358 4),
  (358, i_bin 359 (fun x y => wr (x + y))),
  (359, i_push 360 (.inl 3)),
  (360, i_iload 362 6),
  (362, i_bin 363 (fun x y => wr (x * y))),
  (363, i_bin 364 (fun x y => wr (x + y))),
  (364, i_push 365 (.inl 2)),
  (365, i_bin 366 (fun x y => wr (x + y))),
  (366, i_ald 367 20 lnR),
  (367, i_ast 368 20 lnR id),
  (368, i_aload 369 0),
  (369, i_dup 370),
  (370, i_getI 373 12 16),
  (373, i_push 374 (.inl 1)),
  (374, i_bin 375 (fun x y => wr (x + y))),
  (375, i_putI 378 12 16),
  (378, i_iinc 381 6 (1)),
  (381, i_goto 261),
  (384, i_aload 385 0),
  (385, i_getR 388 12 20 (fun _ => 13)),
  (388, i_iload 389 1),
  (389, i_aload 390 0),
  (390, i_getI 393 12 15),
  (393, i_ast 394 20 lnR id),
  (394, i_aload 395 0),
  (395, i_dup 396),
  (396, i_getI 399 12 15),
  (399, i_push 400 (.inl 1)),
  (400, i_bin 401 (fun x y => wr (x + y))),
  (401, i_putI 404 12 15),
  (404, i_aload 405 0),
  (405, i_getR 408 12 20 (fun _ => 12)),
  (408, i_iload 409 1),
  (409, i_push 411 (.inl (-4))),
  (411, i_ast 412 20 lnR id),
  (412, i_aload 413 0),
  (413, i_iload 414 1),
  (414, i_push 415 (.inl 2)),
  (415, i_callV 418 3 (rcv 12) f_X12_becomes),
  (418, i_aload 419 0),
  (419, i_aload 420 0),
  (420, i_getI 423 12 45),
  (423, i_iload 424 1),
  (424, i_cmpne 427 432),
  (427, i_push 429 (.inl (-4))),
  (429, i_goto 436),
  (432, i_aload 433 0),
  (433, i_getI 436 12 45),
  (436, i_putI 439 12 45),
  (439, i_push 440 (.inl 1)),
  (440, i_iret)]
noncomputable def kc_X12_read : Nat → Option Ins := lkp k_X12_read
noncomputable def f_X12_read : List AV → Mem → Option Rs := den 8 kc_X12_read
abbrev rm_X12_read : Room := { frames := 5, cells := 0, slots := 0, locals := 122 }
set_option maxRecDepth 100000 in
theorem kt_X12_read : TriC kc_X12_read := lkp_tri (fa1 (tri_aload 1 0) (fa1 (tri_iload 2 1) (fa1 (tri_callI 5 2 (rcv 12) f_X12_isSaying) (fa1 (tri_ifeq 8 29) (fa1 (tri_iload 9 2) (fa1 (tri_iload 10 3) (fa1 (tri_callI 13 2 anyv f_X12_isSheet) (fa1 (tri_ifeq 16 29) (fa1 (tri_iload 18 5) (fa1 (tri_i2l 19) (fa1 (tri_push 20 (.inr (.inl 0))) (fa1 (tri_push 23 (.inr (.inl (20)))) (fa1 (tri_callI 26 3 anyv f_X12_in) (fa1 (tri_ifne 29 31) (fa1 (tri_push 30 (.inl (-1))) (fa1 (tri_iret) (fa1 (tri_aload 32 0) (fa1 (tri_iload 33 1) (fa1 (tri_callI 36 2 (rcv 12) f_X12_isOpen) (fa1 (tri_ifne 39 42) (fa1 (tri_push 41 (.inl (-2))) (fa1 (tri_iret) (fa1 (tri_aload 43 0) (fa1 (tri_getR 46 12 20 (fun _ => 51)) (fa1 (tri_iload 47 2) (fa1 (tri_ald 48 20 lnR) (fa1 (tri_iload 49 3) (fa1 (tri_cmpeq 52 71) (fa1 (tri_aload 53 0) (fa1 (tri_getR 56 12 20 (fun _ => 51)) (fa1 (tri_iload 57 2) (fa1 (tri_ald 58 20 lnR) (fa1 (tri_push 60 (.inl (-4))) (fa1 (tri_cmpne 63 68) (fa1 (tri_push 65 (.inl (-11))) (fa1 (tri_goto 70) (fa1 (tri_push 70 (.inl (-13))) (fa1 (tri_iret) (fa1 (tri_iload 73 5) (fa1 (tri_ifle 76 104) (fa1 (tri_iload 78 4) (fa1 (tri_iflt 81 101) (fa1 (tri_iload 83 4) (fa1 (tri_i2l 84) (fa1 (tri_push 85 (.inl 3)) (fa1 (tri_iload 87 5) (fa1 (tri_bin 88 (fun x y => wr (x * y))) (fa1 (tri_i2l 89) (fa1 (tri_lbin 90 lAdd) (fa1 (tri_aload 91 0) (fa1 (tri_getR 94 12 20 (fun _ => 52)) (fa1 (tri_iload 95 2) (fa1 (tri_ald 96 20 lnR) (fa1 (tri_i2l 97) (fa1 (tri_lcmp 98) (fa1 (tri_ifle 101 104) (fa1 (tri_push 103 (.inl (-12))) (fa1 (tri_iret) (fa1 (tri_aload 105 0) (fa1 (tri_iload 106 1) (fa1 (tri_callV 109 2 (rcv 12) f_X12_begins) (fa1 (tri_push 110 (.inl 0)) (fa1 (tri_istore 112 6) (fa1 (tri_iload 114 6) (fa1 (tri_iload 116 5) (fa1 (tri_cmpge 119 214) (fa1 (tri_aload 120 0) (fa1 (tri_getR 123 12 20 (fun _ => 53)) (fa1 (tri_push 125 (.inl 90)) (fa1 (tri_iload 126 2) (fa1 (tri_bin 127 (fun x y => wr (x * y))) (fa1 (tri_iload 129 4) (fa1 (tri_bin 130 (fun x y => wr (x + y))) (fa1 (tri_push 131 (.inl 3)) (fa1 (tri_iload 133 6) (fa1 (tri_bin 134 (fun x y => wr (x * y))) (fa1 (tri_bin 135 (fun x y => wr (x + y))) (fa1 (tri_ald 136 20 lnR) (fa1 (tri_istore 138 7) (fa1 (tri_iload 140 7) (fa1 (tri_i2l 141) (fa1 (tri_push 142 (.inr (.inl 0))) (fa1 (tri_push 145 (.inr (.inl (3)))) (fa1 (tri_callI 148 3 anyv f_X12_in) (fa1 (tri_ifeq 151 198) (fa1 (tri_aload 152 0) (fa1 (tri_iload 154 7) (fa1 (tri_aload 155 0) (fa1 (tri_getR 158 12 20 (fun _ => 53)) (fa1 (tri_push 160 (.inl 90)) (fa1 (tri_iload 161 2) (fa1 (tri_bin 162 (fun x y => wr (x * y))) (fa1 (tri_iload 164 4) (fa1 (tri_bin 165 (fun x y => wr (x + y))) (fa1 (tri_push 166 (.inl 3)) (fa1 (tri_iload 168 6) (fa1 (tri_bin 169 (fun x y => wr (x * y))) (fa1 (tri_bin 170 (fun x y => wr (x + y))) (fa1 (tri_push 171 (.inl 1)) (fa1 (tri_bin 172 (fun x y => wr (x + y))) (fa1 (tri_ald 173 20 lnR) (fa1 (tri_aload 174 0) (fa1 (tri_getR 177 12 20 (fun _ => 53)) (fa1 (tri_push 179 (.inl 90)) (fa1 (tri_iload 180 2) (fa1 (tri_bin 181 (fun x y => wr (x * y))) (fa1 (tri_iload 183 4) (fa1 (tri_bin 184 (fun x y => wr (x + y))) (fa1 (tri_push 185 (.inl 3)) (fa1 (tri_iload 187 6) (fa1 (tri_bin 188 (fun x y => wr (x * y))) (fa1 (tri_bin 189 (fun x y => wr (x + y))) (fa1 (tri_push 190 (.inl 2)) (fa1 (tri_bin 191 (fun x y => wr (x + y))) (fa1 (tri_ald 192 20 lnR) (fa1 (tri_callI 195 4 (rcv 12) f_X12_steps) (fa1 (tri_ifge 198 204) (fa1 (tri_push 200 (.inl (-100))) (fa1 (tri_iload 202 6) (fa1 (tri_bin 203 (fun x y => wr (x - y))) (fa1 (tri_iret) (fa1 (tri_aload 205 0) (fa1 (tri_callV 208 1 (rcv 12) f_X12_goes) (fa1 (tri_iinc 211 6 (1)) (fa1 (tri_goto 112) (fa1 (tri_aload 215 0) (fa1 (tri_iload 216 1) (fa1 (tri_callI 219 2 (rcv 12) f_X12_isAtRight) (fa1 (tri_ifne 222 224) (fa1 (tri_push 223 (.inl 0)) (fa1 (tri_iret) (fa1 (tri_aload 225 0) (fa1 (tri_getI 228 12 16) (fa1 (tri_iload 230 5) (fa1 (tri_bin 231 (fun x y => wr (x + y))) (fa1 (tri_push 234 (.inl 200)) (fa1 (tri_cmple 237 240) (fa1 (tri_push 239 (.inl (-3))) (fa1 (tri_iret) (fa1 (tri_aload 241 0) (fa1 (tri_getR 244 12 20 (fun _ => 10)) (fa1 (tri_iload 245 1) (fa1 (tri_aload 246 0) (fa1 (tri_getI 249 12 16) (fa1 (tri_ast 250 20 lnR id) (fa1 (tri_aload 251 0) (fa1 (tri_getR 254 12 20 (fun _ => 11)) (fa1 (tri_iload 255 1) (fa1 (tri_iload 257 5) (fa1 (tri_ast 258 20 lnR id) (fa1 (tri_push 259 (.inl 0)) (fa1 (tri_istore 261 6) (fa1 (tri_iload 263 6) (fa1 (tri_iload 265 5) (fa1 (tri_cmpge 268 384) (fa1 (tri_aload 269 0) (fa1 (tri_getR 272 12 20 (fun _ => 14)) (fa1 (tri_aload 273 0) (fa1 (tri_getI 276 12 16) (fa1 (tri_aload 277 0) (fa1 (tri_getR 280 12 20 (fun _ => 53)) (fa1 (tri_push 282 (.inl 90)) (fa1 (tri_iload 283 2) (fa1 (tri_bin 284 (fun x y => wr (x * y))) (fa1 (tri_iload 286 4) (fa1 (tri_bin 287 (fun x y => wr (x + y))) (fa1 (tri_push 288 (.inl 3)) (fa1 (tri_iload 290 6) (fa1 (tri_bin 291 (fun x y => wr (x * y))) (fa1 (tri_bin 292 (fun x y => wr (x + y))) (fa1 (tri_ald 293 20 lnR) (fa1 (tri_ast 294 20 lnR id) (fa1 (tri_aload 295 0) (fa1 (tri_getR 298 12 20 (fun _ => 15)) (fa1 (tri_aload 299 0) (fa1 (tri_getI 302 12 16) (fa1 (tri_aload 303 0) (fa1 (tri_getR 306 12 20 (fun _ => 14)) (fa1 (tri_aload 307 0) (fa1 (tri_getI 310 12 16) (fa1 (tri_ald 311 20 lnR) (fa1 (tri_push 312 (.inl 2)) (fa1 (tri_cmpne 315 320) (fa1 (tri_push 317 (.inl (-4))) (fa1 (tri_goto 339) (fa1 (tri_aload 321 0) (fa1 (tri_getR 324 12 20 (fun _ => 53)) (fa1 (tri_push 326 (.inl 90)) (fa1 (tri_iload 327 2) (fa1 (tri_bin 328 (fun x y => wr (x * y))) (fa1 (tri_iload 330 4) (fa1 (tri_bin 331 (fun x y => wr (x + y))) (fa1 (tri_push 332 (.inl 3)) (fa1 (tri_iload 334 6) (fa1 (tri_bin 335 (fun x y => wr (x * y))) (fa1 (tri_bin 336 (fun x y => wr (x + y))) (fa1 (tri_push 337 (.inl 1)) (fa1 (tri_bin 338 (fun x y => wr (x + y))) (fa1 (tri_ald 339 20 lnR) (fa1 (tri_ast 340 20 lnR id) (fa1 (tri_aload 341 0) (fa1 (tri_getR 344 12 20 (fun _ => 16)) (fa1 (tri_aload 345 0) (fa1 (tri_getI 348 12 16) (fa1 (tri_aload 349 0) (fa1 (tri_getR 352 12 20 (fun _ => 53)) (fa1 (tri_push 354 (.inl 90)) (fa1 (tri_iload 355 2) (fa1 (tri_bin 356 (fun x y => wr (x * y))) (fa1 (tri_iload 358 4) (fa1 (tri_bin 359 (fun x y => wr (x + y))) (fa1 (tri_push 360 (.inl 3)) (fa1 (tri_iload 362 6) (fa1 (tri_bin 363 (fun x y => wr (x * y))) (fa1 (tri_bin 364 (fun x y => wr (x + y))) (fa1 (tri_push 365 (.inl 2)) (fa1 (tri_bin 366 (fun x y => wr (x + y))) (fa1 (tri_ald 367 20 lnR) (fa1 (tri_ast 368 20 lnR id) (fa1 (tri_aload 369 0) (fa1 (tri_dup 370) (fa1 (tri_getI 373 12 16) (fa1 (tri_push 374 (.inl 1)) (fa1 (tri_bin 375 (fun x y => wr (x + y))) (fa1 (tri_putI 378 12 16) (fa1 (tri_iinc 381 6 (1)) (fa1 (tri_goto 261) (fa1 (tri_aload 385 0) (fa1 (tri_getR 388 12 20 (fun _ => 13)) (fa1 (tri_iload 389 1) (fa1 (tri_aload 390 0) (fa1 (tri_getI 393 12 15) (fa1 (tri_ast 394 20 lnR id) (fa1 (tri_aload 395 0) (fa1 (tri_dup 396) (fa1 (tri_getI 399 12 15) (fa1 (tri_push 400 (.inl 1)) (fa1 (tri_bin 401 (fun x y => wr (x + y))) (fa1 (tri_putI 404 12 15) (fa1 (tri_aload 405 0) (fa1 (tri_getR 408 12 20 (fun _ => 12)) (fa1 (tri_iload 409 1) (fa1 (tri_push 411 (.inl (-4))) (fa1 (tri_ast 412 20 lnR id) (fa1 (tri_aload 413 0) (fa1 (tri_iload 414 1) (fa1 (tri_push 415 (.inl 2)) (fa1 (tri_callV 418 3 (rcv 12) f_X12_becomes) (fa1 (tri_aload 419 0) (fa1 (tri_aload 420 0) (fa1 (tri_getI 423 12 45) (fa1 (tri_iload 424 1) (fa1 (tri_cmpne 427 432) (fa1 (tri_push 429 (.inl (-4))) (fa1 (tri_goto 436) (fa1 (tri_aload 433 0) (fa1 (tri_getI 436 12 45) (fa1 (tri_putI 439 12 45) (fa1 (tri_push 440 (.inl 1)) (fa1 (tri_iret) (fa0)))))))))))))))))))))))))))))))))))))))))))))))))))))))))))))))))))))))))))))))))))))))))))))))))))))))))))))))))))))))))))))))))))))))))))))))))))))))))))))))))))))))))))))))))))))))))))))))))))))))))))))))))))))))))))))))))))))))))))))))))))))))))))))))))))))
set_option maxRecDepth 100000 in
set_option maxHeartbeats 4000000 in
theorem ks_X12_read (G : Wp) (l : Launch) : ∀ e ∈ k_X12_read, Snd loR G l RX12 cX12_read 8 (some .int) rm_X12_read e.1 e.2 :=
  fa1 (s_aload_n (kf := 0) (j := 0) (by decide +kernel) rfl) <|
  fa1 (s_iload_n (kf := 1) (j := 1) (by decide +kernel) rfl) <|
  fa1 (s_vcallI (n := 1) (ci := 12) (C := RX12) (T := TX12) (NF := 83) (idx := 287) (y := yX12_isSaying) (by decide +kernel) (gg_X12_isSaying) rfl (by decide) yv_X12_isSaying (all5 w_1581 w_1583 w_56 w_113 w_1584) rfl rfl ⟨by decide, by decide⟩) <|
  fa1 (s_ifeq (off := 24) (by decide +kernel) (by decide)) <|
  fa1 (s_iload_n (kf := 2) (j := 2) (by decide +kernel) rfl) <|
  fa1 (s_iload_n (kf := 3) (j := 3) (by decide +kernel) rfl) <|
  fa1 (s_scallI (n := 2) (idx := 494) (y := yX12_isSheet) (by decide +kernel) (gg_X12_isSheet) yv_X12_isSheet (all4 w_1847 w_1848 w_113 w_1849) rfl rfl ⟨by decide, by decide⟩) <|
  fa1 (s_ifeq (off := 16) (by decide +kernel) (by decide)) <|
  fa1 (s_iload (j := 5) (by decide +kernel)) <|
  fa1 (s_i2l (by decide +kernel)) <|
  fa1 (s_lconst (n := 0) (v := 0) (by decide +kernel) (by decide +kernel) (p64 rfl)) <|
  fa1 (s_ldc2 (idx := 413) (v := 20) (by decide +kernel) w_1719 (p64 rfl)) <|
  fa1 (s_scallI (n := 3) (idx := 187) (y := yX12_in) (by decide +kernel) (gg_X12_in) yv_X12_in (all4 w_1498 w_1499 w_113 w_1500) rfl rfl ⟨by decide, by decide⟩) <|
  fa1 (s_ifne (off := 5) (by decide +kernel) (by decide)) <|
  fa1 (s_iconst (n := -1) (v := -1) (by decide +kernel) (by decide +kernel) (p32 rfl)) <|
  fa1 (s_iret (by decide +kernel) rfl) <|
  fa1 (s_aload_n (kf := 0) (j := 0) (by decide +kernel) rfl) <|
  fa1 (s_iload_n (kf := 1) (j := 1) (by decide +kernel) rfl) <|
  fa1 (s_vcallI (n := 1) (ci := 12) (C := RX12) (T := TX12) (NF := 83) (idx := 361) (y := yX12_isOpen) (by decide +kernel) (gg_X12_isOpen) rfl (by decide) yv_X12_isOpen (all5 w_1666 w_1668 w_71 w_113 w_1669) rfl rfl ⟨by decide, by decide⟩) <|
  fa1 (s_ifne (off := 6) (by decide +kernel) (by decide)) <|
  fa1 (s_bipush (n := -2) (v := -2) (by decide +kernel) (by decide +kernel) (p32 rfl)) <|
  fa1 (s_iret (by decide +kernel) rfl) <|
  fa1 (s_aload_n (kf := 0) (j := 0) (by decide +kernel) rfl) <|
  fa1 (s_getR (t2 := 20) (g := (fun _ => 51)) (ci := 12) (f := 80) (idx := 165) (C := RX12) (T := TX12) (NF := 83) (by decide +kernel) rfl (by decide) inG_X12 (by decide) w_1318 lr_X12_80 (by decide)) <|
  fa1 (s_iload_n (kf := 2) (j := 2) (by decide +kernel) rfl) <|
  fa1 (s_iald (by decide +kernel)) <|
  fa1 (s_iload_n (kf := 3) (j := 3) (by decide +kernel) rfl) <|
  fa1 (s_cmpeq (off := 22) (by decide +kernel) (by decide)) <|
  fa1 (s_aload_n (kf := 0) (j := 0) (by decide +kernel) rfl) <|
  fa1 (s_getR (t2 := 20) (g := (fun _ => 51)) (ci := 12) (f := 80) (idx := 165) (C := RX12) (T := TX12) (NF := 83) (by decide +kernel) rfl (by decide) inG_X12 (by decide) w_1318 lr_X12_80 (by decide)) <|
  fa1 (s_iload_n (kf := 2) (j := 2) (by decide +kernel) rfl) <|
  fa1 (s_iald (by decide +kernel)) <|
  fa1 (s_bipush (n := -4) (v := -4) (by decide +kernel) (by decide +kernel) (p32 rfl)) <|
  fa1 (s_cmpne (off := 8) (by decide +kernel) (by decide)) <|
  fa1 (s_bipush (n := -11) (v := -11) (by decide +kernel) (by decide +kernel) (p32 rfl)) <|
  fa1 (s_goto (off := 5) (by decide +kernel) (by decide)) <|
  fa1 (s_bipush (n := -13) (v := -13) (by decide +kernel) (by decide +kernel) (p32 rfl)) <|
  fa1 (s_iret (by decide +kernel) rfl) <|
  fa1 (s_iload (j := 5) (by decide +kernel)) <|
  fa1 (s_ifle (off := 31) (by decide +kernel) (by decide)) <|
  fa1 (s_iload (j := 4) (by decide +kernel)) <|
  fa1 (s_iflt (off := 23) (by decide +kernel) (by decide)) <|
  fa1 (s_iload (j := 4) (by decide +kernel)) <|
  fa1 (s_i2l (by decide +kernel)) <|
  fa1 (s_iconst (n := 3) (v := 3) (by decide +kernel) (by decide +kernel) (p32 rfl)) <|
  fa1 (s_iload (j := 5) (by decide +kernel)) <|
  fa1 (s_imul (by decide +kernel)) <|
  fa1 (s_i2l (by decide +kernel)) <|
  fa1 (s_ladd (by decide +kernel)) <|
  fa1 (s_aload_n (kf := 0) (j := 0) (by decide +kernel) rfl) <|
  fa1 (s_getR (t2 := 20) (g := (fun _ => 52)) (ci := 12) (f := 81) (idx := 168) (C := RX12) (T := TX12) (NF := 83) (by decide +kernel) rfl (by decide) inG_X12 (by decide) w_1319 lr_X12_81 (by decide)) <|
  fa1 (s_iload_n (kf := 2) (j := 2) (by decide +kernel) rfl) <|
  fa1 (s_iald (by decide +kernel)) <|
  fa1 (s_i2l (by decide +kernel)) <|
  fa1 (s_lcmp (by decide +kernel)) <|
  fa1 (s_ifle (off := 6) (by decide +kernel) (by decide)) <|
  fa1 (s_bipush (n := -12) (v := -12) (by decide +kernel) (by decide +kernel) (p32 rfl)) <|
  fa1 (s_iret (by decide +kernel) rfl) <|
  fa1 (s_aload_n (kf := 0) (j := 0) (by decide +kernel) rfl) <|
  fa1 (s_iload_n (kf := 1) (j := 1) (by decide +kernel) rfl) <|
  fa1 (s_vcallV (n := 1) (ci := 12) (C := RX12) (T := TX12) (NF := 83) (idx := 345) (y := yX12_begins) (by decide +kernel) (gg_X12_begins) rfl (by decide) yv_X12_begins (all5 w_1618 w_1620 w_62 w_113 w_1621) rfl rfl ⟨by decide, by decide⟩) <|
  fa1 (s_iconst (n := 0) (v := 0) (by decide +kernel) (by decide +kernel) (p32 rfl)) <|
  fa1 (s_istore (j := 6) (by decide +kernel) (by decide)) <|
  fa1 (s_iload (j := 6) (by decide +kernel)) <|
  fa1 (s_iload (j := 5) (by decide +kernel)) <|
  fa1 (s_cmpge (off := 98) (by decide +kernel) (by decide)) <|
  fa1 (s_aload_n (kf := 0) (j := 0) (by decide +kernel) rfl) <|
  fa1 (s_getR (t2 := 20) (g := (fun _ => 53)) (ci := 12) (f := 82) (idx := 171) (C := RX12) (T := TX12) (NF := 83) (by decide +kernel) rfl (by decide) inG_X12 (by decide) w_1320 lr_X12_82 (by decide)) <|
  fa1 (s_bipush (n := 90) (v := 90) (by decide +kernel) (by decide +kernel) (p32 rfl)) <|
  fa1 (s_iload_n (kf := 2) (j := 2) (by decide +kernel) rfl) <|
  fa1 (s_imul (by decide +kernel)) <|
  fa1 (s_iload (j := 4) (by decide +kernel)) <|
  fa1 (s_iadd (by decide +kernel)) <|
  fa1 (s_iconst (n := 3) (v := 3) (by decide +kernel) (by decide +kernel) (p32 rfl)) <|
  fa1 (s_iload (j := 6) (by decide +kernel)) <|
  fa1 (s_imul (by decide +kernel)) <|
  fa1 (s_iadd (by decide +kernel)) <|
  fa1 (s_iald (by decide +kernel)) <|
  fa1 (s_istore (j := 7) (by decide +kernel) (by decide)) <|
  fa1 (s_iload (j := 7) (by decide +kernel)) <|
  fa1 (s_i2l (by decide +kernel)) <|
  fa1 (s_lconst (n := 0) (v := 0) (by decide +kernel) (by decide +kernel) (p64 rfl)) <|
  fa1 (s_ldc2 (idx := 364) (v := 3) (by decide +kernel) w_1674 (p64 rfl)) <|
  fa1 (s_scallI (n := 3) (idx := 187) (y := yX12_in) (by decide +kernel) (gg_X12_in) yv_X12_in (all4 w_1498 w_1499 w_113 w_1500) rfl rfl ⟨by decide, by decide⟩) <|
  fa1 (s_ifeq (off := 50) (by decide +kernel) (by decide)) <|
  fa1 (s_aload_n (kf := 0) (j := 0) (by decide +kernel) rfl) <|
  fa1 (s_iload (j := 7) (by decide +kernel)) <|
  fa1 (s_aload_n (kf := 0) (j := 0) (by decide +kernel) rfl) <|
  fa1 (s_getR (t2 := 20) (g := (fun _ => 53)) (ci := 12) (f := 82) (idx := 171) (C := RX12) (T := TX12) (NF := 83) (by decide +kernel) rfl (by decide) inG_X12 (by decide) w_1320 lr_X12_82 (by decide)) <|
  fa1 (s_bipush (n := 90) (v := 90) (by decide +kernel) (by decide +kernel) (p32 rfl)) <|
  fa1 (s_iload_n (kf := 2) (j := 2) (by decide +kernel) rfl) <|
  fa1 (s_imul (by decide +kernel)) <|
  fa1 (s_iload (j := 4) (by decide +kernel)) <|
  fa1 (s_iadd (by decide +kernel)) <|
  fa1 (s_iconst (n := 3) (v := 3) (by decide +kernel) (by decide +kernel) (p32 rfl)) <|
  fa1 (s_iload (j := 6) (by decide +kernel)) <|
  fa1 (s_imul (by decide +kernel)) <|
  fa1 (s_iadd (by decide +kernel)) <|
  fa1 (s_iconst (n := 1) (v := 1) (by decide +kernel) (by decide +kernel) (p32 rfl)) <|
  fa1 (s_iadd (by decide +kernel)) <|
  fa1 (s_iald (by decide +kernel)) <|
  fa1 (s_aload_n (kf := 0) (j := 0) (by decide +kernel) rfl) <|
  fa1 (s_getR (t2 := 20) (g := (fun _ => 53)) (ci := 12) (f := 82) (idx := 171) (C := RX12) (T := TX12) (NF := 83) (by decide +kernel) rfl (by decide) inG_X12 (by decide) w_1320 lr_X12_82 (by decide)) <|
  fa1 (s_bipush (n := 90) (v := 90) (by decide +kernel) (by decide +kernel) (p32 rfl)) <|
  fa1 (s_iload_n (kf := 2) (j := 2) (by decide +kernel) rfl) <|
  fa1 (s_imul (by decide +kernel)) <|
  fa1 (s_iload (j := 4) (by decide +kernel)) <|
  fa1 (s_iadd (by decide +kernel)) <|
  fa1 (s_iconst (n := 3) (v := 3) (by decide +kernel) (by decide +kernel) (p32 rfl)) <|
  fa1 (s_iload (j := 6) (by decide +kernel)) <|
  fa1 (s_imul (by decide +kernel)) <|
  fa1 (s_iadd (by decide +kernel)) <|
  fa1 (s_iconst (n := 2) (v := 2) (by decide +kernel) (by decide +kernel) (p32 rfl)) <|
  fa1 (s_iadd (by decide +kernel)) <|
  fa1 (s_iald (by decide +kernel)) <|
  fa1 (s_vcallI (n := 3) (ci := 12) (C := RX12) (T := TX12) (NF := 83) (idx := 348) (y := yX12_steps) (by decide +kernel) (gg_X12_steps) rfl (by decide) yv_X12_steps (all5 w_1622 w_1624 w_63 w_113 w_1625) rfl rfl ⟨by decide, by decide⟩) <|
  fa1 (s_ifge (off := 9) (by decide +kernel) (by decide)) <|
  fa1 (s_bipush (n := -100) (v := -100) (by decide +kernel) (by decide +kernel) (p32 rfl)) <|
  fa1 (s_iload (j := 6) (by decide +kernel)) <|
  fa1 (s_isub (by decide +kernel)) <|
  fa1 (s_iret (by decide +kernel) rfl) <|
  fa1 (s_aload_n (kf := 0) (j := 0) (by decide +kernel) rfl) <|
  fa1 (s_vcallV (n := 0) (ci := 12) (C := RX12) (T := TX12) (NF := 83) (idx := 352) (y := yX12_goes) (by decide +kernel) (gg_X12_goes) rfl (by decide) yv_X12_goes (all5 w_1650 w_1652 w_70 w_113 w_1653) rfl rfl ⟨by decide, by decide⟩) <|
  fa1 (s_iinc (j := 6) (d := 1) (by decide +kernel) (by decide)) <|
  fa1 (s_goto (off := -99) (by decide +kernel) (by decide)) <|
  fa1 (s_aload_n (kf := 0) (j := 0) (by decide +kernel) rfl) <|
  fa1 (s_iload_n (kf := 1) (j := 1) (by decide +kernel) rfl) <|
  fa1 (s_vcallI (n := 1) (ci := 12) (C := RX12) (T := TX12) (NF := 83) (idx := 369) (y := yX12_isAtRight) (by decide +kernel) (gg_X12_isAtRight) rfl (by decide) yv_X12_isAtRight (all5 w_1687 w_1689 w_73 w_113 w_1690) rfl rfl ⟨by decide, by decide⟩) <|
  fa1 (s_ifne (off := 5) (by decide +kernel) (by decide)) <|
  fa1 (s_iconst (n := 0) (v := 0) (by decide +kernel) (by decide +kernel) (p32 rfl)) <|
  fa1 (s_iret (by decide +kernel) rfl) <|
  fa1 (s_aload_n (kf := 0) (j := 0) (by decide +kernel) rfl) <|
  fa1 (s_getI (ci := 12) (f := 16) (idx := 372) (C := RX12) (T := TX12) (NF := 83) (by decide +kernel) rfl (by decide) inG_X12 (by decide) w_1254 li_X12_16) <|
  fa1 (s_iload (j := 5) (by decide +kernel)) <|
  fa1 (s_iadd (by decide +kernel)) <|
  fa1 (s_sipush (n := 200) (v := 200) (by decide +kernel) (by decide +kernel) (p32 rfl)) <|
  fa1 (s_cmple (off := 6) (by decide +kernel) (by decide)) <|
  fa1 (s_bipush (n := -3) (v := -3) (by decide +kernel) (by decide +kernel) (p32 rfl)) <|
  fa1 (s_iret (by decide +kernel) rfl) <|
  fa1 (s_aload_n (kf := 0) (j := 0) (by decide +kernel) rfl) <|
  fa1 (s_getR (t2 := 20) (g := (fun _ => 10)) (ci := 12) (f := 11) (idx := 37) (C := RX12) (T := TX12) (NF := 83) (by decide +kernel) rfl (by decide) inG_X12 (by decide) w_1249 lr_X12_11 (by decide)) <|
  fa1 (s_iload_n (kf := 1) (j := 1) (by decide +kernel) rfl) <|
  fa1 (s_aload_n (kf := 0) (j := 0) (by decide +kernel) rfl) <|
  fa1 (s_getI (ci := 12) (f := 16) (idx := 372) (C := RX12) (T := TX12) (NF := 83) (by decide +kernel) rfl (by decide) inG_X12 (by decide) w_1254 li_X12_16) <|
  fa1 (s_iast (by decide +kernel) lt_loR_20) <|
  fa1 (s_aload_n (kf := 0) (j := 0) (by decide +kernel) rfl) <|
  fa1 (s_getR (t2 := 20) (g := (fun _ => 11)) (ci := 12) (f := 12) (idx := 40) (C := RX12) (T := TX12) (NF := 83) (by decide +kernel) rfl (by decide) inG_X12 (by decide) w_1250 lr_X12_12 (by decide)) <|
  fa1 (s_iload_n (kf := 1) (j := 1) (by decide +kernel) rfl) <|
  fa1 (s_iload (j := 5) (by decide +kernel)) <|
  fa1 (s_iast (by decide +kernel) lt_loR_20) <|
  fa1 (s_iconst (n := 0) (v := 0) (by decide +kernel) (by decide +kernel) (p32 rfl)) <|
  fa1 (s_istore (j := 6) (by decide +kernel) (by decide)) <|
  fa1 (s_iload (j := 6) (by decide +kernel)) <|
  fa1 (s_iload (j := 5) (by decide +kernel)) <|
  fa1 (s_cmpge (off := 119) (by decide +kernel) (by decide)) <|
  fa1 (s_aload_n (kf := 0) (j := 0) (by decide +kernel) rfl) <|
  fa1 (s_getR (t2 := 20) (g := (fun _ => 14)) (ci := 12) (f := 17) (idx := 49) (C := RX12) (T := TX12) (NF := 83) (by decide +kernel) rfl (by decide) inG_X12 (by decide) w_1255 lr_X12_17 (by decide)) <|
  fa1 (s_aload_n (kf := 0) (j := 0) (by decide +kernel) rfl) <|
  fa1 (s_getI (ci := 12) (f := 16) (idx := 372) (C := RX12) (T := TX12) (NF := 83) (by decide +kernel) rfl (by decide) inG_X12 (by decide) w_1254 li_X12_16) <|
  fa1 (s_aload_n (kf := 0) (j := 0) (by decide +kernel) rfl) <|
  fa1 (s_getR (t2 := 20) (g := (fun _ => 53)) (ci := 12) (f := 82) (idx := 171) (C := RX12) (T := TX12) (NF := 83) (by decide +kernel) rfl (by decide) inG_X12 (by decide) w_1320 lr_X12_82 (by decide)) <|
  fa1 (s_bipush (n := 90) (v := 90) (by decide +kernel) (by decide +kernel) (p32 rfl)) <|
  fa1 (s_iload_n (kf := 2) (j := 2) (by decide +kernel) rfl) <|
  fa1 (s_imul (by decide +kernel)) <|
  fa1 (s_iload (j := 4) (by decide +kernel)) <|
  fa1 (s_iadd (by decide +kernel)) <|
  fa1 (s_iconst (n := 3) (v := 3) (by decide +kernel) (by decide +kernel) (p32 rfl)) <|
  fa1 (s_iload (j := 6) (by decide +kernel)) <|
  fa1 (s_imul (by decide +kernel)) <|
  fa1 (s_iadd (by decide +kernel)) <|
  fa1 (s_iald (by decide +kernel)) <|
  fa1 (s_iast (by decide +kernel) lt_loR_20) <|
  fa1 (s_aload_n (kf := 0) (j := 0) (by decide +kernel) rfl) <|
  fa1 (s_getR (t2 := 20) (g := (fun _ => 15)) (ci := 12) (f := 18) (idx := 52) (C := RX12) (T := TX12) (NF := 83) (by decide +kernel) rfl (by decide) inG_X12 (by decide) w_1256 lr_X12_18 (by decide)) <|
  fa1 (s_aload_n (kf := 0) (j := 0) (by decide +kernel) rfl) <|
  fa1 (s_getI (ci := 12) (f := 16) (idx := 372) (C := RX12) (T := TX12) (NF := 83) (by decide +kernel) rfl (by decide) inG_X12 (by decide) w_1254 li_X12_16) <|
  fa1 (s_aload_n (kf := 0) (j := 0) (by decide +kernel) rfl) <|
  fa1 (s_getR (t2 := 20) (g := (fun _ => 14)) (ci := 12) (f := 17) (idx := 49) (C := RX12) (T := TX12) (NF := 83) (by decide +kernel) rfl (by decide) inG_X12 (by decide) w_1255 lr_X12_17 (by decide)) <|
  fa1 (s_aload_n (kf := 0) (j := 0) (by decide +kernel) rfl) <|
  fa1 (s_getI (ci := 12) (f := 16) (idx := 372) (C := RX12) (T := TX12) (NF := 83) (by decide +kernel) rfl (by decide) inG_X12 (by decide) w_1254 li_X12_16) <|
  fa1 (s_iald (by decide +kernel)) <|
  fa1 (s_iconst (n := 2) (v := 2) (by decide +kernel) (by decide +kernel) (p32 rfl)) <|
  fa1 (s_cmpne (off := 8) (by decide +kernel) (by decide)) <|
  fa1 (s_bipush (n := -4) (v := -4) (by decide +kernel) (by decide +kernel) (p32 rfl)) <|
  fa1 (s_goto (off := 22) (by decide +kernel) (by decide)) <|
  fa1 (s_aload_n (kf := 0) (j := 0) (by decide +kernel) rfl) <|
  fa1 (s_getR (t2 := 20) (g := (fun _ => 53)) (ci := 12) (f := 82) (idx := 171) (C := RX12) (T := TX12) (NF := 83) (by decide +kernel) rfl (by decide) inG_X12 (by decide) w_1320 lr_X12_82 (by decide)) <|
  fa1 (s_bipush (n := 90) (v := 90) (by decide +kernel) (by decide +kernel) (p32 rfl)) <|
  fa1 (s_iload_n (kf := 2) (j := 2) (by decide +kernel) rfl) <|
  fa1 (s_imul (by decide +kernel)) <|
  fa1 (s_iload (j := 4) (by decide +kernel)) <|
  fa1 (s_iadd (by decide +kernel)) <|
  fa1 (s_iconst (n := 3) (v := 3) (by decide +kernel) (by decide +kernel) (p32 rfl)) <|
  fa1 (s_iload (j := 6) (by decide +kernel)) <|
  fa1 (s_imul (by decide +kernel)) <|
  fa1 (s_iadd (by decide +kernel)) <|
  fa1 (s_iconst (n := 1) (v := 1) (by decide +kernel) (by decide +kernel) (p32 rfl)) <|
  fa1 (s_iadd (by decide +kernel)) <|
  fa1 (s_iald (by decide +kernel)) <|
  fa1 (s_iast (by decide +kernel) lt_loR_20) <|
  fa1 (s_aload_n (kf := 0) (j := 0) (by decide +kernel) rfl) <|
  fa1 (s_getR (t2 := 20) (g := (fun _ => 16)) (ci := 12) (f := 19) (idx := 55) (C := RX12) (T := TX12) (NF := 83) (by decide +kernel) rfl (by decide) inG_X12 (by decide) w_1257 lr_X12_19 (by decide)) <|
  fa1 (s_aload_n (kf := 0) (j := 0) (by decide +kernel) rfl) <|
  fa1 (s_getI (ci := 12) (f := 16) (idx := 372) (C := RX12) (T := TX12) (NF := 83) (by decide +kernel) rfl (by decide) inG_X12 (by decide) w_1254 li_X12_16) <|
  fa1 (s_aload_n (kf := 0) (j := 0) (by decide +kernel) rfl) <|
  fa1 (s_getR (t2 := 20) (g := (fun _ => 53)) (ci := 12) (f := 82) (idx := 171) (C := RX12) (T := TX12) (NF := 83) (by decide +kernel) rfl (by decide) inG_X12 (by decide) w_1320 lr_X12_82 (by decide)) <|
  fa1 (s_bipush (n := 90) (v := 90) (by decide +kernel) (by decide +kernel) (p32 rfl)) <|
  fa1 (s_iload_n (kf := 2) (j := 2) (by decide +kernel) rfl) <|
  fa1 (s_imul (by decide +kernel)) <|
  fa1 (s_iload (j := 4) (by decide +kernel)) <|
  fa1 (s_iadd (by decide +kernel)) <|
  fa1 (s_iconst (n := 3) (v := 3) (by decide +kernel) (by decide +kernel) (p32 rfl)) <|
  fa1 (s_iload (j := 6) (by decide +kernel)) <|
  fa1 (s_imul (by decide +kernel)) <|
  fa1 (s_iadd (by decide +kernel)) <|
  fa1 (s_iconst (n := 2) (v := 2) (by decide +kernel) (by decide +kernel) (p32 rfl)) <|
  fa1 (s_iadd (by decide +kernel)) <|
  fa1 (s_iald (by decide +kernel)) <|
  fa1 (s_iast (by decide +kernel) lt_loR_20) <|
  fa1 (s_aload_n (kf := 0) (j := 0) (by decide +kernel) rfl) <|
  fa1 (s_dup (by decide +kernel)) <|
  fa1 (s_getI (ci := 12) (f := 16) (idx := 372) (C := RX12) (T := TX12) (NF := 83) (by decide +kernel) rfl (by decide) inG_X12 (by decide) w_1254 li_X12_16) <|
  fa1 (s_iconst (n := 1) (v := 1) (by decide +kernel) (by decide +kernel) (p32 rfl)) <|
  fa1 (s_iadd (by decide +kernel)) <|
  fa1 (s_putI (ci := 12) (f := 16) (idx := 372) (C := RX12) (T := TX12) (NF := 83) (by decide +kernel) rfl (by decide) inG_X12 (by decide) w_1254 tyX12 tyX12_ok nmX12 rfl (by decide +kernel) li_X12_16) <|
  fa1 (s_iinc (j := 6) (d := 1) (by decide +kernel) (by decide)) <|
  fa1 (s_goto (off := -120) (by decide +kernel) (by decide)) <|
  fa1 (s_aload_n (kf := 0) (j := 0) (by decide +kernel) rfl) <|
  fa1 (s_getR (t2 := 20) (g := (fun _ => 13)) (ci := 12) (f := 14) (idx := 46) (C := RX12) (T := TX12) (NF := 83) (by decide +kernel) rfl (by decide) inG_X12 (by decide) w_1252 lr_X12_14 (by decide)) <|
  fa1 (s_iload_n (kf := 1) (j := 1) (by decide +kernel) rfl) <|
  fa1 (s_aload_n (kf := 0) (j := 0) (by decide +kernel) rfl) <|
  fa1 (s_getI (ci := 12) (f := 15) (idx := 375) (C := RX12) (T := TX12) (NF := 83) (by decide +kernel) rfl (by decide) inG_X12 (by decide) w_1253 li_X12_15) <|
  fa1 (s_iast (by decide +kernel) lt_loR_20) <|
  fa1 (s_aload_n (kf := 0) (j := 0) (by decide +kernel) rfl) <|
  fa1 (s_dup (by decide +kernel)) <|
  fa1 (s_getI (ci := 12) (f := 15) (idx := 375) (C := RX12) (T := TX12) (NF := 83) (by decide +kernel) rfl (by decide) inG_X12 (by decide) w_1253 li_X12_15) <|
  fa1 (s_iconst (n := 1) (v := 1) (by decide +kernel) (by decide +kernel) (p32 rfl)) <|
  fa1 (s_iadd (by decide +kernel)) <|
  fa1 (s_putI (ci := 12) (f := 15) (idx := 375) (C := RX12) (T := TX12) (NF := 83) (by decide +kernel) rfl (by decide) inG_X12 (by decide) w_1253 tyX12 tyX12_ok nmX12 rfl (by decide +kernel) li_X12_15) <|
  fa1 (s_aload_n (kf := 0) (j := 0) (by decide +kernel) rfl) <|
  fa1 (s_getR (t2 := 20) (g := (fun _ => 12)) (ci := 12) (f := 13) (idx := 43) (C := RX12) (T := TX12) (NF := 83) (by decide +kernel) rfl (by decide) inG_X12 (by decide) w_1251 lr_X12_13 (by decide)) <|
  fa1 (s_iload_n (kf := 1) (j := 1) (by decide +kernel) rfl) <|
  fa1 (s_bipush (n := -4) (v := -4) (by decide +kernel) (by decide +kernel) (p32 rfl)) <|
  fa1 (s_iast (by decide +kernel) lt_loR_20) <|
  fa1 (s_aload_n (kf := 0) (j := 0) (by decide +kernel) rfl) <|
  fa1 (s_iload_n (kf := 1) (j := 1) (by decide +kernel) rfl) <|
  fa1 (s_iconst (n := 2) (v := 2) (by decide +kernel) (by decide +kernel) (p32 rfl)) <|
  fa1 (s_vcallV (n := 2) (ci := 12) (C := RX12) (T := TX12) (NF := 83) (idx := 378) (y := yX12_becomes) (by decide +kernel) (gg_X12_becomes) rfl (by decide) yv_X12_becomes (all5 w_1699 w_1701 w_75 w_113 w_1702) rfl rfl ⟨by decide, by decide⟩) <|
  fa1 (s_aload_n (kf := 0) (j := 0) (by decide +kernel) rfl) <|
  fa1 (s_aload_n (kf := 0) (j := 0) (by decide +kernel) rfl) <|
  fa1 (s_getI (ci := 12) (f := 45) (idx := 85) (C := RX12) (T := TX12) (NF := 83) (by decide +kernel) rfl (by decide) inG_X12 (by decide) w_1283 li_X12_45) <|
  fa1 (s_iload_n (kf := 1) (j := 1) (by decide +kernel) rfl) <|
  fa1 (s_cmpne (off := 8) (by decide +kernel) (by decide)) <|
  fa1 (s_bipush (n := -4) (v := -4) (by decide +kernel) (by decide +kernel) (p32 rfl)) <|
  fa1 (s_goto (off := 7) (by decide +kernel) (by decide)) <|
  fa1 (s_aload_n (kf := 0) (j := 0) (by decide +kernel) rfl) <|
  fa1 (s_getI (ci := 12) (f := 45) (idx := 85) (C := RX12) (T := TX12) (NF := 83) (by decide +kernel) rfl (by decide) inG_X12 (by decide) w_1283 li_X12_45) <|
  fa1 (s_putI (ci := 12) (f := 45) (idx := 85) (C := RX12) (T := TX12) (NF := 83) (by decide +kernel) rfl (by decide) inG_X12 (by decide) w_1283 tyX12 tyX12_ok nmX12 rfl (by decide +kernel) li_X12_45) <|
  fa1 (s_iconst (n := 1) (v := 1) (by decide +kernel) (by decide +kernel) (p32 rfl)) <|
  fa1 (s_iret (by decide +kernel) rfl) <| fa0
theorem gg_X12_read {G : Wp} {l : Launch} : GoodM loR G l yX12_read cX12_read 8 (some .int) rm_X12_read f_X12_read := met_of kt_X12_read (lkp_snd (ks_X12_read G l)) (by decide +kernel) rfl (by decide)
noncomputable def k_X12_inState : List (Nat × Ins) := [
  (0, i_push 1 (.inl 0)),
  (1, i_istore 2 2),
  (2, i_push 3 (.inl 0)),
  (3, i_istore 4 3),
  (4, i_iload 5 3),
  (5, i_aload 6 0),
  (6, i_getI 9 12 5),
  (9, i_cmpge 12 36),
  (12, i_iload 13 2),
  (13, i_aload 14 0),
  (14, i_getR 17 12 20 (fun _ => 7)),
  (17, i_iload 18 3),
  (18, i_ald 19 20 lnR),
  (19, i_iload 20 1),
  (20, i_cmpne 23 27),
  (23, i_push 24 (.inl 1)),
  (24, i_goto 28),
  (27, i_push 28 (.inl 0)),
  (28, i_bin 29 (fun x y => wr (x + y))),
  (29, i_istore 30 2),
  (30, i_iinc 33 3 (1)),
  (33, i_goto 4),
  (36, i_iload 37 2),
  (37, i_iret)]
noncomputable def kc_X12_inState : Nat → Option Ins := lkp k_X12_inState
noncomputable def f_X12_inState : List AV → Mem → Option Rs := den 4 kc_X12_inState
abbrev rm_X12_inState : Room := { frames := 0, cells := 0, slots := 0, locals := 0 }
set_option maxRecDepth 100000 in
theorem kt_X12_inState : TriC kc_X12_inState := lkp_tri (fa1 (tri_push 1 (.inl 0)) (fa1 (tri_istore 2 2) (fa1 (tri_push 3 (.inl 0)) (fa1 (tri_istore 4 3) (fa1 (tri_iload 5 3) (fa1 (tri_aload 6 0) (fa1 (tri_getI 9 12 5) (fa1 (tri_cmpge 12 36) (fa1 (tri_iload 13 2) (fa1 (tri_aload 14 0) (fa1 (tri_getR 17 12 20 (fun _ => 7)) (fa1 (tri_iload 18 3) (fa1 (tri_ald 19 20 lnR) (fa1 (tri_iload 20 1) (fa1 (tri_cmpne 23 27) (fa1 (tri_push 24 (.inl 1)) (fa1 (tri_goto 28) (fa1 (tri_push 28 (.inl 0)) (fa1 (tri_bin 29 (fun x y => wr (x + y))) (fa1 (tri_istore 30 2) (fa1 (tri_iinc 33 3 (1)) (fa1 (tri_goto 4) (fa1 (tri_iload 37 2) (fa1 (tri_iret) (fa0)))))))))))))))))))))))))
set_option maxRecDepth 100000 in
set_option maxHeartbeats 4000000 in
theorem ks_X12_inState (G : Wp) (l : Launch) : ∀ e ∈ k_X12_inState, Snd loR G l RX12 cX12_inState 4 (some .int) rm_X12_inState e.1 e.2 :=
  fa1 (s_iconst (n := 0) (v := 0) (by decide +kernel) (by decide +kernel) (p32 rfl)) <|
  fa1 (s_istore_n (kf := 2) (j := 2) (by decide +kernel) rfl (by decide)) <|
  fa1 (s_iconst (n := 0) (v := 0) (by decide +kernel) (by decide +kernel) (p32 rfl)) <|
  fa1 (s_istore_n (kf := 3) (j := 3) (by decide +kernel) rfl (by decide)) <|
  fa1 (s_iload_n (kf := 3) (j := 3) (by decide +kernel) rfl) <|
  fa1 (s_aload_n (kf := 0) (j := 0) (by decide +kernel) rfl) <|
  fa1 (s_getI (ci := 12) (f := 5) (idx := 184) (C := RX12) (T := TX12) (NF := 83) (by decide +kernel) rfl (by decide) inG_X12 (by decide) w_1243 li_X12_5) <|
  fa1 (s_cmpge (off := 27) (by decide +kernel) (by decide)) <|
  fa1 (s_iload_n (kf := 2) (j := 2) (by decide +kernel) rfl) <|
  fa1 (s_aload_n (kf := 0) (j := 0) (by decide +kernel) rfl) <|
  fa1 (s_getR (t2 := 20) (g := (fun _ => 7)) (ci := 12) (f := 8) (idx := 28) (C := RX12) (T := TX12) (NF := 83) (by decide +kernel) rfl (by decide) inG_X12 (by decide) w_1246 lr_X12_8 (by decide)) <|
  fa1 (s_iload_n (kf := 3) (j := 3) (by decide +kernel) rfl) <|
  fa1 (s_iald (by decide +kernel)) <|
  fa1 (s_iload_n (kf := 1) (j := 1) (by decide +kernel) rfl) <|
  fa1 (s_cmpne (off := 7) (by decide +kernel) (by decide)) <|
  fa1 (s_iconst (n := 1) (v := 1) (by decide +kernel) (by decide +kernel) (p32 rfl)) <|
  fa1 (s_goto (off := 4) (by decide +kernel) (by decide)) <|
  fa1 (s_iconst (n := 0) (v := 0) (by decide +kernel) (by decide +kernel) (p32 rfl)) <|
  fa1 (s_iadd (by decide +kernel)) <|
  fa1 (s_istore_n (kf := 2) (j := 2) (by decide +kernel) rfl (by decide)) <|
  fa1 (s_iinc (j := 3) (d := 1) (by decide +kernel) (by decide)) <|
  fa1 (s_goto (off := -29) (by decide +kernel) (by decide)) <|
  fa1 (s_iload_n (kf := 2) (j := 2) (by decide +kernel) rfl) <|
  fa1 (s_iret (by decide +kernel) rfl) <| fa0
theorem gg_X12_inState {G : Wp} {l : Launch} : GoodM loR G l yX12_inState cX12_inState 4 (some .int) rm_X12_inState f_X12_inState := met_of kt_X12_inState (lkp_snd (ks_X12_inState G l)) (by decide +kernel) rfl (by decide)
noncomputable def k_X12_count : List (Nat × Ins) := [
  (0, i_iload 1 1),
  (1, i_switch 121 (0) [60, 65, 65, 65, 65, 73, 78, 83, 88, 93, 98]),
  (60, i_aload 61 0),
  (61, i_getI 64 12 5),
  (64, i_iret),
  (65, i_aload 66 0),
  (66, i_iload 67 1),
  (67, i_push 68 (.inl 1)),
  (68, i_bin 69 (fun x y => wr (x - y))),
  (69, i_callI 72 2 (rcv 12) f_X12_inState),
  (72, i_iret),
  (73, i_aload 74 0),
  (74, i_getI 77 12 0),
  (77, i_iret),
  (78, i_aload 79 0),
  (79, i_getI 82 12 16),
  (82, i_iret),
  (83, i_aload 84 0),
  (84, i_getI 87 12 21),
  (87, i_iret),
  (88, i_aload 89 0),
  (89, i_getI 92 12 22),
  (92, i_iret),
  (93, i_aload 94 0),
  (94, i_getI 97 12 25),
  (97, i_iret),
  (98, i_aload 99 0),
  (99, i_getR 102 12 20 (fun _ => 51)),
  (102, i_push 103 (.inl 0)),
  (103, i_ald 104 20 lnR),
  (104, i_push 106 (.inl (-4))),
  (106, i_cmpne 109 114),
  (109, i_push 111 (.inl (-4))),
  (111, i_goto 120),
  (114, i_aload 115 0),
  (115, i_getR 118 12 20 (fun _ => 52)),
  (118, i_push 119 (.inl 0)),
  (119, i_ald 120 20 lnR),
  (120, i_iret),
  (121, i_push 122 (.inl (-1))),
  (122, i_iret)]
noncomputable def kc_X12_count : Nat → Option Ins := lkp k_X12_count
noncomputable def f_X12_count : List AV → Mem → Option Rs := den 2 kc_X12_count
abbrev rm_X12_count : Room := { frames := 1, cells := 0, slots := 0, locals := 23 }
set_option maxRecDepth 100000 in
theorem kt_X12_count : TriC kc_X12_count := lkp_tri (fa1 (tri_iload 1 1) (fa1 (tri_switch 121 (0) [60, 65, 65, 65, 65, 73, 78, 83, 88, 93, 98]) (fa1 (tri_aload 61 0) (fa1 (tri_getI 64 12 5) (fa1 (tri_iret) (fa1 (tri_aload 66 0) (fa1 (tri_iload 67 1) (fa1 (tri_push 68 (.inl 1)) (fa1 (tri_bin 69 (fun x y => wr (x - y))) (fa1 (tri_callI 72 2 (rcv 12) f_X12_inState) (fa1 (tri_iret) (fa1 (tri_aload 74 0) (fa1 (tri_getI 77 12 0) (fa1 (tri_iret) (fa1 (tri_aload 79 0) (fa1 (tri_getI 82 12 16) (fa1 (tri_iret) (fa1 (tri_aload 84 0) (fa1 (tri_getI 87 12 21) (fa1 (tri_iret) (fa1 (tri_aload 89 0) (fa1 (tri_getI 92 12 22) (fa1 (tri_iret) (fa1 (tri_aload 94 0) (fa1 (tri_getI 97 12 25) (fa1 (tri_iret) (fa1 (tri_aload 99 0) (fa1 (tri_getR 102 12 20 (fun _ => 51)) (fa1 (tri_push 103 (.inl 0)) (fa1 (tri_ald 104 20 lnR) (fa1 (tri_push 106 (.inl (-4))) (fa1 (tri_cmpne 109 114) (fa1 (tri_push 111 (.inl (-4))) (fa1 (tri_goto 120) (fa1 (tri_aload 115 0) (fa1 (tri_getR 118 12 20 (fun _ => 52)) (fa1 (tri_push 119 (.inl 0)) (fa1 (tri_ald 120 20 lnR) (fa1 (tri_iret) (fa1 (tri_push 122 (.inl (-1))) (fa1 (tri_iret) (fa0))))))))))))))))))))))))))))))))))))))))))
set_option maxRecDepth 100000 in
set_option maxHeartbeats 4000000 in
theorem ks_X12_count (G : Wp) (l : Launch) : ∀ e ∈ k_X12_count, Snd loR G l RX12 cX12_count 2 (some .int) rm_X12_count e.1 e.2 :=
  fa1 (s_iload_n (kf := 1) (j := 1) (by decide +kernel) rfl) <|
  fa1 (s_switch (dflt := 120) (lo := 0) (hhi := 10) (offs := #[59, 64, 64, 64, 64, 72, 77, 82, 87, 92, 97]) (len := 59) (by decide +kernel) (by decide) (by decide +kernel) (by decide)) <|
  fa1 (s_aload_n (kf := 0) (j := 0) (by decide +kernel) rfl) <|
  fa1 (s_getI (ci := 12) (f := 5) (idx := 184) (C := RX12) (T := TX12) (NF := 83) (by decide +kernel) rfl (by decide) inG_X12 (by decide) w_1243 li_X12_5) <|
  fa1 (s_iret (by decide +kernel) rfl) <|
  fa1 (s_aload_n (kf := 0) (j := 0) (by decide +kernel) rfl) <|
  fa1 (s_iload_n (kf := 1) (j := 1) (by decide +kernel) rfl) <|
  fa1 (s_iconst (n := 1) (v := 1) (by decide +kernel) (by decide +kernel) (p32 rfl)) <|
  fa1 (s_isub (by decide +kernel)) <|
  fa1 (s_vcallI (n := 1) (ci := 12) (C := RX12) (T := TX12) (NF := 83) (idx := 497) (y := yX12_inState) (by decide +kernel) (gg_X12_inState) rfl (by decide) yv_X12_inState (all5 w_1862 w_1864 w_98 w_113 w_1865) rfl rfl ⟨by decide, by decide⟩) <|
  fa1 (s_iret (by decide +kernel) rfl) <|
  fa1 (s_aload_n (kf := 0) (j := 0) (by decide +kernel) rfl) <|
  fa1 (s_getI (ci := 12) (f := 0) (idx := 191) (C := RX12) (T := TX12) (NF := 83) (by decide +kernel) rfl (by decide) inG_X12 (by decide) w_1238 li_X12_0) <|
  fa1 (s_iret (by decide +kernel) rfl) <|
  fa1 (s_aload_n (kf := 0) (j := 0) (by decide +kernel) rfl) <|
  fa1 (s_getI (ci := 12) (f := 16) (idx := 372) (C := RX12) (T := TX12) (NF := 83) (by decide +kernel) rfl (by decide) inG_X12 (by decide) w_1254 li_X12_16) <|
  fa1 (s_iret (by decide +kernel) rfl) <|
  fa1 (s_aload_n (kf := 0) (j := 0) (by decide +kernel) rfl) <|
  fa1 (s_getI (ci := 12) (f := 21) (idx := 273) (C := RX12) (T := TX12) (NF := 83) (by decide +kernel) rfl (by decide) inG_X12 (by decide) w_1259 li_X12_21) <|
  fa1 (s_iret (by decide +kernel) rfl) <|
  fa1 (s_aload_n (kf := 0) (j := 0) (by decide +kernel) rfl) <|
  fa1 (s_getI (ci := 12) (f := 22) (idx := 276) (C := RX12) (T := TX12) (NF := 83) (by decide +kernel) rfl (by decide) inG_X12 (by decide) w_1260 li_X12_22) <|
  fa1 (s_iret (by decide +kernel) rfl) <|
  fa1 (s_aload_n (kf := 0) (j := 0) (by decide +kernel) rfl) <|
  fa1 (s_getI (ci := 12) (f := 25) (idx := 194) (C := RX12) (T := TX12) (NF := 83) (by decide +kernel) rfl (by decide) inG_X12 (by decide) w_1263 li_X12_25) <|
  fa1 (s_iret (by decide +kernel) rfl) <|
  fa1 (s_aload_n (kf := 0) (j := 0) (by decide +kernel) rfl) <|
  fa1 (s_getR (t2 := 20) (g := (fun _ => 51)) (ci := 12) (f := 80) (idx := 165) (C := RX12) (T := TX12) (NF := 83) (by decide +kernel) rfl (by decide) inG_X12 (by decide) w_1318 lr_X12_80 (by decide)) <|
  fa1 (s_iconst (n := 0) (v := 0) (by decide +kernel) (by decide +kernel) (p32 rfl)) <|
  fa1 (s_iald (by decide +kernel)) <|
  fa1 (s_bipush (n := -4) (v := -4) (by decide +kernel) (by decide +kernel) (p32 rfl)) <|
  fa1 (s_cmpne (off := 8) (by decide +kernel) (by decide)) <|
  fa1 (s_bipush (n := -4) (v := -4) (by decide +kernel) (by decide +kernel) (p32 rfl)) <|
  fa1 (s_goto (off := 9) (by decide +kernel) (by decide)) <|
  fa1 (s_aload_n (kf := 0) (j := 0) (by decide +kernel) rfl) <|
  fa1 (s_getR (t2 := 20) (g := (fun _ => 52)) (ci := 12) (f := 81) (idx := 168) (C := RX12) (T := TX12) (NF := 83) (by decide +kernel) rfl (by decide) inG_X12 (by decide) w_1319 lr_X12_81 (by decide)) <|
  fa1 (s_iconst (n := 0) (v := 0) (by decide +kernel) (by decide +kernel) (p32 rfl)) <|
  fa1 (s_iald (by decide +kernel)) <|
  fa1 (s_iret (by decide +kernel) rfl) <|
  fa1 (s_iconst (n := -1) (v := -1) (by decide +kernel) (by decide +kernel) (p32 rfl)) <|
  fa1 (s_iret (by decide +kernel) rfl) <| fa0
theorem gg_X12_count {G : Wp} {l : Launch} : GoodM loR G l yX12_count cX12_count 2 (some .int) rm_X12_count f_X12_count := met_of kt_X12_count (lkp_snd (ks_X12_count G l)) (by decide +kernel) rfl (by decide)
