noncomputable def k_X1_putting : List (Nat × Ins) := [
  (0, i_push 1 (.inl 0)),
  (1, i_istore 2 1),
  (2, i_push 3 (.inl 0)),
  (3, i_istore 4 2),
  (4, i_iload 5 2),
  (5, i_aload 6 0),
  (6, i_getI 9 1 8),
  (9, i_cmpge 12 38),
  (12, i_aload 13 0),
  (13, i_getR 16 1 20 (fun c => c + 4)),
  (16, i_iload 17 2),
  (17, i_ald 18 20 lnC),
  (18, i_iflt 21 32),
  (21, i_iload 22 1),
  (22, i_push 23 (.inl 1)),
  (23, i_aload 24 0),
  (24, i_getR 27 1 20 (fun c => c + 4)),
  (27, i_iload 28 2),
  (28, i_ald 29 20 lnC),
  (29, i_bin 30 bShl),
  (30, i_bin 31 bOr),
  (31, i_istore 32 1),
  (32, i_iinc 35 2 (1)),
  (35, i_goto 4),
  (38, i_iload 39 1),
  (39, i_iret)]
noncomputable def kc_X1_putting : Nat → Option Ins := lkp k_X1_putting
noncomputable def f_X1_putting : List AV → Mem → Option Rs := den 3 kc_X1_putting
abbrev rm_X1_putting : Room := { frames := 0, cells := 0, slots := 0, locals := 0 }
set_option maxRecDepth 100000 in
theorem kt_X1_putting : TriC kc_X1_putting := lkp_tri (fa1 (tri_push 1 (.inl 0)) (fa1 (tri_istore 2 1) (fa1 (tri_push 3 (.inl 0)) (fa1 (tri_istore 4 2) (fa1 (tri_iload 5 2) (fa1 (tri_aload 6 0) (fa1 (tri_getI 9 1 8) (fa1 (tri_cmpge 12 38) (fa1 (tri_aload 13 0) (fa1 (tri_getR 16 1 20 (fun c => c + 4)) (fa1 (tri_iload 17 2) (fa1 (tri_ald 18 20 lnC) (fa1 (tri_iflt 21 32) (fa1 (tri_iload 22 1) (fa1 (tri_push 23 (.inl 1)) (fa1 (tri_aload 24 0) (fa1 (tri_getR 27 1 20 (fun c => c + 4)) (fa1 (tri_iload 28 2) (fa1 (tri_ald 29 20 lnC) (fa1 (tri_bin 30 bShl) (fa1 (tri_bin 31 bOr) (fa1 (tri_istore 32 1) (fa1 (tri_iinc 35 2 (1)) (fa1 (tri_goto 4) (fa1 (tri_iload 39 1) (fa1 (tri_iret) (fa0)))))))))))))))))))))))))))
set_option maxRecDepth 100000 in
set_option maxHeartbeats 4000000 in
theorem ks_X1_putting (G : Wp) (l : Launch) : ∀ e ∈ k_X1_putting, Snd loC G l RX1 cX1_putting 3 (some .int) rm_X1_putting e.1 e.2 :=
  fa1 (s_iconst (n := 0) (v := 0) (by decide +kernel) (by decide +kernel) (p32 rfl)) <|
  fa1 (s_istore_n (kf := 1) (j := 1) (by decide +kernel) rfl (by decide)) <|
  fa1 (s_iconst (n := 0) (v := 0) (by decide +kernel) (by decide +kernel) (p32 rfl)) <|
  fa1 (s_istore_n (kf := 2) (j := 2) (by decide +kernel) rfl (by decide)) <|
  fa1 (s_iload_n (kf := 2) (j := 2) (by decide +kernel) rfl) <|
  fa1 (s_aload_n (kf := 0) (j := 0) (by decide +kernel) rfl) <|
  fa1 (s_getI (ci := 1) (f := 8) (idx := 45) (C := RX1) (T := TX1) (NF := 9) (by decide +kernel) rfl (by decide) inG_X1 (by decide) w_380 li_X1_8) <|
  fa1 (s_cmpge (off := 29) (by decide +kernel) (by decide)) <|
  fa1 (s_aload_n (kf := 0) (j := 0) (by decide +kernel) rfl) <|
  fa1 (s_getR (t2 := 20) (g := (fun c => c + 4)) (ci := 1) (f := 5) (idx := 21) (C := RX1) (T := TX1) (NF := 9) (by decide +kernel) rfl (by decide) inG_X1 (by decide) w_375 lr_X1_5 (by decide)) <|
  fa1 (s_iload_n (kf := 2) (j := 2) (by decide +kernel) rfl) <|
  fa1 (s_iald (by decide +kernel)) <|
  fa1 (s_iflt (off := 14) (by decide +kernel) (by decide)) <|
  fa1 (s_iload_n (kf := 1) (j := 1) (by decide +kernel) rfl) <|
  fa1 (s_iconst (n := 1) (v := 1) (by decide +kernel) (by decide +kernel) (p32 rfl)) <|
  fa1 (s_aload_n (kf := 0) (j := 0) (by decide +kernel) rfl) <|
  fa1 (s_getR (t2 := 20) (g := (fun c => c + 4)) (ci := 1) (f := 5) (idx := 21) (C := RX1) (T := TX1) (NF := 9) (by decide +kernel) rfl (by decide) inG_X1 (by decide) w_375 lr_X1_5 (by decide)) <|
  fa1 (s_iload_n (kf := 2) (j := 2) (by decide +kernel) rfl) <|
  fa1 (s_iald (by decide +kernel)) <|
  fa1 (s_ishl (by decide +kernel)) <|
  fa1 (s_ior (by decide +kernel)) <|
  fa1 (s_istore_n (kf := 1) (j := 1) (by decide +kernel) rfl (by decide)) <|
  fa1 (s_iinc (j := 2) (d := 1) (by decide +kernel) (by decide)) <|
  fa1 (s_goto (off := -31) (by decide +kernel) (by decide)) <|
  fa1 (s_iload_n (kf := 1) (j := 1) (by decide +kernel) rfl) <|
  fa1 (s_iret (by decide +kernel) rfl) <| fa0
theorem gg_X1_putting {G : Wp} {l : Launch} : GoodM loC G l yX1_putting cX1_putting 3 (some .int) rm_X1_putting f_X1_putting := met_of kt_X1_putting (lkp_snd (ks_X1_putting G l)) (by decide +kernel) rfl (by decide)
noncomputable def k_X2_isOpen : List (Nat × Ins) := [
  (0, i_aload 1 0),
  (1, i_getI 4 2 2),
  (4, i_push 5 (.inl 1)),
  (5, i_cmpeq 8 16),
  (8, i_aload 9 0),
  (9, i_getI 12 2 2),
  (12, i_push 13 (.inl 3)),
  (13, i_cmpne 16 20),
  (16, i_push 17 (.inl 1)),
  (17, i_goto 21),
  (20, i_push 21 (.inl 0)),
  (21, i_zret)]
noncomputable def kc_X2_isOpen : Nat → Option Ins := lkp k_X2_isOpen
noncomputable def f_X2_isOpen : List AV → Mem → Option Rs := den 1 kc_X2_isOpen
abbrev rm_X2_isOpen : Room := { frames := 0, cells := 0, slots := 0, locals := 0 }
set_option maxRecDepth 100000 in
theorem kt_X2_isOpen : TriC kc_X2_isOpen := lkp_tri (fa1 (tri_aload 1 0) (fa1 (tri_getI 4 2 2) (fa1 (tri_push 5 (.inl 1)) (fa1 (tri_cmpeq 8 16) (fa1 (tri_aload 9 0) (fa1 (tri_getI 12 2 2) (fa1 (tri_push 13 (.inl 3)) (fa1 (tri_cmpne 16 20) (fa1 (tri_push 17 (.inl 1)) (fa1 (tri_goto 21) (fa1 (tri_push 21 (.inl 0)) (fa1 (tri_zret) (fa0)))))))))))))
set_option maxRecDepth 100000 in
set_option maxHeartbeats 4000000 in
theorem ks_X2_isOpen (G : Wp) (l : Launch) : ∀ e ∈ k_X2_isOpen, Snd loC G l RX2 cX2_isOpen 1 (some .boolean) rm_X2_isOpen e.1 e.2 :=
  fa1 (s_aload_n (kf := 0) (j := 0) (by decide +kernel) rfl) <|
  fa1 (s_getI (ci := 2) (f := 2) (idx := 23) (C := RX2) (T := TX2) (NF := 11) (by decide +kernel) rfl (by decide) inG_X2 (by decide) w_209 li_X2_2) <|
  fa1 (s_iconst (n := 1) (v := 1) (by decide +kernel) (by decide +kernel) (p32 rfl)) <|
  fa1 (s_cmpeq (off := 11) (by decide +kernel) (by decide)) <|
  fa1 (s_aload_n (kf := 0) (j := 0) (by decide +kernel) rfl) <|
  fa1 (s_getI (ci := 2) (f := 2) (idx := 23) (C := RX2) (T := TX2) (NF := 11) (by decide +kernel) rfl (by decide) inG_X2 (by decide) w_209 li_X2_2) <|
  fa1 (s_iconst (n := 3) (v := 3) (by decide +kernel) (by decide +kernel) (p32 rfl)) <|
  fa1 (s_cmpne (off := 7) (by decide +kernel) (by decide)) <|
  fa1 (s_iconst (n := 1) (v := 1) (by decide +kernel) (by decide +kernel) (p32 rfl)) <|
  fa1 (s_goto (off := 4) (by decide +kernel) (by decide)) <|
  fa1 (s_iconst (n := 0) (v := 0) (by decide +kernel) (by decide +kernel) (p32 rfl)) <|
  fa1 (s_zret (by decide +kernel) rfl) <| fa0
theorem gg_X2_isOpen {G : Wp} {l : Launch} : GoodM loC G l yX2_isOpen cX2_isOpen 1 (some .boolean) rm_X2_isOpen f_X2_isOpen := met_of kt_X2_isOpen (lkp_snd (ks_X2_isOpen G l)) (by decide +kernel) rfl (by decide)
noncomputable def k_X3_add : List (Nat × Ins) := [
  (0, i_aload 1 0),
  (1, i_getI 4 3 9),
  (4, i_push 6 (.inl 24)),
  (6, i_cmplt 9 10),
  (9, i_vret),
  (10, i_aload 11 0),
  (11, i_getR 14 3 25 (fun _ => 24)),
  (14, i_aload 15 0),
  (15, i_getI 18 3 9),
  (18, i_aldR 19 25 2 lnC (fun _ i => 31 + 5 * i)),
  (19, i_astore 21 6),
  (21, i_aload 23 6),
  (23, i_getR 26 2 8 (fun c => c + 1)),
  (26, i_aload 27 1),
  (27, i_callV 30 2 (rcv 8) f_X8_copy),
  (30, i_aload 32 6),
  (32, i_getR 35 2 8 (fun c => c + 3)),
  (35, i_aload 36 2),
  (36, i_callV 39 2 (rcv 8) f_X8_copy),
  (39, i_aload 41 6),
  (41, i_iload 42 3),
  (42, i_putI 45 2 2),
  (45, i_aload 47 6),
  (47, i_iload 49 4),
  (49, i_putI 52 2 3),
  (52, i_aload 54 6),
  (54, i_iload 56 5),
  (56, i_putI 59 2 4),
  (59, i_aload 61 6),
  (61, i_push 63 (.inl (-4))),
  (63, i_putI 66 2 6),
  (66, i_aload 67 0),
  (67, i_dup 68),
  (68, i_getI 71 3 9),
  (71, i_push 72 (.inl 1)),
  (72, i_bin 73 (fun x y => wr (x + y))),
  (73, i_putI 76 3 9),
  (76, i_vret)]
noncomputable def kc_X3_add : Nat → Option Ins := lkp k_X3_add
noncomputable def f_X3_add : List AV → Mem → Option Rs := den 7 kc_X3_add
abbrev rm_X3_add : Room := { frames := 2, cells := 0, slots := 0, locals := 45 }
set_option maxRecDepth 100000 in
theorem kt_X3_add : TriC kc_X3_add := lkp_tri (fa1 (tri_aload 1 0) (fa1 (tri_getI 4 3 9) (fa1 (tri_push 6 (.inl 24)) (fa1 (tri_cmplt 9 10) (fa1 (tri_vret) (fa1 (tri_aload 11 0) (fa1 (tri_getR 14 3 25 (fun _ => 24)) (fa1 (tri_aload 15 0) (fa1 (tri_getI 18 3 9) (fa1 (tri_aldR 19 25 2 lnC (fun _ i => 31 + 5 * i)) (fa1 (tri_astore 21 6) (fa1 (tri_aload 23 6) (fa1 (tri_getR 26 2 8 (fun c => c + 1)) (fa1 (tri_aload 27 1) (fa1 (tri_callV 30 2 (rcv 8) f_X8_copy) (fa1 (tri_aload 32 6) (fa1 (tri_getR 35 2 8 (fun c => c + 3)) (fa1 (tri_aload 36 2) (fa1 (tri_callV 39 2 (rcv 8) f_X8_copy) (fa1 (tri_aload 41 6) (fa1 (tri_iload 42 3) (fa1 (tri_putI 45 2 2) (fa1 (tri_aload 47 6) (fa1 (tri_iload 49 4) (fa1 (tri_putI 52 2 3) (fa1 (tri_aload 54 6) (fa1 (tri_iload 56 5) (fa1 (tri_putI 59 2 4) (fa1 (tri_aload 61 6) (fa1 (tri_push 63 (.inl (-4))) (fa1 (tri_putI 66 2 6) (fa1 (tri_aload 67 0) (fa1 (tri_dup 68) (fa1 (tri_getI 71 3 9) (fa1 (tri_push 72 (.inl 1)) (fa1 (tri_bin 73 (fun x y => wr (x + y))) (fa1 (tri_putI 76 3 9) (fa1 (tri_vret) (fa0)))))))))))))))))))))))))))))))))))))))
set_option maxRecDepth 100000 in
set_option maxHeartbeats 4000000 in
theorem ks_X3_add (G : Wp) (l : Launch) : ∀ e ∈ k_X3_add, Snd loC G l RX3 cX3_add 7 none rm_X3_add e.1 e.2 :=
  fa1 (s_aload_n (kf := 0) (j := 0) (by decide +kernel) rfl) <|
  fa1 (s_getI (ci := 3) (f := 9) (idx := 39) (C := RX3) (T := TX3) (NF := 11) (by decide +kernel) rfl (by decide) inG_X3 (by decide) w_259 li_X3_9) <|
  fa1 (s_bipush (n := 24) (v := 24) (by decide +kernel) (by decide +kernel) (p32 rfl)) <|
  fa1 (s_cmplt (off := 4) (by decide +kernel) (by decide)) <|
  fa1 (s_vret (by decide +kernel) rfl) <|
  fa1 (s_aload_n (kf := 0) (j := 0) (by decide +kernel) rfl) <|
  fa1 (s_getR (t2 := 25) (g := (fun _ => 24)) (ci := 3) (f := 0) (idx := 11) (C := RX3) (T := TX3) (NF := 11) (by decide +kernel) rfl (by decide) inG_X3 (by decide) w_250 lr_X3_0 (by decide)) <|
  fa1 (s_aload_n (kf := 0) (j := 0) (by decide +kernel) rfl) <|
  fa1 (s_getI (ci := 3) (f := 9) (idx := 39) (C := RX3) (T := TX3) (NF := 11) (by decide +kernel) rfl (by decide) inG_X3 (by decide) w_259 li_X3_9) <|
  fa1 (s_aldR (t := 25) (t2 := 2) (g := (fun _ i => 31 + 5 * i)) (by decide +kernel) (by decide) (by decide) rfl (by decide) le_25) <|
  fa1 (s_astore (j := 6) (by decide +kernel) (by decide)) <|
  fa1 (s_aload (j := 6) (by decide +kernel)) <|
  fa1 (s_getR (t2 := 8) (g := (fun c => c + 1)) (ci := 2) (f := 0) (idx := 43) (C := RX2) (T := TX2) (NF := 11) (by decide +kernel) rfl (by decide) inG_X2 (by decide) w_196 lr_X2_0 (by decide)) <|
  fa1 (s_aload_n (kf := 1) (j := 1) (by decide +kernel) rfl) <|
  fa1 (s_vcallV (n := 1) (ci := 8) (C := RX8) (T := TX8) (NF := 2) (idx := 47) (y := yX8_copy) (by decide +kernel) (gg_X8_copy) rfl (by decide) yv_X8_copy (all5 w_702 w_684 w_685 w_102 w_686) rfl rfl ⟨by decide, by decide⟩) <|
  fa1 (s_aload (j := 6) (by decide +kernel)) <|
  fa1 (s_getR (t2 := 8) (g := (fun c => c + 3)) (ci := 2) (f := 1) (idx := 53) (C := RX2) (T := TX2) (NF := 11) (by decide +kernel) rfl (by decide) inG_X2 (by decide) w_203 lr_X2_1 (by decide)) <|
  fa1 (s_aload_n (kf := 2) (j := 2) (by decide +kernel) rfl) <|
  fa1 (s_vcallV (n := 1) (ci := 8) (C := RX8) (T := TX8) (NF := 2) (idx := 47) (y := yX8_copy) (by decide +kernel) (gg_X8_copy) rfl (by decide) yv_X8_copy (all5 w_702 w_684 w_685 w_102 w_686) rfl rfl ⟨by decide, by decide⟩) <|
  fa1 (s_aload (j := 6) (by decide +kernel)) <|
  fa1 (s_iload_n (kf := 3) (j := 3) (by decide +kernel) rfl) <|
  fa1 (s_putI (ci := 2) (f := 2) (idx := 56) (C := RX2) (T := TX2) (NF := 11) (by decide +kernel) rfl (by decide) inG_X2 (by decide) w_210 tyX2 tyX2_ok nmX2 rfl (by decide +kernel) li_X2_2) <|
  fa1 (s_aload (j := 6) (by decide +kernel)) <|
  fa1 (s_iload (j := 4) (by decide +kernel)) <|
  fa1 (s_putI (ci := 2) (f := 3) (idx := 59) (C := RX2) (T := TX2) (NF := 11) (by decide +kernel) rfl (by decide) inG_X2 (by decide) w_213 tyX2 tyX2_ok nmX2 rfl (by decide +kernel) li_X2_3) <|
  fa1 (s_aload (j := 6) (by decide +kernel)) <|
  fa1 (s_iload (j := 5) (by decide +kernel)) <|
  fa1 (s_putI (ci := 2) (f := 4) (idx := 62) (C := RX2) (T := TX2) (NF := 11) (by decide +kernel) rfl (by decide) inG_X2 (by decide) w_215 tyX2 tyX2_ok nmX2 rfl (by decide +kernel) li_X2_4) <|
  fa1 (s_aload (j := 6) (by decide +kernel)) <|
  fa1 (s_bipush (n := -4) (v := -4) (by decide +kernel) (by decide +kernel) (p32 rfl)) <|
  fa1 (s_putI (ci := 2) (f := 6) (idx := 65) (C := RX2) (T := TX2) (NF := 11) (by decide +kernel) rfl (by decide) inG_X2 (by decide) w_219 tyX2 tyX2_ok nmX2 rfl (by decide +kernel) li_X2_6) <|
  fa1 (s_aload_n (kf := 0) (j := 0) (by decide +kernel) rfl) <|
  fa1 (s_dup (by decide +kernel)) <|
  fa1 (s_getI (ci := 3) (f := 9) (idx := 39) (C := RX3) (T := TX3) (NF := 11) (by decide +kernel) rfl (by decide) inG_X3 (by decide) w_259 li_X3_9) <|
  fa1 (s_iconst (n := 1) (v := 1) (by decide +kernel) (by decide +kernel) (p32 rfl)) <|
  fa1 (s_iadd (by decide +kernel)) <|
  fa1 (s_putI (ci := 3) (f := 9) (idx := 39) (C := RX3) (T := TX3) (NF := 11) (by decide +kernel) rfl (by decide) inG_X3 (by decide) w_259 tyX3 tyX3_ok nmX3 rfl (by decide +kernel) li_X3_9) <|
  fa1 (s_vret (by decide +kernel) rfl) <| fa0
theorem gg_X3_add {G : Wp} {l : Launch} : GoodM loC G l yX3_add cX3_add 7 none rm_X3_add f_X3_add := met_of kt_X3_add (lkp_snd (ks_X3_add G l)) (by decide +kernel) rfl (by decide)
noncomputable def k_X3_keep : List (Nat × Ins) := [
  (0, i_aload 1 0),
  (1, i_aload 2 0),
  (2, i_getI 5 3 9),
  (5, i_iload 6 1),
  (6, i_push 7 (.inl 0)),
  (7, i_mm 10 mMax),
  (10, i_mm 13 mMin),
  (13, i_putI 16 3 9),
  (16, i_vret)]
noncomputable def kc_X3_keep : Nat → Option Ins := lkp k_X3_keep
noncomputable def f_X3_keep : List AV → Mem → Option Rs := den 2 kc_X3_keep
abbrev rm_X3_keep : Room := { frames := 1, cells := 0, slots := 0, locals := 21 }
set_option maxRecDepth 100000 in
theorem kt_X3_keep : TriC kc_X3_keep := lkp_tri (fa1 (tri_aload 1 0) (fa1 (tri_aload 2 0) (fa1 (tri_getI 5 3 9) (fa1 (tri_iload 6 1) (fa1 (tri_push 7 (.inl 0)) (fa1 (tri_mm 10 mMax) (fa1 (tri_mm 13 mMin) (fa1 (tri_putI 16 3 9) (fa1 (tri_vret) (fa0))))))))))
set_option maxRecDepth 100000 in
set_option maxHeartbeats 4000000 in
theorem ks_X3_keep (G : Wp) (l : Launch) : ∀ e ∈ k_X3_keep, Snd loC G l RX3 cX3_keep 2 none rm_X3_keep e.1 e.2 :=
  fa1 (s_aload_n (kf := 0) (j := 0) (by decide +kernel) rfl) <|
  fa1 (s_aload_n (kf := 0) (j := 0) (by decide +kernel) rfl) <|
  fa1 (s_getI (ci := 3) (f := 9) (idx := 39) (C := RX3) (T := TX3) (NF := 11) (by decide +kernel) rfl (by decide) inG_X3 (by decide) w_259 li_X3_9) <|
  fa1 (s_iload_n (kf := 1) (j := 1) (by decide +kernel) rfl) <|
  fa1 (s_iconst (n := 0) (v := 0) (by decide +kernel) (by decide +kernel) (p32 rfl)) <|
  fa1 (s_mmax (idx := 68) (by decide +kernel) w_717 w_137 w_103 w_138 (by decide) (by decide)) <|
  fa1 (s_mmin (idx := 74) (by decide +kernel) w_718 w_711 w_103 w_712 (by decide) (by decide)) <|
  fa1 (s_putI (ci := 3) (f := 9) (idx := 39) (C := RX3) (T := TX3) (NF := 11) (by decide +kernel) rfl (by decide) inG_X3 (by decide) w_259 tyX3 tyX3_ok nmX3 rfl (by decide +kernel) li_X3_9) <|
  fa1 (s_vret (by decide +kernel) rfl) <| fa0
theorem gg_X3_keep {G : Wp} {l : Launch} : GoodM loC G l yX3_keep cX3_keep 2 none rm_X3_keep f_X3_keep := met_of kt_X3_keep (lkp_snd (ks_X3_keep G l)) (by decide +kernel) rfl (by decide)
noncomputable def k_X3_maskOf : List (Nat × Ins) := [
  (0, i_push 1 (.inl 0)),
  (1, i_istore 2 2),
  (2, i_push 3 (.inl 0)),
  (3, i_istore 4 3),
  (4, i_iload 5 3),
  (5, i_aload 6 0),
  (6, i_getI 9 3 9),
  (9, i_cmpge 12 37),
  (12, i_aload 13 0),
  (13, i_getR 16 3 25 (fun _ => 24)),
  (16, i_iload 17 3),
  (17, i_aldR 18 25 2 lnC (fun _ i => 31 + 5 * i)),
  (18, i_getI 21 2 2),
  (21, i_iload 22 1),
  (22, i_cmpne 25 31),
  (25, i_iload 26 2),
  (26, i_push 27 (.inl 1)),
  (27, i_iload 28 3),
  (28, i_bin 29 bShl),
  (29, i_bin 30 bOr),
  (30, i_istore 31 2),
  (31, i_iinc 34 3 (1)),
  (34, i_goto 4),
  (37, i_iload 38 2),
  (38, i_iret)]
noncomputable def kc_X3_maskOf : Nat → Option Ins := lkp k_X3_maskOf
noncomputable def f_X3_maskOf : List AV → Mem → Option Rs := den 4 kc_X3_maskOf
abbrev rm_X3_maskOf : Room := { frames := 0, cells := 0, slots := 0, locals := 0 }
set_option maxRecDepth 100000 in
theorem kt_X3_maskOf : TriC kc_X3_maskOf := lkp_tri (fa1 (tri_push 1 (.inl 0)) (fa1 (tri_istore 2 2) (fa1 (tri_push 3 (.inl 0)) (fa1 (tri_istore 4 3) (fa1 (tri_iload 5 3) (fa1 (tri_aload 6 0) (fa1 (tri_getI 9 3 9) (fa1 (tri_cmpge 12 37) (fa1 (tri_aload 13 0) (fa1 (tri_getR 16 3 25 (fun _ => 24)) (fa1 (tri_iload 17 3) (fa1 (tri_aldR 18 25 2 lnC (fun _ i => 31 + 5 * i)) (fa1 (tri_getI 21 2 2) (fa1 (tri_iload 22 1) (fa1 (tri_cmpne 25 31) (fa1 (tri_iload 26 2) (fa1 (tri_push 27 (.inl 1)) (fa1 (tri_iload 28 3) (fa1 (tri_bin 29 bShl) (fa1 (tri_bin 30 bOr) (fa1 (tri_istore 31 2) (fa1 (tri_iinc 34 3 (1)) (fa1 (tri_goto 4) (fa1 (tri_iload 38 2) (fa1 (tri_iret) (fa0))))))))))))))))))))))))))
set_option maxRecDepth 100000 in
set_option maxHeartbeats 4000000 in
theorem ks_X3_maskOf (G : Wp) (l : Launch) : ∀ e ∈ k_X3_maskOf, Snd loC G l RX3 cX3_maskOf 4 (some .int) rm_X3_maskOf e.1 e.2 :=
  fa1 (s_iconst (n := 0) (v := 0) (by decide +kernel) (by decide +kernel) (p32 rfl)) <|
  fa1 (s_istore_n (kf := 2) (j := 2) (by decide +kernel) rfl (by decide)) <|
  fa1 (s_iconst (n := 0) (v := 0) (by decide +kernel) (by decide +kernel) (p32 rfl)) <|
  fa1 (s_istore_n (kf := 3) (j := 3) (by decide +kernel) rfl (by decide)) <|
  fa1 (s_iload_n (kf := 3) (j := 3) (by decide +kernel) rfl) <|
  fa1 (s_aload_n (kf := 0) (j := 0) (by decide +kernel) rfl) <|
  fa1 (s_getI (ci := 3) (f := 9) (idx := 39) (C := RX3) (T := TX3) (NF := 11) (by decide +kernel) rfl (by decide) inG_X3 (by decide) w_259 li_X3_9) <|
  fa1 (s_cmpge (off := 28) (by decide +kernel) (by decide)) <|
  fa1 (s_aload_n (kf := 0) (j := 0) (by decide +kernel) rfl) <|
  fa1 (s_getR (t2 := 25) (g := (fun _ => 24)) (ci := 3) (f := 0) (idx := 11) (C := RX3) (T := TX3) (NF := 11) (by decide +kernel) rfl (by decide) inG_X3 (by decide) w_250 lr_X3_0 (by decide)) <|
  fa1 (s_iload_n (kf := 3) (j := 3) (by decide +kernel) rfl) <|
  fa1 (s_aldR (t := 25) (t2 := 2) (g := (fun _ i => 31 + 5 * i)) (by decide +kernel) (by decide) (by decide) rfl (by decide) le_25) <|
  fa1 (s_getI (ci := 2) (f := 2) (idx := 56) (C := RX2) (T := TX2) (NF := 11) (by decide +kernel) rfl (by decide) inG_X2 (by decide) w_210 li_X2_2) <|
  fa1 (s_iload_n (kf := 1) (j := 1) (by decide +kernel) rfl) <|
  fa1 (s_cmpne (off := 9) (by decide +kernel) (by decide)) <|
  fa1 (s_iload_n (kf := 2) (j := 2) (by decide +kernel) rfl) <|
  fa1 (s_iconst (n := 1) (v := 1) (by decide +kernel) (by decide +kernel) (p32 rfl)) <|
  fa1 (s_iload_n (kf := 3) (j := 3) (by decide +kernel) rfl) <|
  fa1 (s_ishl (by decide +kernel)) <|
  fa1 (s_ior (by decide +kernel)) <|
  fa1 (s_istore_n (kf := 2) (j := 2) (by decide +kernel) rfl (by decide)) <|
  fa1 (s_iinc (j := 3) (d := 1) (by decide +kernel) (by decide)) <|
  fa1 (s_goto (off := -30) (by decide +kernel) (by decide)) <|
  fa1 (s_iload_n (kf := 2) (j := 2) (by decide +kernel) rfl) <|
  fa1 (s_iret (by decide +kernel) rfl) <| fa0
theorem gg_X3_maskOf {G : Wp} {l : Launch} : GoodM loC G l yX3_maskOf cX3_maskOf 4 (some .int) rm_X3_maskOf f_X3_maskOf := met_of kt_X3_maskOf (lkp_snd (ks_X3_maskOf G l)) (by decide +kernel) rfl (by decide)
noncomputable def k_X3_underOf : List (Nat × Ins) := [
  (0, i_aload 1 0),
  (1, i_iload 2 1),
  (2, i_callR 5 2 2 (rcv 3) f_X3_get),
  (5, i_astore 6 2),
  (6, i_aload 7 2),
  (7, i_ifnull 10 25),
  (10, i_aload 11 2),
  (11, i_getI 14 2 2),
  (14, i_push 15 (.inl 2)),
  (15, i_cmpne 18 25),
  (18, i_aload 19 2),
  (19, i_getI 22 2 9),
  (22, i_goto 26),
  (25, i_push 26 (.inl 0)),
  (26, i_iret)]
noncomputable def kc_X3_underOf : Nat → Option Ins := lkp k_X3_underOf
noncomputable def f_X3_underOf : List AV → Mem → Option Rs := den 3 kc_X3_underOf
abbrev rm_X3_underOf : Room := { frames := 1, cells := 0, slots := 0, locals := 21 }
set_option maxRecDepth 100000 in
theorem kt_X3_underOf : TriC kc_X3_underOf := lkp_tri (fa1 (tri_aload 1 0) (fa1 (tri_iload 2 1) (fa1 (tri_callR 5 2 2 (rcv 3) f_X3_get) (fa1 (tri_astore 6 2) (fa1 (tri_aload 7 2) (fa1 (tri_ifnull 10 25) (fa1 (tri_aload 11 2) (fa1 (tri_getI 14 2 2) (fa1 (tri_push 15 (.inl 2)) (fa1 (tri_cmpne 18 25) (fa1 (tri_aload 19 2) (fa1 (tri_getI 22 2 9) (fa1 (tri_goto 26) (fa1 (tri_push 26 (.inl 0)) (fa1 (tri_iret) (fa0))))))))))))))))
set_option maxRecDepth 100000 in
set_option maxHeartbeats 4000000 in
theorem ks_X3_underOf (G : Wp) (l : Launch) : ∀ e ∈ k_X3_underOf, Snd loC G l RX3 cX3_underOf 3 (some .int) rm_X3_underOf e.1 e.2 :=
  fa1 (s_aload_n (kf := 0) (j := 0) (by decide +kernel) rfl) <|
  fa1 (s_iload_n (kf := 1) (j := 1) (by decide +kernel) rfl) <|
  fa1 (s_vcallR (t := 2) (n := 1) (ci := 3) (C := RX3) (T := TX3) (NF := 11) (idx := 77) (y := yX3_get) (by decide +kernel) (gg_X3_get) rfl (by decide) yv_X3_get (all5 w_743 w_736 w_737 w_104 w_738) rfl rfl ⟨by decide, by decide⟩) <|
  fa1 (s_astore_n (kf := 2) (j := 2) (by decide +kernel) rfl (by decide)) <|
  fa1 (s_aload_n (kf := 2) (j := 2) (by decide +kernel) rfl) <|
  fa1 (s_ifnull (off := 18) (by decide +kernel) (by decide)) <|
  fa1 (s_aload_n (kf := 2) (j := 2) (by decide +kernel) rfl) <|
  fa1 (s_getI (ci := 2) (f := 2) (idx := 56) (C := RX2) (T := TX2) (NF := 11) (by decide +kernel) rfl (by decide) inG_X2 (by decide) w_210 li_X2_2) <|
  fa1 (s_iconst (n := 2) (v := 2) (by decide +kernel) (by decide +kernel) (p32 rfl)) <|
  fa1 (s_cmpne (off := 10) (by decide +kernel) (by decide)) <|
  fa1 (s_aload_n (kf := 2) (j := 2) (by decide +kernel) rfl) <|
  fa1 (s_getI (ci := 2) (f := 9) (idx := 81) (C := RX2) (T := TX2) (NF := 11) (by decide +kernel) rfl (by decide) inG_X2 (by decide) w_224 li_X2_9) <|
  fa1 (s_goto (off := 4) (by decide +kernel) (by decide)) <|
  fa1 (s_iconst (n := 0) (v := 0) (by decide +kernel) (by decide +kernel) (p32 rfl)) <|
  fa1 (s_iret (by decide +kernel) rfl) <| fa0
theorem gg_X3_underOf {G : Wp} {l : Launch} : GoodM loC G l yX3_underOf cX3_underOf 3 (some .int) rm_X3_underOf f_X3_underOf := met_of kt_X3_underOf (lkp_snd (ks_X3_underOf G l)) (by decide +kernel) rfl (by decide)
noncomputable def k_X3_overOf : List (Nat × Ins) := [
  (0, i_push 1 (.inl 0)),
  (1, i_istore 2 2),
  (2, i_push 3 (.inl 0)),
  (3, i_istore 4 3),
  (4, i_iload 5 3),
  (5, i_aload 6 0),
  (6, i_getI 9 3 9),
  (9, i_cmpge 12 36),
  (12, i_aload 13 0),
  (13, i_iload 14 3),
  (14, i_callI 17 2 (rcv 3) f_X3_underOf),
  (17, i_iload 18 1),
  (18, i_bin 19 bShr),
  (19, i_push 20 (.inl 1)),
  (20, i_bin 21 bAnd),
  (21, i_ifeq 24 30),
  (24, i_iload 25 2),
  (25, i_push 26 (.inl 1)),
  (26, i_iload 27 3),
  (27, i_bin 28 bShl),
  (28, i_bin 29 bOr),
  (29, i_istore 30 2),
  (30, i_iinc 33 3 (1)),
  (33, i_goto 4),
  (36, i_iload 37 2),
  (37, i_iret)]
noncomputable def kc_X3_overOf : Nat → Option Ins := lkp k_X3_overOf
noncomputable def f_X3_overOf : List AV → Mem → Option Rs := den 4 kc_X3_overOf
abbrev rm_X3_overOf : Room := { frames := 2, cells := 0, slots := 0, locals := 43 }
set_option maxRecDepth 100000 in
theorem kt_X3_overOf : TriC kc_X3_overOf := lkp_tri (fa1 (tri_push 1 (.inl 0)) (fa1 (tri_istore 2 2) (fa1 (tri_push 3 (.inl 0)) (fa1 (tri_istore 4 3) (fa1 (tri_iload 5 3) (fa1 (tri_aload 6 0) (fa1 (tri_getI 9 3 9) (fa1 (tri_cmpge 12 36) (fa1 (tri_aload 13 0) (fa1 (tri_iload 14 3) (fa1 (tri_callI 17 2 (rcv 3) f_X3_underOf) (fa1 (tri_iload 18 1) (fa1 (tri_bin 19 bShr) (fa1 (tri_push 20 (.inl 1)) (fa1 (tri_bin 21 bAnd) (fa1 (tri_ifeq 24 30) (fa1 (tri_iload 25 2) (fa1 (tri_push 26 (.inl 1)) (fa1 (tri_iload 27 3) (fa1 (tri_bin 28 bShl) (fa1 (tri_bin 29 bOr) (fa1 (tri_istore 30 2) (fa1 (tri_iinc 33 3 (1)) (fa1 (tri_goto 4) (fa1 (tri_iload 37 2) (fa1 (tri_iret) (fa0)))))))))))))))))))))))))))
set_option maxRecDepth 100000 in
set_option maxHeartbeats 4000000 in
theorem ks_X3_overOf (G : Wp) (l : Launch) : ∀ e ∈ k_X3_overOf, Snd loC G l RX3 cX3_overOf 4 (some .int) rm_X3_overOf e.1 e.2 :=
  fa1 (s_iconst (n := 0) (v := 0) (by decide +kernel) (by decide +kernel) (p32 rfl)) <|
  fa1 (s_istore_n (kf := 2) (j := 2) (by decide +kernel) rfl (by decide)) <|
  fa1 (s_iconst (n := 0) (v := 0) (by decide +kernel) (by decide +kernel) (p32 rfl)) <|
  fa1 (s_istore_n (kf := 3) (j := 3) (by decide +kernel) rfl (by decide)) <|
  fa1 (s_iload_n (kf := 3) (j := 3) (by decide +kernel) rfl) <|
  fa1 (s_aload_n (kf := 0) (j := 0) (by decide +kernel) rfl) <|
  fa1 (s_getI (ci := 3) (f := 9) (idx := 39) (C := RX3) (T := TX3) (NF := 11) (by decide +kernel) rfl (by decide) inG_X3 (by decide) w_259 li_X3_9) <|
  fa1 (s_cmpge (off := 27) (by decide +kernel) (by decide)) <|
  fa1 (s_aload_n (kf := 0) (j := 0) (by decide +kernel) rfl) <|
  fa1 (s_iload_n (kf := 3) (j := 3) (by decide +kernel) rfl) <|
  fa1 (s_vcallI (n := 1) (ci := 3) (C := RX3) (T := TX3) (NF := 11) (idx := 84) (y := yX3_underOf) (by decide +kernel) (gg_X3_underOf) rfl (by decide) yv_X3_underOf (all5 w_754 w_740 w_741 w_104 w_742) rfl rfl ⟨by decide, by decide⟩) <|
  fa1 (s_iload_n (kf := 1) (j := 1) (by decide +kernel) rfl) <|
  fa1 (s_ishr (by decide +kernel)) <|
  fa1 (s_iconst (n := 1) (v := 1) (by decide +kernel) (by decide +kernel) (p32 rfl)) <|
  fa1 (s_iand (by decide +kernel)) <|
  fa1 (s_ifeq (off := 9) (by decide +kernel) (by decide)) <|
  fa1 (s_iload_n (kf := 2) (j := 2) (by decide +kernel) rfl) <|
  fa1 (s_iconst (n := 1) (v := 1) (by decide +kernel) (by decide +kernel) (p32 rfl)) <|
  fa1 (s_iload_n (kf := 3) (j := 3) (by decide +kernel) rfl) <|
  fa1 (s_ishl (by decide +kernel)) <|
  fa1 (s_ior (by decide +kernel)) <|
  fa1 (s_istore_n (kf := 2) (j := 2) (by decide +kernel) rfl (by decide)) <|
  fa1 (s_iinc (j := 3) (d := 1) (by decide +kernel) (by decide)) <|
  fa1 (s_goto (off := -29) (by decide +kernel) (by decide)) <|
  fa1 (s_iload_n (kf := 2) (j := 2) (by decide +kernel) rfl) <|
  fa1 (s_iret (by decide +kernel) rfl) <| fa0
theorem gg_X3_overOf {G : Wp} {l : Launch} : GoodM loC G l yX3_overOf cX3_overOf 4 (some .int) rm_X3_overOf f_X3_overOf := met_of kt_X3_overOf (lkp_snd (ks_X3_overOf G l)) (by decide +kernel) rfl (by decide)
noncomputable def k_X3_shownPutting : List (Nat × Ins) := [
  (0, i_push 1 (.inl 0)),
  (1, i_istore 2 2),
  (2, i_push 3 (.inl 0)),
  (3, i_istore 4 3),
  (4, i_iload 5 3),
  (5, i_aload 6 0),
  (6, i_getI 9 3 9),
  (9, i_cmpge 12 50),
  (12, i_aload 13 0),
  (13, i_getR 16 3 25 (fun _ => 24)),
  (16, i_iload 17 3),
  (17, i_aldR 18 25 2 lnC (fun _ i => 31 + 5 * i)),
  (18, i_getI 21 2 2),
  (21, i_push 22 (.inl 2)),
  (22, i_cmpne 25 44),
  (25, i_aload 26 0),
  (26, i_getR 29 3 25 (fun _ => 24)),
  (29, i_iload 30 3),
  (30, i_aldR 31 25 2 lnC (fun _ i => 31 + 5 * i)),
  (31, i_getI 34 2 10),
  (34, i_iload 35 1),
  (35, i_bin 36 bShr),
  (36, i_push 37 (.inl 1)),
  (37, i_bin 38 bAnd),
  (38, i_ifeq 41 44),
  (41, i_iinc 44 2 (1)),
  (44, i_iinc 47 3 (1)),
  (47, i_goto 4),
  (50, i_iload 51 2),
  (51, i_iret)]
noncomputable def kc_X3_shownPutting : Nat → Option Ins := lkp k_X3_shownPutting
noncomputable def f_X3_shownPutting : List AV → Mem → Option Rs := den 4 kc_X3_shownPutting
abbrev rm_X3_shownPutting : Room := { frames := 0, cells := 0, slots := 0, locals := 0 }
set_option maxRecDepth 100000 in
theorem kt_X3_shownPutting : TriC kc_X3_shownPutting := lkp_tri (fa1 (tri_push 1 (.inl 0)) (fa1 (tri_istore 2 2) (fa1 (tri_push 3 (.inl 0)) (fa1 (tri_istore 4 3) (fa1 (tri_iload 5 3) (fa1 (tri_aload 6 0) (fa1 (tri_getI 9 3 9) (fa1 (tri_cmpge 12 50) (fa1 (tri_aload 13 0) (fa1 (tri_getR 16 3 25 (fun _ => 24)) (fa1 (tri_iload 17 3) (fa1 (tri_aldR 18 25 2 lnC (fun _ i => 31 + 5 * i)) (fa1 (tri_getI 21 2 2) (fa1 (tri_push 22 (.inl 2)) (fa1 (tri_cmpne 25 44) (fa1 (tri_aload 26 0) (fa1 (tri_getR 29 3 25 (fun _ => 24)) (fa1 (tri_iload 30 3) (fa1 (tri_aldR 31 25 2 lnC (fun _ i => 31 + 5 * i)) (fa1 (tri_getI 34 2 10) (fa1 (tri_iload 35 1) (fa1 (tri_bin 36 bShr) (fa1 (tri_push 37 (.inl 1)) (fa1 (tri_bin 38 bAnd) (fa1 (tri_ifeq 41 44) (fa1 (tri_iinc 44 2 (1)) (fa1 (tri_iinc 47 3 (1)) (fa1 (tri_goto 4) (fa1 (tri_iload 51 2) (fa1 (tri_iret) (fa0)))))))))))))))))))))))))))))))
set_option maxRecDepth 100000 in
set_option maxHeartbeats 4000000 in
theorem ks_X3_shownPutting (G : Wp) (l : Launch) : ∀ e ∈ k_X3_shownPutting, Snd loC G l RX3 cX3_shownPutting 4 (some .int) rm_X3_shownPutting e.1 e.2 :=
  fa1 (s_iconst (n := 0) (v := 0) (by decide +kernel) (by decide +kernel) (p32 rfl)) <|
  fa1 (s_istore_n (kf := 2) (j := 2) (by decide +kernel) rfl (by decide)) <|
  fa1 (s_iconst (n := 0) (v := 0) (by decide +kernel) (by decide +kernel) (p32 rfl)) <|
  fa1 (s_istore_n (kf := 3) (j := 3) (by decide +kernel) rfl (by decide)) <|
  fa1 (s_iload_n (kf := 3) (j := 3) (by decide +kernel) rfl) <|
  fa1 (s_aload_n (kf := 0) (j := 0) (by decide +kernel) rfl) <|
  fa1 (s_getI (ci := 3) (f := 9) (idx := 39) (C := RX3) (T := TX3) (NF := 11) (by decide +kernel) rfl (by decide) inG_X3 (by decide) w_259 li_X3_9) <|
  fa1 (s_cmpge (off := 41) (by decide +kernel) (by decide)) <|
  fa1 (s_aload_n (kf := 0) (j := 0) (by decide +kernel) rfl) <|
  fa1 (s_getR (t2 := 25) (g := (fun _ => 24)) (ci := 3) (f := 0) (idx := 11) (C := RX3) (T := TX3) (NF := 11) (by decide +kernel) rfl (by decide) inG_X3 (by decide) w_250 lr_X3_0 (by decide)) <|
  fa1 (s_iload_n (kf := 3) (j := 3) (by decide +kernel) rfl) <|
  fa1 (s_aldR (t := 25) (t2 := 2) (g := (fun _ i => 31 + 5 * i)) (by decide +kernel) (by decide) (by decide) rfl (by decide) le_25) <|
  fa1 (s_getI (ci := 2) (f := 2) (idx := 56) (C := RX2) (T := TX2) (NF := 11) (by decide +kernel) rfl (by decide) inG_X2 (by decide) w_210 li_X2_2) <|
  fa1 (s_iconst (n := 2) (v := 2) (by decide +kernel) (by decide +kernel) (p32 rfl)) <|
  fa1 (s_cmpne (off := 22) (by decide +kernel) (by decide)) <|
  fa1 (s_aload_n (kf := 0) (j := 0) (by decide +kernel) rfl) <|
  fa1 (s_getR (t2 := 25) (g := (fun _ => 24)) (ci := 3) (f := 0) (idx := 11) (C := RX3) (T := TX3) (NF := 11) (by decide +kernel) rfl (by decide) inG_X3 (by decide) w_250 lr_X3_0 (by decide)) <|
  fa1 (s_iload_n (kf := 3) (j := 3) (by decide +kernel) rfl) <|
  fa1 (s_aldR (t := 25) (t2 := 2) (g := (fun _ i => 31 + 5 * i)) (by decide +kernel) (by decide) (by decide) rfl (by decide) le_25) <|
  fa1 (s_getI (ci := 2) (f := 10) (idx := 88) (C := RX2) (T := TX2) (NF := 11) (by decide +kernel) rfl (by decide) inG_X2 (by decide) w_225 li_X2_10) <|
  fa1 (s_iload_n (kf := 1) (j := 1) (by decide +kernel) rfl) <|
  fa1 (s_ishr (by decide +kernel)) <|
  fa1 (s_iconst (n := 1) (v := 1) (by decide +kernel) (by decide +kernel) (p32 rfl)) <|
  fa1 (s_iand (by decide +kernel)) <|
  fa1 (s_ifeq (off := 6) (by decide +kernel) (by decide)) <|
  fa1 (s_iinc (j := 2) (d := 1) (by decide +kernel) (by decide)) <|
  fa1 (s_iinc (j := 3) (d := 1) (by decide +kernel) (by decide)) <|
  fa1 (s_goto (off := -43) (by decide +kernel) (by decide)) <|
  fa1 (s_iload_n (kf := 2) (j := 2) (by decide +kernel) rfl) <|
  fa1 (s_iret (by decide +kernel) rfl) <| fa0
theorem gg_X3_shownPutting {G : Wp} {l : Launch} : GoodM loC G l yX3_shownPutting cX3_shownPutting 4 (some .int) rm_X3_shownPutting f_X3_shownPutting := met_of kt_X3_shownPutting (lkp_snd (ks_X3_shownPutting G l)) (by decide +kernel) rfl (by decide)
noncomputable def k_X3_stateOn : List (Nat × Ins) := [
  (0, i_aload 1 0),
  (1, i_iload 2 1),
  (2, i_callR 5 2 2 (rcv 3) f_X3_get),
  (5, i_astore 6 3),
  (6, i_aload 7 3),
  (7, i_ifnull 10 18),
  (10, i_iload 11 2),
  (11, i_aload 12 3),
  (12, i_getI 15 2 4),
  (15, i_cmpge 18 21),
  (18, i_push 20 (.inl (-4))),
  (20, i_iret),
  (21, i_aload 22 3),
  (22, i_getI 25 2 2),
  (25, i_ifne 28 32),
  (28, i_push 29 (.inl 0)),
  (29, i_goto 33),
  (32, i_push 33 (.inl 1)),
  (33, i_istore 35 4),
  (35, i_push 36 (.inl 0)),
  (36, i_istore 38 5),
  (38, i_iload 40 5),
  (40, i_aload 41 0),
  (41, i_getI 44 3 7),
  (44, i_cmpge 47 84),
  (47, i_aload 48 0),
  (48, i_getR 51 3 21 (fun _ => 29)),
  (51, i_iload 53 5),
  (53, i_ald 54 21 lnC),
  (54, i_iload 55 1),
  (55, i_cmpne 58 78),
  (58, i_aload 59 0),
  (59, i_getR 62 3 22 (fun _ => 28)),
  (62, i_iload 64 5),
  (64, i_ald 65 22 lnC),
  (65, i_iload 66 2),
  (66, i_cmpgt 69 78),
  (69, i_aload 70 0),
  (70, i_getR 73 3 21 (fun _ => 30)),
  (73, i_iload 75 5),
  (75, i_ald 76 21 lnC),
  (76, i_istore 78 4),
  (78, i_iinc 81 5 (1)),
  (81, i_goto 38),
  (84, i_iload 86 4),
  (86, i_iret)]
noncomputable def kc_X3_stateOn : Nat → Option Ins := lkp k_X3_stateOn
noncomputable def f_X3_stateOn : List AV → Mem → Option Rs := den 6 kc_X3_stateOn
abbrev rm_X3_stateOn : Room := { frames := 1, cells := 0, slots := 0, locals := 21 }
set_option maxRecDepth 100000 in
theorem kt_X3_stateOn : TriC kc_X3_stateOn := lkp_tri (fa1 (tri_aload 1 0) (fa1 (tri_iload 2 1) (fa1 (tri_callR 5 2 2 (rcv 3) f_X3_get) (fa1 (tri_astore 6 3) (fa1 (tri_aload 7 3) (fa1 (tri_ifnull 10 18) (fa1 (tri_iload 11 2) (fa1 (tri_aload 12 3) (fa1 (tri_getI 15 2 4) (fa1 (tri_cmpge 18 21) (fa1 (tri_push 20 (.inl (-4))) (fa1 (tri_iret) (fa1 (tri_aload 22 3) (fa1 (tri_getI 25 2 2) (fa1 (tri_ifne 28 32) (fa1 (tri_push 29 (.inl 0)) (fa1 (tri_goto 33) (fa1 (tri_push 33 (.inl 1)) (fa1 (tri_istore 35 4) (fa1 (tri_push 36 (.inl 0)) (fa1 (tri_istore 38 5) (fa1 (tri_iload 40 5) (fa1 (tri_aload 41 0) (fa1 (tri_getI 44 3 7) (fa1 (tri_cmpge 47 84) (fa1 (tri_aload 48 0) (fa1 (tri_getR 51 3 21 (fun _ => 29)) (fa1 (tri_iload 53 5) (fa1 (tri_ald 54 21 lnC) (fa1 (tri_iload 55 1) (fa1 (tri_cmpne 58 78) (fa1 (tri_aload 59 0) (fa1 (tri_getR 62 3 22 (fun _ => 28)) (fa1 (tri_iload 64 5) (fa1 (tri_ald 65 22 lnC) (fa1 (tri_iload 66 2) (fa1 (tri_cmpgt 69 78) (fa1 (tri_aload 70 0) (fa1 (tri_getR 73 3 21 (fun _ => 30)) (fa1 (tri_iload 75 5) (fa1 (tri_ald 76 21 lnC) (fa1 (tri_istore 78 4) (fa1 (tri_iinc 81 5 (1)) (fa1 (tri_goto 38) (fa1 (tri_iload 86 4) (fa1 (tri_iret) (fa0)))))))))))))))))))))))))))))))))))))))))))))))
set_option maxRecDepth 100000 in
set_option maxHeartbeats 4000000 in
theorem ks_X3_stateOn (G : Wp) (l : Launch) : ∀ e ∈ k_X3_stateOn, Snd loC G l RX3 cX3_stateOn 6 (some .int) rm_X3_stateOn e.1 e.2 :=
  fa1 (s_aload_n (kf := 0) (j := 0) (by decide +kernel) rfl) <|
  fa1 (s_iload_n (kf := 1) (j := 1) (by decide +kernel) rfl) <|
  fa1 (s_vcallR (t := 2) (n := 1) (ci := 3) (C := RX3) (T := TX3) (NF := 11) (idx := 77) (y := yX3_get) (by decide +kernel) (gg_X3_get) rfl (by decide) yv_X3_get (all5 w_743 w_736 w_737 w_104 w_738) rfl rfl ⟨by decide, by decide⟩) <|
  fa1 (s_astore_n (kf := 3) (j := 3) (by decide +kernel) rfl (by decide)) <|
  fa1 (s_aload_n (kf := 3) (j := 3) (by decide +kernel) rfl) <|
  fa1 (s_ifnull (off := 11) (by decide +kernel) (by decide)) <|
  fa1 (s_iload_n (kf := 2) (j := 2) (by decide +kernel) rfl) <|
  fa1 (s_aload_n (kf := 3) (j := 3) (by decide +kernel) rfl) <|
  fa1 (s_getI (ci := 2) (f := 4) (idx := 62) (C := RX2) (T := TX2) (NF := 11) (by decide +kernel) rfl (by decide) inG_X2 (by decide) w_215 li_X2_4) <|
  fa1 (s_cmpge (off := 6) (by decide +kernel) (by decide)) <|
  fa1 (s_bipush (n := -4) (v := -4) (by decide +kernel) (by decide +kernel) (p32 rfl)) <|
  fa1 (s_iret (by decide +kernel) rfl) <|
  fa1 (s_aload_n (kf := 3) (j := 3) (by decide +kernel) rfl) <|
  fa1 (s_getI (ci := 2) (f := 2) (idx := 56) (C := RX2) (T := TX2) (NF := 11) (by decide +kernel) rfl (by decide) inG_X2 (by decide) w_210 li_X2_2) <|
  fa1 (s_ifne (off := 7) (by decide +kernel) (by decide)) <|
  fa1 (s_iconst (n := 0) (v := 0) (by decide +kernel) (by decide +kernel) (p32 rfl)) <|
  fa1 (s_goto (off := 4) (by decide +kernel) (by decide)) <|
  fa1 (s_iconst (n := 1) (v := 1) (by decide +kernel) (by decide +kernel) (p32 rfl)) <|
  fa1 (s_istore (j := 4) (by decide +kernel) (by decide)) <|
  fa1 (s_iconst (n := 0) (v := 0) (by decide +kernel) (by decide +kernel) (p32 rfl)) <|
  fa1 (s_istore (j := 5) (by decide +kernel) (by decide)) <|
  fa1 (s_iload (j := 5) (by decide +kernel)) <|
  fa1 (s_aload_n (kf := 0) (j := 0) (by decide +kernel) rfl) <|
  fa1 (s_getI (ci := 3) (f := 7) (idx := 91) (C := RX3) (T := TX3) (NF := 11) (by decide +kernel) rfl (by decide) inG_X3 (by decide) w_257 li_X3_7) <|
  fa1 (s_cmpge (off := 40) (by decide +kernel) (by decide)) <|
  fa1 (s_aload_n (kf := 0) (j := 0) (by decide +kernel) rfl) <|
  fa1 (s_getR (t2 := 21) (g := (fun _ => 29)) (ci := 3) (f := 5) (idx := 31) (C := RX3) (T := TX3) (NF := 11) (by decide +kernel) rfl (by decide) inG_X3 (by decide) w_255 lr_X3_5 (by decide)) <|
  fa1 (s_iload (j := 5) (by decide +kernel)) <|
  fa1 (s_bald (by decide +kernel)) <|
  fa1 (s_iload_n (kf := 1) (j := 1) (by decide +kernel) rfl) <|
  fa1 (s_cmpne (off := 23) (by decide +kernel) (by decide)) <|
  fa1 (s_aload_n (kf := 0) (j := 0) (by decide +kernel) rfl) <|
  fa1 (s_getR (t2 := 22) (g := (fun _ => 28)) (ci := 3) (f := 4) (idx := 27) (C := RX3) (T := TX3) (NF := 11) (by decide +kernel) rfl (by decide) inG_X3 (by decide) w_254 lr_X3_4 (by decide)) <|
  fa1 (s_iload (j := 5) (by decide +kernel)) <|
  fa1 (s_sald (by decide +kernel)) <|
  fa1 (s_iload_n (kf := 2) (j := 2) (by decide +kernel) rfl) <|
  fa1 (s_cmpgt (off := 12) (by decide +kernel) (by decide)) <|
  fa1 (s_aload_n (kf := 0) (j := 0) (by decide +kernel) rfl) <|
  fa1 (s_getR (t2 := 21) (g := (fun _ => 30)) (ci := 3) (f := 6) (idx := 35) (C := RX3) (T := TX3) (NF := 11) (by decide +kernel) rfl (by decide) inG_X3 (by decide) w_256 lr_X3_6 (by decide)) <|
  fa1 (s_iload (j := 5) (by decide +kernel)) <|
  fa1 (s_bald (by decide +kernel)) <|
  fa1 (s_istore (j := 4) (by decide +kernel) (by decide)) <|
  fa1 (s_iinc (j := 5) (d := 1) (by decide +kernel) (by decide)) <|
  fa1 (s_goto (off := -43) (by decide +kernel) (by decide)) <|
  fa1 (s_iload (j := 4) (by decide +kernel)) <|
  fa1 (s_iret (by decide +kernel) rfl) <| fa0
theorem gg_X3_stateOn {G : Wp} {l : Launch} : GoodM loC G l yX3_stateOn cX3_stateOn 6 (some .int) rm_X3_stateOn f_X3_stateOn := met_of kt_X3_stateOn (lkp_snd (ks_X3_stateOn G l)) (by decide +kernel) rfl (by decide)
noncomputable def k_X3_turn : List (Nat × Ins) := [
  (0, i_aload 1 0),
  (1, i_getR 4 3 25 (fun _ => 24)),
  (4, i_iload 5 1),
  (5, i_aldR 6 25 2 lnC (fun _ i => 31 + 5 * i)),
  (6, i_iload 7 2),
  (7, i_putI 10 2 2),
  (10, i_aload 11 0),
  (11, i_getI 14 3 7),
  (14, i_push 17 (.inl 424)),
  (17, i_cmpge 20 63),
  (20, i_aload 21 0),
  (21, i_getR 24 3 21 (fun _ => 29)),
  (24, i_aload 25 0),
  (25, i_getI 28 3 7),
  (28, i_iload 29 1),
  (29, i_un 30 wrB),
  (30, i_ast 31 21 lnC wrB),
  (31, i_aload 32 0),
  (32, i_getR 35 3 22 (fun _ => 28)),
  (35, i_aload 36 0),
  (36, i_getI 39 3 7),
  (39, i_iload 40 3),
  (40, i_un 41 wrS),
  (41, i_ast 42 22 lnC wrS),
  (42, i_aload 43 0),
  (43, i_getR 46 3 21 (fun _ => 30)),
  (46, i_aload 47 0),
  (47, i_getI 50 3 7),
  (50, i_iload 51 2),
  (51, i_un 52 wrB),
  (52, i_ast 53 21 lnC wrB),
  (53, i_aload 54 0),
  (54, i_dup 55),
  (55, i_getI 58 3 7),
  (58, i_push 59 (.inl 1)),
  (59, i_bin 60 (fun x y => wr (x + y))),
  (60, i_putI 63 3 7),
  (63, i_vret)]
noncomputable def kc_X3_turn : Nat → Option Ins := lkp k_X3_turn
noncomputable def f_X3_turn : List AV → Mem → Option Rs := den 4 kc_X3_turn
abbrev rm_X3_turn : Room := { frames := 0, cells := 0, slots := 0, locals := 0 }
set_option maxRecDepth 100000 in
theorem kt_X3_turn : TriC kc_X3_turn := lkp_tri (fa1 (tri_aload 1 0) (fa1 (tri_getR 4 3 25 (fun _ => 24)) (fa1 (tri_iload 5 1) (fa1 (tri_aldR 6 25 2 lnC (fun _ i => 31 + 5 * i)) (fa1 (tri_iload 7 2) (fa1 (tri_putI 10 2 2) (fa1 (tri_aload 11 0) (fa1 (tri_getI 14 3 7) (fa1 (tri_push 17 (.inl 424)) (fa1 (tri_cmpge 20 63) (fa1 (tri_aload 21 0) (fa1 (tri_getR 24 3 21 (fun _ => 29)) (fa1 (tri_aload 25 0) (fa1 (tri_getI 28 3 7) (fa1 (tri_iload 29 1) (fa1 (tri_un 30 wrB) (fa1 (tri_ast 31 21 lnC wrB) (fa1 (tri_aload 32 0) (fa1 (tri_getR 35 3 22 (fun _ => 28)) (fa1 (tri_aload 36 0) (fa1 (tri_getI 39 3 7) (fa1 (tri_iload 40 3) (fa1 (tri_un 41 wrS) (fa1 (tri_ast 42 22 lnC wrS) (fa1 (tri_aload 43 0) (fa1 (tri_getR 46 3 21 (fun _ => 30)) (fa1 (tri_aload 47 0) (fa1 (tri_getI 50 3 7) (fa1 (tri_iload 51 2) (fa1 (tri_un 52 wrB) (fa1 (tri_ast 53 21 lnC wrB) (fa1 (tri_aload 54 0) (fa1 (tri_dup 55) (fa1 (tri_getI 58 3 7) (fa1 (tri_push 59 (.inl 1)) (fa1 (tri_bin 60 (fun x y => wr (x + y))) (fa1 (tri_putI 63 3 7) (fa1 (tri_vret) (fa0)))))))))))))))))))))))))))))))))))))))
set_option maxRecDepth 100000 in
set_option maxHeartbeats 4000000 in
theorem ks_X3_turn (G : Wp) (l : Launch) : ∀ e ∈ k_X3_turn, Snd loC G l RX3 cX3_turn 4 none rm_X3_turn e.1 e.2 :=
  fa1 (s_aload_n (kf := 0) (j := 0) (by decide +kernel) rfl) <|
  fa1 (s_getR (t2 := 25) (g := (fun _ => 24)) (ci := 3) (f := 0) (idx := 11) (C := RX3) (T := TX3) (NF := 11) (by decide +kernel) rfl (by decide) inG_X3 (by decide) w_250 lr_X3_0 (by decide)) <|
  fa1 (s_iload_n (kf := 1) (j := 1) (by decide +kernel) rfl) <|
  fa1 (s_aldR (t := 25) (t2 := 2) (g := (fun _ i => 31 + 5 * i)) (by decide +kernel) (by decide) (by decide) rfl (by decide) le_25) <|
  fa1 (s_iload_n (kf := 2) (j := 2) (by decide +kernel) rfl) <|
  fa1 (s_putI (ci := 2) (f := 2) (idx := 56) (C := RX2) (T := TX2) (NF := 11) (by decide +kernel) rfl (by decide) inG_X2 (by decide) w_210 tyX2 tyX2_ok nmX2 rfl (by decide +kernel) li_X2_2) <|
  fa1 (s_aload_n (kf := 0) (j := 0) (by decide +kernel) rfl) <|
  fa1 (s_getI (ci := 3) (f := 7) (idx := 91) (C := RX3) (T := TX3) (NF := 11) (by decide +kernel) rfl (by decide) inG_X3 (by decide) w_257 li_X3_7) <|
  fa1 (s_sipush (n := 424) (v := 424) (by decide +kernel) (by decide +kernel) (p32 rfl)) <|
  fa1 (s_cmpge (off := 46) (by decide +kernel) (by decide)) <|
  fa1 (s_aload_n (kf := 0) (j := 0) (by decide +kernel) rfl) <|
  fa1 (s_getR (t2 := 21) (g := (fun _ => 29)) (ci := 3) (f := 5) (idx := 31) (C := RX3) (T := TX3) (NF := 11) (by decide +kernel) rfl (by decide) inG_X3 (by decide) w_255 lr_X3_5 (by decide)) <|
  fa1 (s_aload_n (kf := 0) (j := 0) (by decide +kernel) rfl) <|
  fa1 (s_getI (ci := 3) (f := 7) (idx := 91) (C := RX3) (T := TX3) (NF := 11) (by decide +kernel) rfl (by decide) inG_X3 (by decide) w_257 li_X3_7) <|
  fa1 (s_iload_n (kf := 1) (j := 1) (by decide +kernel) rfl) <|
  fa1 (s_i2b (by decide +kernel)) <|
  fa1 (s_bast (by decide +kernel) lt_loC_21) <|
  fa1 (s_aload_n (kf := 0) (j := 0) (by decide +kernel) rfl) <|
  fa1 (s_getR (t2 := 22) (g := (fun _ => 28)) (ci := 3) (f := 4) (idx := 27) (C := RX3) (T := TX3) (NF := 11) (by decide +kernel) rfl (by decide) inG_X3 (by decide) w_254 lr_X3_4 (by decide)) <|
  fa1 (s_aload_n (kf := 0) (j := 0) (by decide +kernel) rfl) <|
  fa1 (s_getI (ci := 3) (f := 7) (idx := 91) (C := RX3) (T := TX3) (NF := 11) (by decide +kernel) rfl (by decide) inG_X3 (by decide) w_257 li_X3_7) <|
  fa1 (s_iload_n (kf := 3) (j := 3) (by decide +kernel) rfl) <|
  fa1 (s_i2s (by decide +kernel)) <|
  fa1 (s_sast (by decide +kernel) lt_loC_22) <|
  fa1 (s_aload_n (kf := 0) (j := 0) (by decide +kernel) rfl) <|
  fa1 (s_getR (t2 := 21) (g := (fun _ => 30)) (ci := 3) (f := 6) (idx := 35) (C := RX3) (T := TX3) (NF := 11) (by decide +kernel) rfl (by decide) inG_X3 (by decide) w_256 lr_X3_6 (by decide)) <|
  fa1 (s_aload_n (kf := 0) (j := 0) (by decide +kernel) rfl) <|
  fa1 (s_getI (ci := 3) (f := 7) (idx := 91) (C := RX3) (T := TX3) (NF := 11) (by decide +kernel) rfl (by decide) inG_X3 (by decide) w_257 li_X3_7) <|
  fa1 (s_iload_n (kf := 2) (j := 2) (by decide +kernel) rfl) <|
  fa1 (s_i2b (by decide +kernel)) <|
  fa1 (s_bast (by decide +kernel) lt_loC_21) <|
  fa1 (s_aload_n (kf := 0) (j := 0) (by decide +kernel) rfl) <|
  fa1 (s_dup (by decide +kernel)) <|
  fa1 (s_getI (ci := 3) (f := 7) (idx := 91) (C := RX3) (T := TX3) (NF := 11) (by decide +kernel) rfl (by decide) inG_X3 (by decide) w_257 li_X3_7) <|
  fa1 (s_iconst (n := 1) (v := 1) (by decide +kernel) (by decide +kernel) (p32 rfl)) <|
  fa1 (s_iadd (by decide +kernel)) <|
  fa1 (s_putI (ci := 3) (f := 7) (idx := 91) (C := RX3) (T := TX3) (NF := 11) (by decide +kernel) rfl (by decide) inG_X3 (by decide) w_257 tyX3 tyX3_ok nmX3 rfl (by decide +kernel) li_X3_7) <|
  fa1 (s_vret (by decide +kernel) rfl) <| fa0
theorem gg_X3_turn {G : Wp} {l : Launch} : GoodM loC G l yX3_turn cX3_turn 4 none rm_X3_turn f_X3_turn := met_of kt_X3_turn (lkp_snd (ks_X3_turn G l)) (by decide +kernel) rfl (by decide)
noncomputable def k_X3_toldAt : List (Nat × Ins) := [
  (0, i_iload 1 1),
  (1, i_iflt 4 12),
  (4, i_iload 5 1),
  (5, i_aload 6 0),
  (6, i_getI 9 3 10),
  (9, i_cmplt 12 14),
  (12, i_push 13 (.inl (-1))),
  (13, i_iret),
  (14, i_iload 15 2),
  (15, i_ifne 18 25),
  (18, i_aload 19 0),
  (19, i_getR 22 3 20 (fun _ => 25)),
  (22, i_iload 23 1),
  (23, i_ald 24 20 lnC),
  (24, i_iret),
  (25, i_iload 26 2),
  (26, i_push 27 (.inl 1)),
  (27, i_cmpne 30 39),
  (30, i_aload 31 0),
  (31, i_getR 34 3 20 (fun _ => 26)),
  (34, i_iload 35 1),
  (35, i_ald 36 20 lnC),
  (36, i_goto 45),
  (39, i_aload 40 0),
  (40, i_getR 43 3 20 (fun _ => 27)),
  (43, i_iload 44 1),
  (44, i_ald 45 20 lnC),
  (45, i_iret)]
noncomputable def kc_X3_toldAt : Nat → Option Ins := lkp k_X3_toldAt
noncomputable def f_X3_toldAt : List AV → Mem → Option Rs := den 3 kc_X3_toldAt
abbrev rm_X3_toldAt : Room := { frames := 0, cells := 0, slots := 0, locals := 0 }
set_option maxRecDepth 100000 in
theorem kt_X3_toldAt : TriC kc_X3_toldAt := lkp_tri (fa1 (tri_iload 1 1) (fa1 (tri_iflt 4 12) (fa1 (tri_iload 5 1) (fa1 (tri_aload 6 0) (fa1 (tri_getI 9 3 10) (fa1 (tri_cmplt 12 14) (fa1 (tri_push 13 (.inl (-1))) (fa1 (tri_iret) (fa1 (tri_iload 15 2) (fa1 (tri_ifne 18 25) (fa1 (tri_aload 19 0) (fa1 (tri_getR 22 3 20 (fun _ => 25)) (fa1 (tri_iload 23 1) (fa1 (tri_ald 24 20 lnC) (fa1 (tri_iret) (fa1 (tri_iload 26 2) (fa1 (tri_push 27 (.inl 1)) (fa1 (tri_cmpne 30 39) (fa1 (tri_aload 31 0) (fa1 (tri_getR 34 3 20 (fun _ => 26)) (fa1 (tri_iload 35 1) (fa1 (tri_ald 36 20 lnC) (fa1 (tri_goto 45) (fa1 (tri_aload 40 0) (fa1 (tri_getR 43 3 20 (fun _ => 27)) (fa1 (tri_iload 44 1) (fa1 (tri_ald 45 20 lnC) (fa1 (tri_iret) (fa0)))))))))))))))))))))))))))))
set_option maxRecDepth 100000 in
set_option maxHeartbeats 4000000 in
theorem ks_X3_toldAt (G : Wp) (l : Launch) : ∀ e ∈ k_X3_toldAt, Snd loC G l RX3 cX3_toldAt 3 (some .int) rm_X3_toldAt e.1 e.2 :=
  fa1 (s_iload_n (kf := 1) (j := 1) (by decide +kernel) rfl) <|
  fa1 (s_iflt (off := 11) (by decide +kernel) (by decide)) <|
  fa1 (s_iload_n (kf := 1) (j := 1) (by decide +kernel) rfl) <|
  fa1 (s_aload_n (kf := 0) (j := 0) (by decide +kernel) rfl) <|
  fa1 (s_getI (ci := 3) (f := 10) (idx := 94) (C := RX3) (T := TX3) (NF := 11) (by decide +kernel) rfl (by decide) inG_X3 (by decide) w_265 li_X3_10) <|
  fa1 (s_cmplt (off := 5) (by decide +kernel) (by decide)) <|
  fa1 (s_iconst (n := -1) (v := -1) (by decide +kernel) (by decide +kernel) (p32 rfl)) <|
  fa1 (s_iret (by decide +kernel) rfl) <|
  fa1 (s_iload_n (kf := 2) (j := 2) (by decide +kernel) rfl) <|
  fa1 (s_ifne (off := 10) (by decide +kernel) (by decide)) <|
  fa1 (s_aload_n (kf := 0) (j := 0) (by decide +kernel) rfl) <|
  fa1 (s_getR (t2 := 20) (g := (fun _ => 25)) (ci := 3) (f := 1) (idx := 17) (C := RX3) (T := TX3) (NF := 11) (by decide +kernel) rfl (by decide) inG_X3 (by decide) w_251 lr_X3_1 (by decide)) <|
  fa1 (s_iload_n (kf := 1) (j := 1) (by decide +kernel) rfl) <|
  fa1 (s_iald (by decide +kernel)) <|
  fa1 (s_iret (by decide +kernel) rfl) <|
  fa1 (s_iload_n (kf := 2) (j := 2) (by decide +kernel) rfl) <|
  fa1 (s_iconst (n := 1) (v := 1) (by decide +kernel) (by decide +kernel) (p32 rfl)) <|
  fa1 (s_cmpne (off := 12) (by decide +kernel) (by decide)) <|
  fa1 (s_aload_n (kf := 0) (j := 0) (by decide +kernel) rfl) <|
  fa1 (s_getR (t2 := 20) (g := (fun _ => 26)) (ci := 3) (f := 2) (idx := 21) (C := RX3) (T := TX3) (NF := 11) (by decide +kernel) rfl (by decide) inG_X3 (by decide) w_252 lr_X3_2 (by decide)) <|
  fa1 (s_iload_n (kf := 1) (j := 1) (by decide +kernel) rfl) <|
  fa1 (s_iald (by decide +kernel)) <|
  fa1 (s_goto (off := 9) (by decide +kernel) (by decide)) <|
  fa1 (s_aload_n (kf := 0) (j := 0) (by decide +kernel) rfl) <|
  fa1 (s_getR (t2 := 20) (g := (fun _ => 27)) (ci := 3) (f := 3) (idx := 24) (C := RX3) (T := TX3) (NF := 11) (by decide +kernel) rfl (by decide) inG_X3 (by decide) w_253 lr_X3_3 (by decide)) <|
  fa1 (s_iload_n (kf := 1) (j := 1) (by decide +kernel) rfl) <|
  fa1 (s_iald (by decide +kernel)) <|
  fa1 (s_iret (by decide +kernel) rfl) <| fa0
theorem gg_X3_toldAt {G : Wp} {l : Launch} : GoodM loC G l yX3_toldAt cX3_toldAt 3 (some .int) rm_X3_toldAt f_X3_toldAt := met_of kt_X3_toldAt (lkp_snd (ks_X3_toldAt G l)) (by decide +kernel) rfl (by decide)
noncomputable def k_X3_closed : List (Nat × Ins) := [
  (0, i_iload 1 1),
  (1, i_istore 2 2),
  (2, i_push 3 (.inl 0)),
  (3, i_istore 4 3),
  (4, i_iload 5 3),
  (5, i_aload 6 0),
  (6, i_getI 9 3 9),
  (9, i_cmpge 12 34),
  (12, i_iload 13 1),
  (13, i_iload 14 3),
  (14, i_bin 15 bShr),
  (15, i_push 16 (.inl 1)),
  (16, i_bin 17 bAnd),
  (17, i_ifeq 20 28),
  (20, i_iload 21 2),
  (21, i_aload 22 0),
  (22, i_iload 23 3),
  (23, i_callI 26 2 (rcv 3) f_X3_underOf),
  (26, i_bin 27 bOr),
  (27, i_istore 28 2),
  (28, i_iinc 31 3 (1)),
  (31, i_goto 4),
  (34, i_iload 35 2),
  (35, i_iret)]
noncomputable def kc_X3_closed : Nat → Option Ins := lkp k_X3_closed
noncomputable def f_X3_closed : List AV → Mem → Option Rs := den 4 kc_X3_closed
abbrev rm_X3_closed : Room := { frames := 2, cells := 0, slots := 0, locals := 43 }
set_option maxRecDepth 100000 in
theorem kt_X3_closed : TriC kc_X3_closed := lkp_tri (fa1 (tri_iload 1 1) (fa1 (tri_istore 2 2) (fa1 (tri_push 3 (.inl 0)) (fa1 (tri_istore 4 3) (fa1 (tri_iload 5 3) (fa1 (tri_aload 6 0) (fa1 (tri_getI 9 3 9) (fa1 (tri_cmpge 12 34) (fa1 (tri_iload 13 1) (fa1 (tri_iload 14 3) (fa1 (tri_bin 15 bShr) (fa1 (tri_push 16 (.inl 1)) (fa1 (tri_bin 17 bAnd) (fa1 (tri_ifeq 20 28) (fa1 (tri_iload 21 2) (fa1 (tri_aload 22 0) (fa1 (tri_iload 23 3) (fa1 (tri_callI 26 2 (rcv 3) f_X3_underOf) (fa1 (tri_bin 27 bOr) (fa1 (tri_istore 28 2) (fa1 (tri_iinc 31 3 (1)) (fa1 (tri_goto 4) (fa1 (tri_iload 35 2) (fa1 (tri_iret) (fa0)))))))))))))))))))))))))
set_option maxRecDepth 100000 in
set_option maxHeartbeats 4000000 in
theorem ks_X3_closed (G : Wp) (l : Launch) : ∀ e ∈ k_X3_closed, Snd loC G l RX3 cX3_closed 4 (some .int) rm_X3_closed e.1 e.2 :=
  fa1 (s_iload_n (kf := 1) (j := 1) (by decide +kernel) rfl) <|
  fa1 (s_istore_n (kf := 2) (j := 2) (by decide +kernel) rfl (by decide)) <|
  fa1 (s_iconst (n := 0) (v := 0) (by decide +kernel) (by decide +kernel) (p32 rfl)) <|
  fa1 (s_istore_n (kf := 3) (j := 3) (by decide +kernel) rfl (by decide)) <|
  fa1 (s_iload_n (kf := 3) (j := 3) (by decide +kernel) rfl) <|
  fa1 (s_aload_n (kf := 0) (j := 0) (by decide +kernel) rfl) <|
  fa1 (s_getI (ci := 3) (f := 9) (idx := 39) (C := RX3) (T := TX3) (NF := 11) (by decide +kernel) rfl (by decide) inG_X3 (by decide) w_259 li_X3_9) <|
  fa1 (s_cmpge (off := 25) (by decide +kernel) (by decide)) <|
  fa1 (s_iload_n (kf := 1) (j := 1) (by decide +kernel) rfl) <|
  fa1 (s_iload_n (kf := 3) (j := 3) (by decide +kernel) rfl) <|
  fa1 (s_ishr (by decide +kernel)) <|
  fa1 (s_iconst (n := 1) (v := 1) (by decide +kernel) (by decide +kernel) (p32 rfl)) <|
  fa1 (s_iand (by decide +kernel)) <|
  fa1 (s_ifeq (off := 11) (by decide +kernel) (by decide)) <|
  fa1 (s_iload_n (kf := 2) (j := 2) (by decide +kernel) rfl) <|
  fa1 (s_aload_n (kf := 0) (j := 0) (by decide +kernel) rfl) <|
  fa1 (s_iload_n (kf := 3) (j := 3) (by decide +kernel) rfl) <|
  fa1 (s_vcallI (n := 1) (ci := 3) (C := RX3) (T := TX3) (NF := 11) (idx := 84) (y := yX3_underOf) (by decide +kernel) (gg_X3_underOf) rfl (by decide) yv_X3_underOf (all5 w_754 w_740 w_741 w_104 w_742) rfl rfl ⟨by decide, by decide⟩) <|
  fa1 (s_ior (by decide +kernel)) <|
  fa1 (s_istore_n (kf := 2) (j := 2) (by decide +kernel) rfl (by decide)) <|
  fa1 (s_iinc (j := 3) (d := 1) (by decide +kernel) (by decide)) <|
  fa1 (s_goto (off := -27) (by decide +kernel) (by decide)) <|
  fa1 (s_iload_n (kf := 2) (j := 2) (by decide +kernel) rfl) <|
  fa1 (s_iret (by decide +kernel) rfl) <| fa0
theorem gg_X3_closed {G : Wp} {l : Launch} : GoodM loC G l yX3_closed cX3_closed 4 (some .int) rm_X3_closed f_X3_closed := met_of kt_X3_closed (lkp_snd (ks_X3_closed G l)) (by decide +kernel) rfl (by decide)
noncomputable def k_X3_tellProof : List (Nat × Ins) := [
  (0, i_aload 1 0),
  (1, i_aload 2 1),
  (2, i_getI 5 1 7),
  (5, i_callR 8 2 2 (rcv 3) f_X3_get),
  (8, i_astore 9 3),
  (9, i_aload 10 3),
  (10, i_ifnull 13 28),
  (13, i_aload 14 1),
  (14, i_getI 17 1 8),
  (17, i_push 20 (.inl 200)),
  (20, i_aload 21 0),
  (21, i_getI 24 3 10),
  (24, i_bin 25 (fun x y => wr (x - y))),
  (25, i_cmple 28 30),
  (28, i_push 29 (.inl 0)),
  (29, i_zret),
  (30, i_aload 31 3),
  (31, i_aload 32 0),
  (32, i_getI 35 3 10),
  (35, i_putI 38 2 5),
  (38, i_aload 39 3),
  (39, i_aload 40 1),
  (40, i_getI 43 1 8),
  (43, i_putI 46 2 6),
  (46, i_push 47 (.inl 0)),
  (47, i_istore 49 4),
  (49, i_iload 51 4),
  (51, i_aload 52 1),
  (52, i_getI 55 1 8),
  (55, i_cmpge 58 119),
  (58, i_aload 59 0),
  (59, i_getR 62 3 20 (fun _ => 25)),
  (62, i_aload 63 0),
  (63, i_getI 66 3 10),
  (66, i_aload 67 1),
  (67, i_iload 69 4),
  (69, i_callI 72 2 (rcv 1) f_X1_kindAt),
  (72, i_ast 73 20 lnC id),
  (73, i_aload 74 0),
  (74, i_getR 77 3 20 (fun _ => 26)),
  (77, i_aload 78 0),
  (78, i_getI 81 3 10),
  (81, i_aload 82 1),
  (82, i_iload 84 4),
  (84, i_callI 87 2 (rcv 1) f_X1_whichAt),
  (87, i_ast 88 20 lnC id),
  (88, i_aload 89 0),
  (89, i_getR 92 3 20 (fun _ => 27)),
  (92, i_aload 93 0),
  (93, i_getI 96 3 10),
  (96, i_aload 97 1),
  (97, i_iload 99 4),
  (99, i_callI 102 2 (rcv 1) f_X1_placeAt),
  (102, i_ast 103 20 lnC id),
  (103, i_aload 104 0),
  (104, i_dup 105),
  (105, i_getI 108 3 10),
  (108, i_push 109 (.inl 1)),
  (109, i_bin 110 (fun x y => wr (x + y))),
  (110, i_putI 113 3 10),
  (113, i_iinc 116 4 (1)),
  (116, i_goto 49),
  (119, i_aload 120 3),
  (120, i_aload 121 1),
  (121, i_callI 124 1 (rcv 1) f_X1_putting),
  (124, i_putI 127 2 10),
  (127, i_aload 128 3),
  (128, i_aload 129 0),
  (129, i_aload 130 1),
  (130, i_callI 133 1 (rcv 1) f_X1_using),
  (133, i_callI 136 2 (rcv 3) f_X3_closed),
  (136, i_putI 139 2 9),
  (139, i_aload 140 3),
  (140, i_aload 141 0),
  (141, i_getI 144 3 8),
  (144, i_putI 147 2 8),
  (147, i_aload 148 0),
  (148, i_dup 149),
  (149, i_getI 152 3 8),
  (152, i_push 153 (.inl 1)),
  (153, i_bin 154 (fun x y => wr (x + y))),
  (154, i_putI 157 3 8),
  (157, i_aload 158 0),
  (158, i_aload 159 1),
  (159, i_getI 162 1 7),
  (162, i_push 163 (.inl 2)),
  (163, i_iload 164 2),
  (164, i_callV 167 4 (rcv 3) f_X3_turn),
  (167, i_push 168 (.inl 1)),
  (168, i_zret)]
noncomputable def kc_X3_tellProof : Nat → Option Ins := lkp k_X3_tellProof
noncomputable def f_X3_tellProof : List AV → Mem → Option Rs := den 5 kc_X3_tellProof
abbrev rm_X3_tellProof : Room := { frames := 3, cells := 0, slots := 0, locals := 66 }
set_option maxRecDepth 100000 in
theorem kt_X3_tellProof : TriC kc_X3_tellProof := lkp_tri (fa1 (tri_aload 1 0) (fa1 (tri_aload 2 1) (fa1 (tri_getI 5 1 7) (fa1 (tri_callR 8 2 2 (rcv 3) f_X3_get) (fa1 (tri_astore 9 3) (fa1 (tri_aload 10 3) (fa1 (tri_ifnull 13 28) (fa1 (tri_aload 14 1) (fa1 (tri_getI 17 1 8) (fa1 (tri_push 20 (.inl 200)) (fa1 (tri_aload 21 0) (fa1 (tri_getI 24 3 10) (fa1 (tri_bin 25 (fun x y => wr (x - y))) (fa1 (tri_cmple 28 30) (fa1 (tri_push 29 (.inl 0)) (fa1 (tri_zret) (fa1 (tri_aload 31 3) (fa1 (tri_aload 32 0) (fa1 (tri_getI 35 3 10) (fa1 (tri_putI 38 2 5) (fa1 (tri_aload 39 3) (fa1 (tri_aload 40 1) (fa1 (tri_getI 43 1 8) (fa1 (tri_putI 46 2 6) (fa1 (tri_push 47 (.inl 0)) (fa1 (tri_istore 49 4) (fa1 (tri_iload 51 4) (fa1 (tri_aload 52 1) (fa1 (tri_getI 55 1 8) (fa1 (tri_cmpge 58 119) (fa1 (tri_aload 59 0) (fa1 (tri_getR 62 3 20 (fun _ => 25)) (fa1 (tri_aload 63 0) (fa1 (tri_getI 66 3 10) (fa1 (tri_aload 67 1) (fa1 (tri_iload 69 4) (fa1 (tri_callI 72 2 (rcv 1) f_X1_kindAt) (fa1 (tri_ast 73 20 lnC id) (fa1 (tri_aload 74 0) (fa1 (tri_getR 77 3 20 (fun _ => 26)) (fa1 (tri_aload 78 0) (fa1 (tri_getI 81 3 10) (fa1 (tri_aload 82 1) (fa1 (tri_iload 84 4) (fa1 (tri_callI 87 2 (rcv 1) f_X1_whichAt) (fa1 (tri_ast 88 20 lnC id) (fa1 (tri_aload 89 0) (fa1 (tri_getR 92 3 20 (fun _ => 27)) (fa1 (tri_aload 93 0) (fa1 (tri_getI 96 3 10) (fa1 (tri_aload 97 1) (fa1 (tri_iload 99 4) (fa1 (tri_callI 102 2 (rcv 1) f_X1_placeAt) (fa1 (tri_ast 103 20 lnC id) (fa1 (tri_aload 104 0) (fa1 (tri_dup 105) (fa1 (tri_getI 108 3 10) (fa1 (tri_push 109 (.inl 1)) (fa1 (tri_bin 110 (fun x y => wr (x + y))) (fa1 (tri_putI 113 3 10) (fa1 (tri_iinc 116 4 (1)) (fa1 (tri_goto 49) (fa1 (tri_aload 120 3) (fa1 (tri_aload 121 1) (fa1 (tri_callI 124 1 (rcv 1) f_X1_putting) (fa1 (tri_putI 127 2 10) (fa1 (tri_aload 128 3) (fa1 (tri_aload 129 0) (fa1 (tri_aload 130 1) (fa1 (tri_callI 133 1 (rcv 1) f_X1_using) (fa1 (tri_callI 136 2 (rcv 3) f_X3_closed) (fa1 (tri_putI 139 2 9) (fa1 (tri_aload 140 3) (fa1 (tri_aload 141 0) (fa1 (tri_getI 144 3 8) (fa1 (tri_putI 147 2 8) (fa1 (tri_aload 148 0) (fa1 (tri_dup 149) (fa1 (tri_getI 152 3 8) (fa1 (tri_push 153 (.inl 1)) (fa1 (tri_bin 154 (fun x y => wr (x + y))) (fa1 (tri_putI 157 3 8) (fa1 (tri_aload 158 0) (fa1 (tri_aload 159 1) (fa1 (tri_getI 162 1 7) (fa1 (tri_push 163 (.inl 2)) (fa1 (tri_iload 164 2) (fa1 (tri_callV 167 4 (rcv 3) f_X3_turn) (fa1 (tri_push 168 (.inl 1)) (fa1 (tri_zret) (fa0)))))))))))))))))))))))))))))))))))))))))))))))))))))))))))))))))))))))))))))))))))))))))))
set_option maxRecDepth 100000 in
set_option maxHeartbeats 4000000 in
theorem ks_X3_tellProof (G : Wp) (l : Launch) : ∀ e ∈ k_X3_tellProof, Snd loC G l RX3 cX3_tellProof 5 (some .boolean) rm_X3_tellProof e.1 e.2 :=
  fa1 (s_aload_n (kf := 0) (j := 0) (by decide +kernel) rfl) <|
  fa1 (s_aload_n (kf := 1) (j := 1) (by decide +kernel) rfl) <|
  fa1 (s_getI (ci := 1) (f := 7) (idx := 97) (C := RX1) (T := TX1) (NF := 9) (by decide +kernel) rfl (by decide) inG_X1 (by decide) w_378 li_X1_7) <|
  fa1 (s_vcallR (t := 2) (n := 1) (ci := 3) (C := RX3) (T := TX3) (NF := 11) (idx := 77) (y := yX3_get) (by decide +kernel) (gg_X3_get) rfl (by decide) yv_X3_get (all5 w_743 w_736 w_737 w_104 w_738) rfl rfl ⟨by decide, by decide⟩) <|
  fa1 (s_astore_n (kf := 3) (j := 3) (by decide +kernel) rfl (by decide)) <|
  fa1 (s_aload_n (kf := 3) (j := 3) (by decide +kernel) rfl) <|
  fa1 (s_ifnull (off := 18) (by decide +kernel) (by decide)) <|
  fa1 (s_aload_n (kf := 1) (j := 1) (by decide +kernel) rfl) <|
  fa1 (s_getI (ci := 1) (f := 8) (idx := 102) (C := RX1) (T := TX1) (NF := 9) (by decide +kernel) rfl (by decide) inG_X1 (by decide) w_381 li_X1_8) <|
  fa1 (s_sipush (n := 200) (v := 200) (by decide +kernel) (by decide +kernel) (p32 rfl)) <|
  fa1 (s_aload_n (kf := 0) (j := 0) (by decide +kernel) rfl) <|
  fa1 (s_getI (ci := 3) (f := 10) (idx := 94) (C := RX3) (T := TX3) (NF := 11) (by decide +kernel) rfl (by decide) inG_X3 (by decide) w_265 li_X3_10) <|
  fa1 (s_isub (by decide +kernel)) <|
  fa1 (s_cmple (off := 5) (by decide +kernel) (by decide)) <|
  fa1 (s_iconst (n := 0) (v := 0) (by decide +kernel) (by decide +kernel) (p32 rfl)) <|
  fa1 (s_zret (by decide +kernel) rfl) <|
  fa1 (s_aload_n (kf := 3) (j := 3) (by decide +kernel) rfl) <|
  fa1 (s_aload_n (kf := 0) (j := 0) (by decide +kernel) rfl) <|
  fa1 (s_getI (ci := 3) (f := 10) (idx := 94) (C := RX3) (T := TX3) (NF := 11) (by decide +kernel) rfl (by decide) inG_X3 (by decide) w_265 li_X3_10) <|
  fa1 (s_putI (ci := 2) (f := 5) (idx := 103) (C := RX2) (T := TX2) (NF := 11) (by decide +kernel) rfl (by decide) inG_X2 (by decide) w_217 tyX2 tyX2_ok nmX2 rfl (by decide +kernel) li_X2_5) <|
  fa1 (s_aload_n (kf := 3) (j := 3) (by decide +kernel) rfl) <|
  fa1 (s_aload_n (kf := 1) (j := 1) (by decide +kernel) rfl) <|
  fa1 (s_getI (ci := 1) (f := 8) (idx := 102) (C := RX1) (T := TX1) (NF := 9) (by decide +kernel) rfl (by decide) inG_X1 (by decide) w_381 li_X1_8) <|
  fa1 (s_putI (ci := 2) (f := 6) (idx := 65) (C := RX2) (T := TX2) (NF := 11) (by decide +kernel) rfl (by decide) inG_X2 (by decide) w_219 tyX2 tyX2_ok nmX2 rfl (by decide +kernel) li_X2_6) <|
  fa1 (s_iconst (n := 0) (v := 0) (by decide +kernel) (by decide +kernel) (p32 rfl)) <|
  fa1 (s_istore (j := 4) (by decide +kernel) (by decide)) <|
  fa1 (s_iload (j := 4) (by decide +kernel)) <|
  fa1 (s_aload_n (kf := 1) (j := 1) (by decide +kernel) rfl) <|
  fa1 (s_getI (ci := 1) (f := 8) (idx := 102) (C := RX1) (T := TX1) (NF := 9) (by decide +kernel) rfl (by decide) inG_X1 (by decide) w_381 li_X1_8) <|
  fa1 (s_cmpge (off := 64) (by decide +kernel) (by decide)) <|
  fa1 (s_aload_n (kf := 0) (j := 0) (by decide +kernel) rfl) <|
  fa1 (s_getR (t2 := 20) (g := (fun _ => 25)) (ci := 3) (f := 1) (idx := 17) (C := RX3) (T := TX3) (NF := 11) (by decide +kernel) rfl (by decide) inG_X3 (by decide) w_251 lr_X3_1 (by decide)) <|
  fa1 (s_aload_n (kf := 0) (j := 0) (by decide +kernel) rfl) <|
  fa1 (s_getI (ci := 3) (f := 10) (idx := 94) (C := RX3) (T := TX3) (NF := 11) (by decide +kernel) rfl (by decide) inG_X3 (by decide) w_265 li_X3_10) <|
  fa1 (s_aload_n (kf := 1) (j := 1) (by decide +kernel) rfl) <|
  fa1 (s_iload (j := 4) (by decide +kernel)) <|
  fa1 (s_vcallI (n := 1) (ci := 1) (C := RX1) (T := TX1) (NF := 9) (idx := 106) (y := yX1_kindAt) (by decide +kernel) (gg_X1_kindAt) rfl (by decide) yv_X1_kindAt (all5 w_896 w_897 w_898 w_108 w_899) rfl rfl ⟨by decide, by decide⟩) <|
  fa1 (s_iast (by decide +kernel) lt_loC_20) <|
  fa1 (s_aload_n (kf := 0) (j := 0) (by decide +kernel) rfl) <|
  fa1 (s_getR (t2 := 20) (g := (fun _ => 26)) (ci := 3) (f := 2) (idx := 21) (C := RX3) (T := TX3) (NF := 11) (by decide +kernel) rfl (by decide) inG_X3 (by decide) w_252 lr_X3_2 (by decide)) <|
  fa1 (s_aload_n (kf := 0) (j := 0) (by decide +kernel) rfl) <|
  fa1 (s_getI (ci := 3) (f := 10) (idx := 94) (C := RX3) (T := TX3) (NF := 11) (by decide +kernel) rfl (by decide) inG_X3 (by decide) w_265 li_X3_10) <|
  fa1 (s_aload_n (kf := 1) (j := 1) (by decide +kernel) rfl) <|
  fa1 (s_iload (j := 4) (by decide +kernel)) <|
  fa1 (s_vcallI (n := 1) (ci := 1) (C := RX1) (T := TX1) (NF := 9) (idx := 109) (y := yX1_whichAt) (by decide +kernel) (gg_X1_whichAt) rfl (by decide) yv_X1_whichAt (all5 w_900 w_901 w_902 w_108 w_903) rfl rfl ⟨by decide, by decide⟩) <|
  fa1 (s_iast (by decide +kernel) lt_loC_20) <|
  fa1 (s_aload_n (kf := 0) (j := 0) (by decide +kernel) rfl) <|
  fa1 (s_getR (t2 := 20) (g := (fun _ => 27)) (ci := 3) (f := 3) (idx := 24) (C := RX3) (T := TX3) (NF := 11) (by decide +kernel) rfl (by decide) inG_X3 (by decide) w_253 lr_X3_3 (by decide)) <|
  fa1 (s_aload_n (kf := 0) (j := 0) (by decide +kernel) rfl) <|
  fa1 (s_getI (ci := 3) (f := 10) (idx := 94) (C := RX3) (T := TX3) (NF := 11) (by decide +kernel) rfl (by decide) inG_X3 (by decide) w_265 li_X3_10) <|
  fa1 (s_aload_n (kf := 1) (j := 1) (by decide +kernel) rfl) <|
  fa1 (s_iload (j := 4) (by decide +kernel)) <|
  fa1 (s_vcallI (n := 1) (ci := 1) (C := RX1) (T := TX1) (NF := 9) (idx := 112) (y := yX1_placeAt) (by decide +kernel) (gg_X1_placeAt) rfl (by decide) yv_X1_placeAt (all5 w_904 w_905 w_906 w_108 w_907) rfl rfl ⟨by decide, by decide⟩) <|
  fa1 (s_iast (by decide +kernel) lt_loC_20) <|
  fa1 (s_aload_n (kf := 0) (j := 0) (by decide +kernel) rfl) <|
  fa1 (s_dup (by decide +kernel)) <|
  fa1 (s_getI (ci := 3) (f := 10) (idx := 94) (C := RX3) (T := TX3) (NF := 11) (by decide +kernel) rfl (by decide) inG_X3 (by decide) w_265 li_X3_10) <|
  fa1 (s_iconst (n := 1) (v := 1) (by decide +kernel) (by decide +kernel) (p32 rfl)) <|
  fa1 (s_iadd (by decide +kernel)) <|
  fa1 (s_putI (ci := 3) (f := 10) (idx := 94) (C := RX3) (T := TX3) (NF := 11) (by decide +kernel) rfl (by decide) inG_X3 (by decide) w_265 tyX3 tyX3_ok nmX3 rfl (by decide +kernel) li_X3_10) <|
  fa1 (s_iinc (j := 4) (d := 1) (by decide +kernel) (by decide)) <|
  fa1 (s_goto (off := -67) (by decide +kernel) (by decide)) <|
  fa1 (s_aload_n (kf := 3) (j := 3) (by decide +kernel) rfl) <|
  fa1 (s_aload_n (kf := 1) (j := 1) (by decide +kernel) rfl) <|
  fa1 (s_vcallI (n := 0) (ci := 1) (C := RX1) (T := TX1) (NF := 9) (idx := 115) (y := yX1_putting) (by decide +kernel) (gg_X1_putting) rfl (by decide) yv_X1_putting (all5 w_908 w_909 w_910 w_108 w_911) rfl rfl ⟨by decide, by decide⟩) <|
  fa1 (s_putI (ci := 2) (f := 10) (idx := 88) (C := RX2) (T := TX2) (NF := 11) (by decide +kernel) rfl (by decide) inG_X2 (by decide) w_225 tyX2 tyX2_ok nmX2 rfl (by decide +kernel) li_X2_10) <|
  fa1 (s_aload_n (kf := 3) (j := 3) (by decide +kernel) rfl) <|
  fa1 (s_aload_n (kf := 0) (j := 0) (by decide +kernel) rfl) <|
  fa1 (s_aload_n (kf := 1) (j := 1) (by decide +kernel) rfl) <|
  fa1 (s_vcallI (n := 0) (ci := 1) (C := RX1) (T := TX1) (NF := 9) (idx := 118) (y := yX1_using) (by decide +kernel) (gg_X1_using) rfl (by decide) yv_X1_using (all5 w_912 w_913 w_914 w_108 w_915) rfl rfl ⟨by decide, by decide⟩) <|
  fa1 (s_vcallI (n := 1) (ci := 3) (C := RX3) (T := TX3) (NF := 11) (idx := 121) (y := yX3_closed) (by decide +kernel) (gg_X3_closed) rfl (by decide) yv_X3_closed (all5 w_916 w_918 w_17 w_104 w_919) rfl rfl ⟨by decide, by decide⟩) <|
  fa1 (s_putI (ci := 2) (f := 9) (idx := 81) (C := RX2) (T := TX2) (NF := 11) (by decide +kernel) rfl (by decide) inG_X2 (by decide) w_224 tyX2 tyX2_ok nmX2 rfl (by decide +kernel) li_X2_9) <|
  fa1 (s_aload_n (kf := 3) (j := 3) (by decide +kernel) rfl) <|
  fa1 (s_aload_n (kf := 0) (j := 0) (by decide +kernel) rfl) <|
  fa1 (s_getI (ci := 3) (f := 8) (idx := 124) (C := RX3) (T := TX3) (NF := 11) (by decide +kernel) rfl (by decide) inG_X3 (by decide) w_258 li_X3_8) <|
  fa1 (s_putI (ci := 2) (f := 8) (idx := 127) (C := RX2) (T := TX2) (NF := 11) (by decide +kernel) rfl (by decide) inG_X2 (by decide) w_223 tyX2 tyX2_ok nmX2 rfl (by decide +kernel) li_X2_8) <|
  fa1 (s_aload_n (kf := 0) (j := 0) (by decide +kernel) rfl) <|
  fa1 (s_dup (by decide +kernel)) <|
  fa1 (s_getI (ci := 3) (f := 8) (idx := 124) (C := RX3) (T := TX3) (NF := 11) (by decide +kernel) rfl (by decide) inG_X3 (by decide) w_258 li_X3_8) <|
  fa1 (s_iconst (n := 1) (v := 1) (by decide +kernel) (by decide +kernel) (p32 rfl)) <|
  fa1 (s_iadd (by decide +kernel)) <|
  fa1 (s_putI (ci := 3) (f := 8) (idx := 124) (C := RX3) (T := TX3) (NF := 11) (by decide +kernel) rfl (by decide) inG_X3 (by decide) w_258 tyX3 tyX3_ok nmX3 rfl (by decide +kernel) li_X3_8) <|
  fa1 (s_aload_n (kf := 0) (j := 0) (by decide +kernel) rfl) <|
  fa1 (s_aload_n (kf := 1) (j := 1) (by decide +kernel) rfl) <|
  fa1 (s_getI (ci := 1) (f := 7) (idx := 97) (C := RX1) (T := TX1) (NF := 9) (by decide +kernel) rfl (by decide) inG_X1 (by decide) w_378 li_X1_7) <|
  fa1 (s_iconst (n := 2) (v := 2) (by decide +kernel) (by decide +kernel) (p32 rfl)) <|
  fa1 (s_iload_n (kf := 2) (j := 2) (by decide +kernel) rfl) <|
  fa1 (s_vcallV (n := 3) (ci := 3) (C := RX3) (T := TX3) (NF := 11) (idx := 130) (y := yX3_turn) (by decide +kernel) (gg_X3_turn) rfl (by decide) yv_X3_turn (all5 w_920 w_922 w_18 w_104 w_923) rfl rfl ⟨by decide, by decide⟩) <|
  fa1 (s_iconst (n := 1) (v := 1) (by decide +kernel) (by decide +kernel) (p32 rfl)) <|
  fa1 (s_zret (by decide +kernel) rfl) <| fa0
theorem gg_X3_tellProof {G : Wp} {l : Launch} : GoodM loC G l yX3_tellProof cX3_tellProof 5 (some .boolean) rm_X3_tellProof f_X3_tellProof := met_of kt_X3_tellProof (lkp_snd (ks_X3_tellProof G l)) (by decide +kernel) rfl (by decide)
noncomputable def k_J6_bitCount_0f7a4 : List (Nat × Ins) := [
  (0, i_iload 1 0),
  (1, i_iload 2 0),
  (2, i_push 3 (.inl 1)),
  (3, i_bin 4 bUshr),
  (4, i_push 7 (.inl (1431655765))),
  (7, i_bin 8 bAnd),
  (8, i_bin 9 (fun x y => wr (x - y))),
  (9, i_istore 10 0),
  (10, i_iload 11 0),
  (11, i_push 14 (.inl (858993459))),
  (14, i_bin 15 bAnd),
  (15, i_iload 16 0),
  (16, i_push 17 (.inl 2)),
  (17, i_bin 18 bUshr),
  (18, i_push 21 (.inl (858993459))),
  (21, i_bin 22 bAnd),
  (22, i_bin 23 (fun x y => wr (x + y))),
  (23, i_istore 24 0),
  (24, i_iload 25 0),
  (25, i_iload 26 0),
  (26, i_push 27 (.inl 4)),
  (27, i_bin 28 bUshr),
  (28, i_bin 29 (fun x y => wr (x + y))),
  (29, i_push 32 (.inl (252645135))),
  (32, i_bin 33 bAnd),
  (33, i_istore 34 0),
  (34, i_iload 35 0),
  (35, i_iload 36 0),
  (36, i_push 38 (.inl 8)),
  (38, i_bin 39 bUshr),
  (39, i_bin 40 (fun x y => wr (x + y))),
  (40, i_istore 41 0),
  (41, i_iload 42 0),
  (42, i_iload 43 0),
  (43, i_push 45 (.inl 16)),
  (45, i_bin 46 bUshr),
  (46, i_bin 47 (fun x y => wr (x + y))),
  (47, i_istore 48 0),
  (48, i_iload 49 0),
  (49, i_push 51 (.inl 63)),
  (51, i_bin 52 bAnd),
  (52, i_iret)]
noncomputable def kc_J6_bitCount_0f7a4 : Nat → Option Ins := lkp k_J6_bitCount_0f7a4
noncomputable def f_J6_bitCount_0f7a4 : List AV → Mem → Option Rs := den 1 kc_J6_bitCount_0f7a4
abbrev rm_J6_bitCount_0f7a4 : Room := { frames := 0, cells := 0, slots := 0, locals := 0 }
set_option maxRecDepth 100000 in
theorem kt_J6_bitCount_0f7a4 : TriC kc_J6_bitCount_0f7a4 := lkp_tri (fa1 (tri_iload 1 0) (fa1 (tri_iload 2 0) (fa1 (tri_push 3 (.inl 1)) (fa1 (tri_bin 4 bUshr) (fa1 (tri_push 7 (.inl (1431655765))) (fa1 (tri_bin 8 bAnd) (fa1 (tri_bin 9 (fun x y => wr (x - y))) (fa1 (tri_istore 10 0) (fa1 (tri_iload 11 0) (fa1 (tri_push 14 (.inl (858993459))) (fa1 (tri_bin 15 bAnd) (fa1 (tri_iload 16 0) (fa1 (tri_push 17 (.inl 2)) (fa1 (tri_bin 18 bUshr) (fa1 (tri_push 21 (.inl (858993459))) (fa1 (tri_bin 22 bAnd) (fa1 (tri_bin 23 (fun x y => wr (x + y))) (fa1 (tri_istore 24 0) (fa1 (tri_iload 25 0) (fa1 (tri_iload 26 0) (fa1 (tri_push 27 (.inl 4)) (fa1 (tri_bin 28 bUshr) (fa1 (tri_bin 29 (fun x y => wr (x + y))) (fa1 (tri_push 32 (.inl (252645135))) (fa1 (tri_bin 33 bAnd) (fa1 (tri_istore 34 0) (fa1 (tri_iload 35 0) (fa1 (tri_iload 36 0) (fa1 (tri_push 38 (.inl 8)) (fa1 (tri_bin 39 bUshr) (fa1 (tri_bin 40 (fun x y => wr (x + y))) (fa1 (tri_istore 41 0) (fa1 (tri_iload 42 0) (fa1 (tri_iload 43 0) (fa1 (tri_push 45 (.inl 16)) (fa1 (tri_bin 46 bUshr) (fa1 (tri_bin 47 (fun x y => wr (x + y))) (fa1 (tri_istore 48 0) (fa1 (tri_iload 49 0) (fa1 (tri_push 51 (.inl 63)) (fa1 (tri_bin 52 bAnd) (fa1 (tri_iret) (fa0)))))))))))))))))))))))))))))))))))))))))))
set_option maxRecDepth 100000 in
set_option maxHeartbeats 4000000 in
theorem ks_J6_bitCount_0f7a4 (G : Wp) (l : Launch) : ∀ e ∈ k_J6_bitCount_0f7a4, Snd loC G l RJ6 cJ6_bitCount_0f7a4 1 (some .int) rm_J6_bitCount_0f7a4 e.1 e.2 :=
  fa1 (s_iload_n (kf := 0) (j := 0) (by decide +kernel) rfl) <|
  fa1 (s_iload_n (kf := 0) (j := 0) (by decide +kernel) rfl) <|
  fa1 (s_iconst (n := 1) (v := 1) (by decide +kernel) (by decide +kernel) (p32 rfl)) <|
  fa1 (s_iushr (by decide +kernel)) <|
  fa1 (s_ldcw (idx := 265) (v := 1431655765) (by decide +kernel) w_747 (p32 rfl)) <|
  fa1 (s_iand (by decide +kernel)) <|
  fa1 (s_isub (by decide +kernel)) <|
  fa1 (s_istore_n (kf := 0) (j := 0) (by decide +kernel) rfl (by decide)) <|
  fa1 (s_iload_n (kf := 0) (j := 0) (by decide +kernel) rfl) <|
  fa1 (s_ldcw (idx := 266) (v := 858993459) (by decide +kernel) w_748 (p32 rfl)) <|
  fa1 (s_iand (by decide +kernel)) <|
  fa1 (s_iload_n (kf := 0) (j := 0) (by decide +kernel) rfl) <|
  fa1 (s_iconst (n := 2) (v := 2) (by decide +kernel) (by decide +kernel) (p32 rfl)) <|
  fa1 (s_iushr (by decide +kernel)) <|
  fa1 (s_ldcw (idx := 266) (v := 858993459) (by decide +kernel) w_748 (p32 rfl)) <|
  fa1 (s_iand (by decide +kernel)) <|
  fa1 (s_iadd (by decide +kernel)) <|
  fa1 (s_istore_n (kf := 0) (j := 0) (by decide +kernel) rfl (by decide)) <|
  fa1 (s_iload_n (kf := 0) (j := 0) (by decide +kernel) rfl) <|
  fa1 (s_iload_n (kf := 0) (j := 0) (by decide +kernel) rfl) <|
  fa1 (s_iconst (n := 4) (v := 4) (by decide +kernel) (by decide +kernel) (p32 rfl)) <|
  fa1 (s_iushr (by decide +kernel)) <|
  fa1 (s_iadd (by decide +kernel)) <|
  fa1 (s_ldcw (idx := 267) (v := 252645135) (by decide +kernel) w_749 (p32 rfl)) <|
  fa1 (s_iand (by decide +kernel)) <|
  fa1 (s_istore_n (kf := 0) (j := 0) (by decide +kernel) rfl (by decide)) <|
  fa1 (s_iload_n (kf := 0) (j := 0) (by decide +kernel) rfl) <|
  fa1 (s_iload_n (kf := 0) (j := 0) (by decide +kernel) rfl) <|
  fa1 (s_bipush (n := 8) (v := 8) (by decide +kernel) (by decide +kernel) (p32 rfl)) <|
  fa1 (s_iushr (by decide +kernel)) <|
  fa1 (s_iadd (by decide +kernel)) <|
  fa1 (s_istore_n (kf := 0) (j := 0) (by decide +kernel) rfl (by decide)) <|
  fa1 (s_iload_n (kf := 0) (j := 0) (by decide +kernel) rfl) <|
  fa1 (s_iload_n (kf := 0) (j := 0) (by decide +kernel) rfl) <|
  fa1 (s_bipush (n := 16) (v := 16) (by decide +kernel) (by decide +kernel) (p32 rfl)) <|
  fa1 (s_iushr (by decide +kernel)) <|
  fa1 (s_iadd (by decide +kernel)) <|
  fa1 (s_istore_n (kf := 0) (j := 0) (by decide +kernel) rfl (by decide)) <|
  fa1 (s_iload_n (kf := 0) (j := 0) (by decide +kernel) rfl) <|
  fa1 (s_bipush (n := 63) (v := 63) (by decide +kernel) (by decide +kernel) (p32 rfl)) <|
  fa1 (s_iand (by decide +kernel)) <|
  fa1 (s_iret (by decide +kernel) rfl) <| fa0
theorem gg_J6_bitCount_0f7a4 {G : Wp} {l : Launch} : GoodM loC G l yJ6_bitCount_0f7a4 cJ6_bitCount_0f7a4 1 (some .int) rm_J6_bitCount_0f7a4 f_J6_bitCount_0f7a4 := met_of kt_J6_bitCount_0f7a4 (lkp_snd (ks_J6_bitCount_0f7a4 G l)) (by decide +kernel) rfl (by decide)
noncomputable def k_X3_goesAgain : List (Nat × Ins) := [
  (0, i_aload 1 0),
  (1, i_getR 4 3 25 (fun _ => 24)),
  (4, i_iload 5 1),
  (5, i_aldR 6 25 2 lnC (fun _ i => 31 + 5 * i)),
  (6, i_astore 7 3),
  (7, i_aload 8 2),
  (8, i_iload 9 1),
  (9, i_callV 12 2 (rcv 1) f_X1_begin),
  (12, i_push 13 (.inl 0)),
  (13, i_istore 15 4),
  (15, i_iload 17 4),
  (17, i_aload 18 3),
  (18, i_getI 21 2 6),
  (21, i_cmpge 24 75),
  (24, i_aload 25 3),
  (25, i_getI 28 2 5),
  (28, i_iload 30 4),
  (30, i_bin 31 (fun x y => wr (x + y))),
  (31, i_istore 33 5),
  (33, i_aload 34 2),
  (34, i_aload 35 0),
  (35, i_iload 37 5),
  (37, i_push 38 (.inl 0)),
  (38, i_callI 41 3 (rcv 3) f_X3_toldAt),
  (41, i_aload 42 0),
  (42, i_iload 44 5),
  (44, i_push 45 (.inl 1)),
  (45, i_callI 48 3 (rcv 3) f_X3_toldAt),
  (48, i_aload 49 0),
  (49, i_iload 51 5),
  (51, i_push 52 (.inl 2)),
  (52, i_callI 55 3 (rcv 3) f_X3_toldAt),
  (55, i_callI 58 4 (rcv 1) f_X1_go),
  (58, i_ifge 61 69),
  (61, i_aload 62 3),
  (62, i_iload 64 4),
  (64, i_putI 67 2 7),
  (67, i_push 68 (.inl 0)),
  (68, i_zret),
  (69, i_iinc 72 4 (1)),
  (72, i_goto 15),
  (75, i_aload 76 3),
  (76, i_aload 77 3),
  (77, i_getI 80 2 6),
  (80, i_putI 83 2 7),
  (83, i_aload 84 3),
  (84, i_aload 85 2),
  (85, i_callI 88 1 (rcv 1) f_X1_putting),
  (88, i_putI 91 2 10),
  (91, i_aload 92 2),
  (92, i_callI 95 1 (rcv 1) f_X1_arrived),
  (95, i_zret)]
noncomputable def kc_X3_goesAgain : Nat → Option Ins := lkp k_X3_goesAgain
noncomputable def f_X3_goesAgain : List AV → Mem → Option Rs := den 6 kc_X3_goesAgain
abbrev rm_X3_goesAgain : Room := { frames := 4, cells := 0, slots := 0, locals := 105 }
set_option maxRecDepth 100000 in
theorem kt_X3_goesAgain : TriC kc_X3_goesAgain := lkp_tri (fa1 (tri_aload 1 0) (fa1 (tri_getR 4 3 25 (fun _ => 24)) (fa1 (tri_iload 5 1) (fa1 (tri_aldR 6 25 2 lnC (fun _ i => 31 + 5 * i)) (fa1 (tri_astore 7 3) (fa1 (tri_aload 8 2) (fa1 (tri_iload 9 1) (fa1 (tri_callV 12 2 (rcv 1) f_X1_begin) (fa1 (tri_push 13 (.inl 0)) (fa1 (tri_istore 15 4) (fa1 (tri_iload 17 4) (fa1 (tri_aload 18 3) (fa1 (tri_getI 21 2 6) (fa1 (tri_cmpge 24 75) (fa1 (tri_aload 25 3) (fa1 (tri_getI 28 2 5) (fa1 (tri_iload 30 4) (fa1 (tri_bin 31 (fun x y => wr (x + y))) (fa1 (tri_istore 33 5) (fa1 (tri_aload 34 2) (fa1 (tri_aload 35 0) (fa1 (tri_iload 37 5) (fa1 (tri_push 38 (.inl 0)) (fa1 (tri_callI 41 3 (rcv 3) f_X3_toldAt) (fa1 (tri_aload 42 0) (fa1 (tri_iload 44 5) (fa1 (tri_push 45 (.inl 1)) (fa1 (tri_callI 48 3 (rcv 3) f_X3_toldAt) (fa1 (tri_aload 49 0) (fa1 (tri_iload 51 5) (fa1 (tri_push 52 (.inl 2)) (fa1 (tri_callI 55 3 (rcv 3) f_X3_toldAt) (fa1 (tri_callI 58 4 (rcv 1) f_X1_go) (fa1 (tri_ifge 61 69) (fa1 (tri_aload 62 3) (fa1 (tri_iload 64 4) (fa1 (tri_putI 67 2 7) (fa1 (tri_push 68 (.inl 0)) (fa1 (tri_zret) (fa1 (tri_iinc 72 4 (1)) (fa1 (tri_goto 15) (fa1 (tri_aload 76 3) (fa1 (tri_aload 77 3) (fa1 (tri_getI 80 2 6) (fa1 (tri_putI 83 2 7) (fa1 (tri_aload 84 3) (fa1 (tri_aload 85 2) (fa1 (tri_callI 88 1 (rcv 1) f_X1_putting) (fa1 (tri_putI 91 2 10) (fa1 (tri_aload 92 2) (fa1 (tri_callI 95 1 (rcv 1) f_X1_arrived) (fa1 (tri_zret) (fa0)))))))))))))))))))))))))))))))))))))))))))))))))))))
set_option maxRecDepth 100000 in
set_option maxHeartbeats 4000000 in
theorem ks_X3_goesAgain (G : Wp) (l : Launch) : ∀ e ∈ k_X3_goesAgain, Snd loC G l RX3 cX3_goesAgain 6 (some .boolean) rm_X3_goesAgain e.1 e.2 :=
  fa1 (s_aload_n (kf := 0) (j := 0) (by decide +kernel) rfl) <|
  fa1 (s_getR (t2 := 25) (g := (fun _ => 24)) (ci := 3) (f := 0) (idx := 11) (C := RX3) (T := TX3) (NF := 11) (by decide +kernel) rfl (by decide) inG_X3 (by decide) w_250 lr_X3_0 (by decide)) <|
  fa1 (s_iload_n (kf := 1) (j := 1) (by decide +kernel) rfl) <|
  fa1 (s_aldR (t := 25) (t2 := 2) (g := (fun _ i => 31 + 5 * i)) (by decide +kernel) (by decide) (by decide) rfl (by decide) le_25) <|
  fa1 (s_astore_n (kf := 3) (j := 3) (by decide +kernel) rfl (by decide)) <|
  fa1 (s_aload_n (kf := 2) (j := 2) (by decide +kernel) rfl) <|
  fa1 (s_iload_n (kf := 1) (j := 1) (by decide +kernel) rfl) <|
  fa1 (s_vcallV (n := 1) (ci := 1) (C := RX1) (T := TX1) (NF := 9) (idx := 146) (y := yX1_begin) (by decide +kernel) (gg_X1_begin) rfl (by decide) yv_X1_begin (all5 w_967 w_801 w_802 w_108 w_803) rfl rfl ⟨by decide, by decide⟩) <|
  fa1 (s_iconst (n := 0) (v := 0) (by decide +kernel) (by decide +kernel) (p32 rfl)) <|
  fa1 (s_istore (j := 4) (by decide +kernel) (by decide)) <|
  fa1 (s_iload (j := 4) (by decide +kernel)) <|
  fa1 (s_aload_n (kf := 3) (j := 3) (by decide +kernel) rfl) <|
  fa1 (s_getI (ci := 2) (f := 6) (idx := 65) (C := RX2) (T := TX2) (NF := 11) (by decide +kernel) rfl (by decide) inG_X2 (by decide) w_219 li_X2_6) <|
  fa1 (s_cmpge (off := 54) (by decide +kernel) (by decide)) <|
  fa1 (s_aload_n (kf := 3) (j := 3) (by decide +kernel) rfl) <|
  fa1 (s_getI (ci := 2) (f := 5) (idx := 103) (C := RX2) (T := TX2) (NF := 11) (by decide +kernel) rfl (by decide) inG_X2 (by decide) w_217 li_X2_5) <|
  fa1 (s_iload (j := 4) (by decide +kernel)) <|
  fa1 (s_iadd (by decide +kernel)) <|
  fa1 (s_istore (j := 5) (by decide +kernel) (by decide)) <|
  fa1 (s_aload_n (kf := 2) (j := 2) (by decide +kernel) rfl) <|
  fa1 (s_aload_n (kf := 0) (j := 0) (by decide +kernel) rfl) <|
  fa1 (s_iload (j := 5) (by decide +kernel)) <|
  fa1 (s_iconst (n := 0) (v := 0) (by decide +kernel) (by decide +kernel) (p32 rfl)) <|
  fa1 (s_vcallI (n := 2) (ci := 3) (C := RX3) (T := TX3) (NF := 11) (idx := 150) (y := yX3_toldAt) (by decide +kernel) (gg_X3_toldAt) rfl (by decide) yv_X3_toldAt (all5 w_968 w_933 w_934 w_104 w_935) rfl rfl ⟨by decide, by decide⟩) <|
  fa1 (s_aload_n (kf := 0) (j := 0) (by decide +kernel) rfl) <|
  fa1 (s_iload (j := 5) (by decide +kernel)) <|
  fa1 (s_iconst (n := 1) (v := 1) (by decide +kernel) (by decide +kernel) (p32 rfl)) <|
  fa1 (s_vcallI (n := 2) (ci := 3) (C := RX3) (T := TX3) (NF := 11) (idx := 150) (y := yX3_toldAt) (by decide +kernel) (gg_X3_toldAt) rfl (by decide) yv_X3_toldAt (all5 w_968 w_933 w_934 w_104 w_935) rfl rfl ⟨by decide, by decide⟩) <|
  fa1 (s_aload_n (kf := 0) (j := 0) (by decide +kernel) rfl) <|
  fa1 (s_iload (j := 5) (by decide +kernel)) <|
  fa1 (s_iconst (n := 2) (v := 2) (by decide +kernel) (by decide +kernel) (p32 rfl)) <|
  fa1 (s_vcallI (n := 2) (ci := 3) (C := RX3) (T := TX3) (NF := 11) (idx := 150) (y := yX3_toldAt) (by decide +kernel) (gg_X3_toldAt) rfl (by decide) yv_X3_toldAt (all5 w_968 w_933 w_934 w_104 w_935) rfl rfl ⟨by decide, by decide⟩) <|
  fa1 (s_vcallI (n := 3) (ci := 1) (C := RX1) (T := TX1) (NF := 9) (idx := 153) (y := yX1_go) (by decide +kernel) (gg_X1_go) rfl (by decide) yv_X1_go (all5 w_969 w_819 w_820 w_108 w_821) rfl rfl ⟨by decide, by decide⟩) <|
  fa1 (s_ifge (off := 11) (by decide +kernel) (by decide)) <|
  fa1 (s_aload_n (kf := 3) (j := 3) (by decide +kernel) rfl) <|
  fa1 (s_iload (j := 4) (by decide +kernel)) <|
  fa1 (s_putI (ci := 2) (f := 7) (idx := 157) (C := RX2) (T := TX2) (NF := 11) (by decide +kernel) rfl (by decide) inG_X2 (by decide) w_222 tyX2 tyX2_ok nmX2 rfl (by decide +kernel) li_X2_7) <|
  fa1 (s_iconst (n := 0) (v := 0) (by decide +kernel) (by decide +kernel) (p32 rfl)) <|
  fa1 (s_zret (by decide +kernel) rfl) <|
  fa1 (s_iinc (j := 4) (d := 1) (by decide +kernel) (by decide)) <|
  fa1 (s_goto (off := -57) (by decide +kernel) (by decide)) <|
  fa1 (s_aload_n (kf := 3) (j := 3) (by decide +kernel) rfl) <|
  fa1 (s_aload_n (kf := 3) (j := 3) (by decide +kernel) rfl) <|
  fa1 (s_getI (ci := 2) (f := 6) (idx := 65) (C := RX2) (T := TX2) (NF := 11) (by decide +kernel) rfl (by decide) inG_X2 (by decide) w_219 li_X2_6) <|
  fa1 (s_putI (ci := 2) (f := 7) (idx := 157) (C := RX2) (T := TX2) (NF := 11) (by decide +kernel) rfl (by decide) inG_X2 (by decide) w_222 tyX2 tyX2_ok nmX2 rfl (by decide +kernel) li_X2_7) <|
  fa1 (s_aload_n (kf := 3) (j := 3) (by decide +kernel) rfl) <|
  fa1 (s_aload_n (kf := 2) (j := 2) (by decide +kernel) rfl) <|
  fa1 (s_vcallI (n := 0) (ci := 1) (C := RX1) (T := TX1) (NF := 9) (idx := 115) (y := yX1_putting) (by decide +kernel) (gg_X1_putting) rfl (by decide) yv_X1_putting (all5 w_908 w_909 w_910 w_108 w_911) rfl rfl ⟨by decide, by decide⟩) <|
  fa1 (s_putI (ci := 2) (f := 10) (idx := 88) (C := RX2) (T := TX2) (NF := 11) (by decide +kernel) rfl (by decide) inG_X2 (by decide) w_225 tyX2 tyX2_ok nmX2 rfl (by decide +kernel) li_X2_10) <|
  fa1 (s_aload_n (kf := 2) (j := 2) (by decide +kernel) rfl) <|
  fa1 (s_vcallI (n := 0) (ci := 1) (C := RX1) (T := TX1) (NF := 9) (idx := 160) (y := yX1_arrived) (by decide +kernel) (gg_X1_arrived) rfl (by decide) yv_X1_arrived (all5 w_970 w_875 w_876 w_108 w_877) rfl rfl ⟨by decide, by decide⟩) <|
  fa1 (s_zret (by decide +kernel) rfl) <| fa0
theorem gg_X3_goesAgain {G : Wp} {l : Launch} : GoodM loC G l yX3_goesAgain cX3_goesAgain 6 (some .boolean) rm_X3_goesAgain f_X3_goesAgain := met_of kt_X3_goesAgain (lkp_snd (ks_X3_goesAgain G l)) (by decide +kernel) rfl (by decide)
noncomputable def k_X3_shownNext : List (Nat × Ins) := [
  (0, i_push 2 (.inl (-4))),
  (2, i_istore 3 2),
  (3, i_push 4 (.inl 0)),
  (4, i_istore 5 3),
  (5, i_iload 6 3),
  (6, i_aload 7 0),
  (7, i_getI 10 3 9),
  (10, i_cmpge 13 84),
  (13, i_aload 14 0),
  (14, i_getR 17 3 25 (fun _ => 24)),
  (17, i_iload 18 3),
  (18, i_aldR 19 25 2 lnC (fun _ i => 31 + 5 * i)),
  (19, i_getI 22 2 2),
  (22, i_push 23 (.inl 2)),
  (23, i_cmpne 26 43),
  (26, i_aload 27 0),
  (27, i_getR 30 3 25 (fun _ => 24)),
  (30, i_iload 31 3),
  (31, i_aldR 32 25 2 lnC (fun _ i => 31 + 5 * i)),
  (32, i_getI 35 2 8),
  (35, i_iload 36 1),
  (36, i_cmple 39 43),
  (39, i_push 40 (.inl 1)),
  (40, i_goto 44),
  (43, i_push 44 (.inl 0)),
  (44, i_istore 46 4),
  (46, i_iload 48 4),
  (48, i_ifeq 51 78),
  (51, i_iload 52 2),
  (52, i_iflt 55 76),
  (55, i_aload 56 0),
  (56, i_getR 59 3 25 (fun _ => 24)),
  (59, i_iload 60 3),
  (60, i_aldR 61 25 2 lnC (fun _ i => 31 + 5 * i)),
  (61, i_getI 64 2 8),
  (64, i_aload 65 0),
  (65, i_getR 68 3 25 (fun _ => 24)),
  (68, i_iload 69 2),
  (69, i_aldR 70 25 2 lnC (fun _ i => 31 + 5 * i)),
  (70, i_getI 73 2 8),
  (73, i_cmpge 76 78),
  (76, i_iload 77 3),
  (77, i_istore 78 2),
  (78, i_iinc 81 3 (1)),
  (81, i_goto 5),
  (84, i_iload 85 2),
  (85, i_iret)]
noncomputable def kc_X3_shownNext : Nat → Option Ins := lkp k_X3_shownNext
noncomputable def f_X3_shownNext : List AV → Mem → Option Rs := den 5 kc_X3_shownNext
abbrev rm_X3_shownNext : Room := { frames := 0, cells := 0, slots := 0, locals := 0 }
set_option maxRecDepth 100000 in
theorem kt_X3_shownNext : TriC kc_X3_shownNext := lkp_tri (fa1 (tri_push 2 (.inl (-4))) (fa1 (tri_istore 3 2) (fa1 (tri_push 4 (.inl 0)) (fa1 (tri_istore 5 3) (fa1 (tri_iload 6 3) (fa1 (tri_aload 7 0) (fa1 (tri_getI 10 3 9) (fa1 (tri_cmpge 13 84) (fa1 (tri_aload 14 0) (fa1 (tri_getR 17 3 25 (fun _ => 24)) (fa1 (tri_iload 18 3) (fa1 (tri_aldR 19 25 2 lnC (fun _ i => 31 + 5 * i)) (fa1 (tri_getI 22 2 2) (fa1 (tri_push 23 (.inl 2)) (fa1 (tri_cmpne 26 43) (fa1 (tri_aload 27 0) (fa1 (tri_getR 30 3 25 (fun _ => 24)) (fa1 (tri_iload 31 3) (fa1 (tri_aldR 32 25 2 lnC (fun _ i => 31 + 5 * i)) (fa1 (tri_getI 35 2 8) (fa1 (tri_iload 36 1) (fa1 (tri_cmple 39 43) (fa1 (tri_push 40 (.inl 1)) (fa1 (tri_goto 44) (fa1 (tri_push 44 (.inl 0)) (fa1 (tri_istore 46 4) (fa1 (tri_iload 48 4) (fa1 (tri_ifeq 51 78) (fa1 (tri_iload 52 2) (fa1 (tri_iflt 55 76) (fa1 (tri_aload 56 0) (fa1 (tri_getR 59 3 25 (fun _ => 24)) (fa1 (tri_iload 60 3) (fa1 (tri_aldR 61 25 2 lnC (fun _ i => 31 + 5 * i)) (fa1 (tri_getI 64 2 8) (fa1 (tri_aload 65 0) (fa1 (tri_getR 68 3 25 (fun _ => 24)) (fa1 (tri_iload 69 2) (fa1 (tri_aldR 70 25 2 lnC (fun _ i => 31 + 5 * i)) (fa1 (tri_getI 73 2 8) (fa1 (tri_cmpge 76 78) (fa1 (tri_iload 77 3) (fa1 (tri_istore 78 2) (fa1 (tri_iinc 81 3 (1)) (fa1 (tri_goto 5) (fa1 (tri_iload 85 2) (fa1 (tri_iret) (fa0))))))))))))))))))))))))))))))))))))))))))))))))
set_option maxRecDepth 100000 in
set_option maxHeartbeats 4000000 in
theorem ks_X3_shownNext (G : Wp) (l : Launch) : ∀ e ∈ k_X3_shownNext, Snd loC G l RX3 cX3_shownNext 5 (some .int) rm_X3_shownNext e.1 e.2 :=
  fa1 (s_bipush (n := -4) (v := -4) (by decide +kernel) (by decide +kernel) (p32 rfl)) <|
  fa1 (s_istore_n (kf := 2) (j := 2) (by decide +kernel) rfl (by decide)) <|
  fa1 (s_iconst (n := 0) (v := 0) (by decide +kernel) (by decide +kernel) (p32 rfl)) <|
  fa1 (s_istore_n (kf := 3) (j := 3) (by decide +kernel) rfl (by decide)) <|
  fa1 (s_iload_n (kf := 3) (j := 3) (by decide +kernel) rfl) <|
  fa1 (s_aload_n (kf := 0) (j := 0) (by decide +kernel) rfl) <|
  fa1 (s_getI (ci := 3) (f := 9) (idx := 39) (C := RX3) (T := TX3) (NF := 11) (by decide +kernel) rfl (by decide) inG_X3 (by decide) w_259 li_X3_9) <|
  fa1 (s_cmpge (off := 74) (by decide +kernel) (by decide)) <|
  fa1 (s_aload_n (kf := 0) (j := 0) (by decide +kernel) rfl) <|
  fa1 (s_getR (t2 := 25) (g := (fun _ => 24)) (ci := 3) (f := 0) (idx := 11) (C := RX3) (T := TX3) (NF := 11) (by decide +kernel) rfl (by decide) inG_X3 (by decide) w_250 lr_X3_0 (by decide)) <|
  fa1 (s_iload_n (kf := 3) (j := 3) (by decide +kernel) rfl) <|
  fa1 (s_aldR (t := 25) (t2 := 2) (g := (fun _ i => 31 + 5 * i)) (by decide +kernel) (by decide) (by decide) rfl (by decide) le_25) <|
  fa1 (s_getI (ci := 2) (f := 2) (idx := 56) (C := RX2) (T := TX2) (NF := 11) (by decide +kernel) rfl (by decide) inG_X2 (by decide) w_210 li_X2_2) <|
  fa1 (s_iconst (n := 2) (v := 2) (by decide +kernel) (by decide +kernel) (p32 rfl)) <|
  fa1 (s_cmpne (off := 20) (by decide +kernel) (by decide)) <|
  fa1 (s_aload_n (kf := 0) (j := 0) (by decide +kernel) rfl) <|
  fa1 (s_getR (t2 := 25) (g := (fun _ => 24)) (ci := 3) (f := 0) (idx := 11) (C := RX3) (T := TX3) (NF := 11) (by decide +kernel) rfl (by decide) inG_X3 (by decide) w_250 lr_X3_0 (by decide)) <|
  fa1 (s_iload_n (kf := 3) (j := 3) (by decide +kernel) rfl) <|
  fa1 (s_aldR (t := 25) (t2 := 2) (g := (fun _ i => 31 + 5 * i)) (by decide +kernel) (by decide) (by decide) rfl (by decide) le_25) <|
  fa1 (s_getI (ci := 2) (f := 8) (idx := 127) (C := RX2) (T := TX2) (NF := 11) (by decide +kernel) rfl (by decide) inG_X2 (by decide) w_223 li_X2_8) <|
  fa1 (s_iload_n (kf := 1) (j := 1) (by decide +kernel) rfl) <|
  fa1 (s_cmple (off := 7) (by decide +kernel) (by decide)) <|
  fa1 (s_iconst (n := 1) (v := 1) (by decide +kernel) (by decide +kernel) (p32 rfl)) <|
  fa1 (s_goto (off := 4) (by decide +kernel) (by decide)) <|
  fa1 (s_iconst (n := 0) (v := 0) (by decide +kernel) (by decide +kernel) (p32 rfl)) <|
  fa1 (s_istore (j := 4) (by decide +kernel) (by decide)) <|
  fa1 (s_iload (j := 4) (by decide +kernel)) <|
  fa1 (s_ifeq (off := 30) (by decide +kernel) (by decide)) <|
  fa1 (s_iload_n (kf := 2) (j := 2) (by decide +kernel) rfl) <|
  fa1 (s_iflt (off := 24) (by decide +kernel) (by decide)) <|
  fa1 (s_aload_n (kf := 0) (j := 0) (by decide +kernel) rfl) <|
  fa1 (s_getR (t2 := 25) (g := (fun _ => 24)) (ci := 3) (f := 0) (idx := 11) (C := RX3) (T := TX3) (NF := 11) (by decide +kernel) rfl (by decide) inG_X3 (by decide) w_250 lr_X3_0 (by decide)) <|
  fa1 (s_iload_n (kf := 3) (j := 3) (by decide +kernel) rfl) <|
  fa1 (s_aldR (t := 25) (t2 := 2) (g := (fun _ i => 31 + 5 * i)) (by decide +kernel) (by decide) (by decide) rfl (by decide) le_25) <|
  fa1 (s_getI (ci := 2) (f := 8) (idx := 127) (C := RX2) (T := TX2) (NF := 11) (by decide +kernel) rfl (by decide) inG_X2 (by decide) w_223 li_X2_8) <|
  fa1 (s_aload_n (kf := 0) (j := 0) (by decide +kernel) rfl) <|
  fa1 (s_getR (t2 := 25) (g := (fun _ => 24)) (ci := 3) (f := 0) (idx := 11) (C := RX3) (T := TX3) (NF := 11) (by decide +kernel) rfl (by decide) inG_X3 (by decide) w_250 lr_X3_0 (by decide)) <|
  fa1 (s_iload_n (kf := 2) (j := 2) (by decide +kernel) rfl) <|
  fa1 (s_aldR (t := 25) (t2 := 2) (g := (fun _ i => 31 + 5 * i)) (by decide +kernel) (by decide) (by decide) rfl (by decide) le_25) <|
  fa1 (s_getI (ci := 2) (f := 8) (idx := 127) (C := RX2) (T := TX2) (NF := 11) (by decide +kernel) rfl (by decide) inG_X2 (by decide) w_223 li_X2_8) <|
  fa1 (s_cmpge (off := 5) (by decide +kernel) (by decide)) <|
  fa1 (s_iload_n (kf := 3) (j := 3) (by decide +kernel) rfl) <|
  fa1 (s_istore_n (kf := 2) (j := 2) (by decide +kernel) rfl (by decide)) <|
  fa1 (s_iinc (j := 3) (d := 1) (by decide +kernel) (by decide)) <|
  fa1 (s_goto (off := -76) (by decide +kernel) (by decide)) <|
  fa1 (s_iload_n (kf := 2) (j := 2) (by decide +kernel) rfl) <|
  fa1 (s_iret (by decide +kernel) rfl) <| fa0
theorem gg_X3_shownNext {G : Wp} {l : Launch} : GoodM loC G l yX3_shownNext cX3_shownNext 5 (some .int) rm_X3_shownNext f_X3_shownNext := met_of kt_X3_shownNext (lkp_snd (ks_X3_shownNext G l)) (by decide +kernel) rfl (by decide)
noncomputable def k_X3_tryAgain : List (Nat × Ins) := [
  (0, i_push 1 (.inl 0)),
  (1, i_istore 3 4),
  (3, i_aload 4 0),
  (4, i_push 6 (.inl (-4))),
  (6, i_callI 9 2 (rcv 3) f_X3_shownNext),
  (9, i_istore 11 5),
  (11, i_push 12 (.inl 0)),
  (12, i_istore 14 6),
  (14, i_iload 16 6),
  (16, i_push 18 (.inl 24)),
  (18, i_cmpge 21 114),
  (21, i_iload 23 5),
  (23, i_iflt 26 114),
  (26, i_aload 27 0),
  (27, i_getR 30 3 25 (fun _ => 24)),
  (30, i_iload 32 5),
  (32, i_aldR 33 25 2 lnC (fun _ i => 31 + 5 * i)),
  (33, i_astore 35 7),
  (35, i_aload 37 7),
  (37, i_getI 40 2 10),
  (40, i_iload 41 1),
  (41, i_bin 42 bShr),
  (42, i_push 43 (.inl 1)),
  (43, i_bin 44 bAnd),
  (44, i_ifne 47 58),
  (47, i_aload 49 7),
  (49, i_getI 52 2 9),
  (52, i_iload 54 4),
  (54, i_bin 55 bAnd),
  (55, i_ifeq 58 62),
  (58, i_push 59 (.inl 1)),
  (59, i_goto 63),
  (62, i_push 63 (.inl 0)),
  (63, i_istore 65 8),
  (65, i_iload 67 8),
  (67, i_ifeq 70 97),
  (70, i_aload 71 0),
  (71, i_iload 73 5),
  (73, i_aload 74 2),
  (74, i_callI 77 3 (rcv 3) f_X3_goesAgain),
  (77, i_ifne 80 97),
  (80, i_aload 81 0),
  (81, i_iload 83 5),
  (83, i_push 84 (.inl 3)),
  (84, i_iload 85 3),
  (85, i_callV 88 4 (rcv 3) f_X3_turn),
  (88, i_iload 90 4),
  (90, i_push 91 (.inl 1)),
  (91, i_iload 93 5),
  (93, i_bin 94 bShl),
  (94, i_bin 95 bOr),
  (95, i_istore 97 4),
  (97, i_aload 98 0),
  (98, i_aload 100 7),
  (100, i_getI 103 2 8),
  (103, i_callI 106 2 (rcv 3) f_X3_shownNext),
  (106, i_istore 108 5),
  (108, i_iinc 111 6 (1)),
  (111, i_goto 14),
  (114, i_iload 116 4),
  (116, i_callI 119 1 anyv f_J6_bitCount_0f7a4),
  (119, i_iret)]
noncomputable def kc_X3_tryAgain : Nat → Option Ins := lkp k_X3_tryAgain
noncomputable def f_X3_tryAgain : List AV → Mem → Option Rs := den 9 kc_X3_tryAgain
abbrev rm_X3_tryAgain : Room := { frames := 5, cells := 0, slots := 0, locals := 130 }
set_option maxRecDepth 100000 in
theorem kt_X3_tryAgain : TriC kc_X3_tryAgain := lkp_tri (fa1 (tri_push 1 (.inl 0)) (fa1 (tri_istore 3 4) (fa1 (tri_aload 4 0) (fa1 (tri_push 6 (.inl (-4))) (fa1 (tri_callI 9 2 (rcv 3) f_X3_shownNext) (fa1 (tri_istore 11 5) (fa1 (tri_push 12 (.inl 0)) (fa1 (tri_istore 14 6) (fa1 (tri_iload 16 6) (fa1 (tri_push 18 (.inl 24)) (fa1 (tri_cmpge 21 114) (fa1 (tri_iload 23 5) (fa1 (tri_iflt 26 114) (fa1 (tri_aload 27 0) (fa1 (tri_getR 30 3 25 (fun _ => 24)) (fa1 (tri_iload 32 5) (fa1 (tri_aldR 33 25 2 lnC (fun _ i => 31 + 5 * i)) (fa1 (tri_astore 35 7) (fa1 (tri_aload 37 7) (fa1 (tri_getI 40 2 10) (fa1 (tri_iload 41 1) (fa1 (tri_bin 42 bShr) (fa1 (tri_push 43 (.inl 1)) (fa1 (tri_bin 44 bAnd) (fa1 (tri_ifne 47 58) (fa1 (tri_aload 49 7) (fa1 (tri_getI 52 2 9) (fa1 (tri_iload 54 4) (fa1 (tri_bin 55 bAnd) (fa1 (tri_ifeq 58 62) (fa1 (tri_push 59 (.inl 1)) (fa1 (tri_goto 63) (fa1 (tri_push 63 (.inl 0)) (fa1 (tri_istore 65 8) (fa1 (tri_iload 67 8) (fa1 (tri_ifeq 70 97) (fa1 (tri_aload 71 0) (fa1 (tri_iload 73 5) (fa1 (tri_aload 74 2) (fa1 (tri_callI 77 3 (rcv 3) f_X3_goesAgain) (fa1 (tri_ifne 80 97) (fa1 (tri_aload 81 0) (fa1 (tri_iload 83 5) (fa1 (tri_push 84 (.inl 3)) (fa1 (tri_iload 85 3) (fa1 (tri_callV 88 4 (rcv 3) f_X3_turn) (fa1 (tri_iload 90 4) (fa1 (tri_push 91 (.inl 1)) (fa1 (tri_iload 93 5) (fa1 (tri_bin 94 bShl) (fa1 (tri_bin 95 bOr) (fa1 (tri_istore 97 4) (fa1 (tri_aload 98 0) (fa1 (tri_aload 100 7) (fa1 (tri_getI 103 2 8) (fa1 (tri_callI 106 2 (rcv 3) f_X3_shownNext) (fa1 (tri_istore 108 5) (fa1 (tri_iinc 111 6 (1)) (fa1 (tri_goto 14) (fa1 (tri_iload 116 4) (fa1 (tri_callI 119 1 anyv f_J6_bitCount_0f7a4) (fa1 (tri_iret) (fa0)))))))))))))))))))))))))))))))))))))))))))))))))))))))))))))))
set_option maxRecDepth 100000 in
set_option maxHeartbeats 4000000 in
theorem ks_X3_tryAgain (G : Wp) (l : Launch) : ∀ e ∈ k_X3_tryAgain, Snd loC G l RX3 cX3_tryAgain 9 (some .int) rm_X3_tryAgain e.1 e.2 :=
  fa1 (s_iconst (n := 0) (v := 0) (by decide +kernel) (by decide +kernel) (p32 rfl)) <|
  fa1 (s_istore (j := 4) (by decide +kernel) (by decide)) <|
  fa1 (s_aload_n (kf := 0) (j := 0) (by decide +kernel) rfl) <|
  fa1 (s_bipush (n := -4) (v := -4) (by decide +kernel) (by decide +kernel) (p32 rfl)) <|
  fa1 (s_vcallI (n := 1) (ci := 3) (C := RX3) (T := TX3) (NF := 11) (idx := 134) (y := yX3_shownNext) (by decide +kernel) (gg_X3_shownNext) rfl (by decide) yv_X3_shownNext (all5 w_959 w_961 w_19 w_104 w_962) rfl rfl ⟨by decide, by decide⟩) <|
  fa1 (s_istore (j := 5) (by decide +kernel) (by decide)) <|
  fa1 (s_iconst (n := 0) (v := 0) (by decide +kernel) (by decide +kernel) (p32 rfl)) <|
  fa1 (s_istore (j := 6) (by decide +kernel) (by decide)) <|
  fa1 (s_iload (j := 6) (by decide +kernel)) <|
  fa1 (s_bipush (n := 24) (v := 24) (by decide +kernel) (by decide +kernel) (p32 rfl)) <|
  fa1 (s_cmpge (off := 96) (by decide +kernel) (by decide)) <|
  fa1 (s_iload (j := 5) (by decide +kernel)) <|
  fa1 (s_iflt (off := 91) (by decide +kernel) (by decide)) <|
  fa1 (s_aload_n (kf := 0) (j := 0) (by decide +kernel) rfl) <|
  fa1 (s_getR (t2 := 25) (g := (fun _ => 24)) (ci := 3) (f := 0) (idx := 11) (C := RX3) (T := TX3) (NF := 11) (by decide +kernel) rfl (by decide) inG_X3 (by decide) w_250 lr_X3_0 (by decide)) <|
  fa1 (s_iload (j := 5) (by decide +kernel)) <|
  fa1 (s_aldR (t := 25) (t2 := 2) (g := (fun _ i => 31 + 5 * i)) (by decide +kernel) (by decide) (by decide) rfl (by decide) le_25) <|
  fa1 (s_astore (j := 7) (by decide +kernel) (by decide)) <|
  fa1 (s_aload (j := 7) (by decide +kernel)) <|
  fa1 (s_getI (ci := 2) (f := 10) (idx := 88) (C := RX2) (T := TX2) (NF := 11) (by decide +kernel) rfl (by decide) inG_X2 (by decide) w_225 li_X2_10) <|
  fa1 (s_iload_n (kf := 1) (j := 1) (by decide +kernel) rfl) <|
  fa1 (s_ishr (by decide +kernel)) <|
  fa1 (s_iconst (n := 1) (v := 1) (by decide +kernel) (by decide +kernel) (p32 rfl)) <|
  fa1 (s_iand (by decide +kernel)) <|
  fa1 (s_ifne (off := 14) (by decide +kernel) (by decide)) <|
  fa1 (s_aload (j := 7) (by decide +kernel)) <|
  fa1 (s_getI (ci := 2) (f := 9) (idx := 81) (C := RX2) (T := TX2) (NF := 11) (by decide +kernel) rfl (by decide) inG_X2 (by decide) w_224 li_X2_9) <|
  fa1 (s_iload (j := 4) (by decide +kernel)) <|
  fa1 (s_iand (by decide +kernel)) <|
  fa1 (s_ifeq (off := 7) (by decide +kernel) (by decide)) <|
  fa1 (s_iconst (n := 1) (v := 1) (by decide +kernel) (by decide +kernel) (p32 rfl)) <|
  fa1 (s_goto (off := 4) (by decide +kernel) (by decide)) <|
  fa1 (s_iconst (n := 0) (v := 0) (by decide +kernel) (by decide +kernel) (p32 rfl)) <|
  fa1 (s_istore (j := 8) (by decide +kernel) (by decide)) <|
  fa1 (s_iload (j := 8) (by decide +kernel)) <|
  fa1 (s_ifeq (off := 30) (by decide +kernel) (by decide)) <|
  fa1 (s_aload_n (kf := 0) (j := 0) (by decide +kernel) rfl) <|
  fa1 (s_iload (j := 5) (by decide +kernel)) <|
  fa1 (s_aload_n (kf := 2) (j := 2) (by decide +kernel) rfl) <|
  fa1 (s_vcallI (n := 2) (ci := 3) (C := RX3) (T := TX3) (NF := 11) (idx := 137) (y := yX3_goesAgain) (by decide +kernel) (gg_X3_goesAgain) rfl (by decide) yv_X3_goesAgain (all5 w_963 w_965 w_20 w_104 w_966) rfl rfl ⟨by decide, by decide⟩) <|
  fa1 (s_ifne (off := 20) (by decide +kernel) (by decide)) <|
  fa1 (s_aload_n (kf := 0) (j := 0) (by decide +kernel) rfl) <|
  fa1 (s_iload (j := 5) (by decide +kernel)) <|
  fa1 (s_iconst (n := 3) (v := 3) (by decide +kernel) (by decide +kernel) (p32 rfl)) <|
  fa1 (s_iload_n (kf := 3) (j := 3) (by decide +kernel) rfl) <|
  fa1 (s_vcallV (n := 3) (ci := 3) (C := RX3) (T := TX3) (NF := 11) (idx := 130) (y := yX3_turn) (by decide +kernel) (gg_X3_turn) rfl (by decide) yv_X3_turn (all5 w_920 w_922 w_18 w_104 w_923) rfl rfl ⟨by decide, by decide⟩) <|
  fa1 (s_iload (j := 4) (by decide +kernel)) <|
  fa1 (s_iconst (n := 1) (v := 1) (by decide +kernel) (by decide +kernel) (p32 rfl)) <|
  fa1 (s_iload (j := 5) (by decide +kernel)) <|
  fa1 (s_ishl (by decide +kernel)) <|
  fa1 (s_ior (by decide +kernel)) <|
  fa1 (s_istore (j := 4) (by decide +kernel) (by decide)) <|
  fa1 (s_aload_n (kf := 0) (j := 0) (by decide +kernel) rfl) <|
  fa1 (s_aload (j := 7) (by decide +kernel)) <|
  fa1 (s_getI (ci := 2) (f := 8) (idx := 127) (C := RX2) (T := TX2) (NF := 11) (by decide +kernel) rfl (by decide) inG_X2 (by decide) w_223 li_X2_8) <|
  fa1 (s_vcallI (n := 1) (ci := 3) (C := RX3) (T := TX3) (NF := 11) (idx := 134) (y := yX3_shownNext) (by decide +kernel) (gg_X3_shownNext) rfl (by decide) yv_X3_shownNext (all5 w_959 w_961 w_19 w_104 w_962) rfl rfl ⟨by decide, by decide⟩) <|
  fa1 (s_istore (j := 5) (by decide +kernel) (by decide)) <|
  fa1 (s_iinc (j := 6) (d := 1) (by decide +kernel) (by decide)) <|
  fa1 (s_goto (off := -97) (by decide +kernel) (by decide)) <|
  fa1 (s_iload (j := 4) (by decide +kernel)) <|
  fa1 (s_scallI (n := 1) (idx := 141) (y := yJ6_bitCount_0f7a4) (by decide +kernel) (gg_J6_bitCount_0f7a4) yv_J6_bitCount_0f7a4 (all4 w_971 w_745 w_114 w_746) rfl rfl ⟨by decide, by decide⟩) <|
  fa1 (s_iret (by decide +kernel) rfl) <| fa0
theorem gg_X3_tryAgain {G : Wp} {l : Launch} : GoodM loC G l yX3_tryAgain cX3_tryAgain 9 (some .int) rm_X3_tryAgain f_X3_tryAgain := met_of kt_X3_tryAgain (lkp_snd (ks_X3_tryAgain G l)) (by decide +kernel) rfl (by decide)
noncomputable def k_X3_lessonNext : List (Nat × Ins) := [
  (0, i_push 1 (.inl 0)),
  (1, i_istore 2 2),
  (2, i_iload 3 2),
  (3, i_aload 4 0),
  (4, i_getI 7 3 9),
  (7, i_cmpge 10 36),
  (10, i_iload 11 1),
  (11, i_iload 12 2),
  (12, i_bin 13 bShr),
  (13, i_push 14 (.inl 1)),
  (14, i_bin 15 bAnd),
  (15, i_ifeq 18 30),
  (18, i_aload 19 0),
  (19, i_iload 20 2),
  (20, i_callI 23 2 (rcv 3) f_X3_underOf),
  (23, i_iload 24 1),
  (24, i_bin 25 bAnd),
  (25, i_ifne 28 30),
  (28, i_iload 29 2),
  (29, i_iret),
  (30, i_iinc 33 2 (1)),
  (33, i_goto 2),
  (36, i_push 38 (.inl (-4))),
  (38, i_iret)]
noncomputable def kc_X3_lessonNext : Nat → Option Ins := lkp k_X3_lessonNext
noncomputable def f_X3_lessonNext : List AV → Mem → Option Rs := den 3 kc_X3_lessonNext
abbrev rm_X3_lessonNext : Room := { frames := 2, cells := 0, slots := 0, locals := 43 }
set_option maxRecDepth 100000 in
theorem kt_X3_lessonNext : TriC kc_X3_lessonNext := lkp_tri (fa1 (tri_push 1 (.inl 0)) (fa1 (tri_istore 2 2) (fa1 (tri_iload 3 2) (fa1 (tri_aload 4 0) (fa1 (tri_getI 7 3 9) (fa1 (tri_cmpge 10 36) (fa1 (tri_iload 11 1) (fa1 (tri_iload 12 2) (fa1 (tri_bin 13 bShr) (fa1 (tri_push 14 (.inl 1)) (fa1 (tri_bin 15 bAnd) (fa1 (tri_ifeq 18 30) (fa1 (tri_aload 19 0) (fa1 (tri_iload 20 2) (fa1 (tri_callI 23 2 (rcv 3) f_X3_underOf) (fa1 (tri_iload 24 1) (fa1 (tri_bin 25 bAnd) (fa1 (tri_ifne 28 30) (fa1 (tri_iload 29 2) (fa1 (tri_iret) (fa1 (tri_iinc 33 2 (1)) (fa1 (tri_goto 2) (fa1 (tri_push 38 (.inl (-4))) (fa1 (tri_iret) (fa0)))))))))))))))))))))))))
set_option maxRecDepth 100000 in
set_option maxHeartbeats 4000000 in
theorem ks_X3_lessonNext (G : Wp) (l : Launch) : ∀ e ∈ k_X3_lessonNext, Snd loC G l RX3 cX3_lessonNext 3 (some .int) rm_X3_lessonNext e.1 e.2 :=
  fa1 (s_iconst (n := 0) (v := 0) (by decide +kernel) (by decide +kernel) (p32 rfl)) <|
  fa1 (s_istore_n (kf := 2) (j := 2) (by decide +kernel) rfl (by decide)) <|
  fa1 (s_iload_n (kf := 2) (j := 2) (by decide +kernel) rfl) <|
  fa1 (s_aload_n (kf := 0) (j := 0) (by decide +kernel) rfl) <|
  fa1 (s_getI (ci := 3) (f := 9) (idx := 39) (C := RX3) (T := TX3) (NF := 11) (by decide +kernel) rfl (by decide) inG_X3 (by decide) w_259 li_X3_9) <|
  fa1 (s_cmpge (off := 29) (by decide +kernel) (by decide)) <|
  fa1 (s_iload_n (kf := 1) (j := 1) (by decide +kernel) rfl) <|
  fa1 (s_iload_n (kf := 2) (j := 2) (by decide +kernel) rfl) <|
  fa1 (s_ishr (by decide +kernel)) <|
  fa1 (s_iconst (n := 1) (v := 1) (by decide +kernel) (by decide +kernel) (p32 rfl)) <|
  fa1 (s_iand (by decide +kernel)) <|
  fa1 (s_ifeq (off := 15) (by decide +kernel) (by decide)) <|
  fa1 (s_aload_n (kf := 0) (j := 0) (by decide +kernel) rfl) <|
  fa1 (s_iload_n (kf := 2) (j := 2) (by decide +kernel) rfl) <|
  fa1 (s_vcallI (n := 1) (ci := 3) (C := RX3) (T := TX3) (NF := 11) (idx := 84) (y := yX3_underOf) (by decide +kernel) (gg_X3_underOf) rfl (by decide) yv_X3_underOf (all5 w_754 w_740 w_741 w_104 w_742) rfl rfl ⟨by decide, by decide⟩) <|
  fa1 (s_iload_n (kf := 1) (j := 1) (by decide +kernel) rfl) <|
  fa1 (s_iand (by decide +kernel)) <|
  fa1 (s_ifne (off := 5) (by decide +kernel) (by decide)) <|
  fa1 (s_iload_n (kf := 2) (j := 2) (by decide +kernel) rfl) <|
  fa1 (s_iret (by decide +kernel) rfl) <|
  fa1 (s_iinc (j := 2) (d := 1) (by decide +kernel) (by decide)) <|
  fa1 (s_goto (off := -31) (by decide +kernel) (by decide)) <|
  fa1 (s_bipush (n := -4) (v := -4) (by decide +kernel) (by decide +kernel) (p32 rfl)) <|
  fa1 (s_iret (by decide +kernel) rfl) <| fa0
theorem gg_X3_lessonNext {G : Wp} {l : Launch} : GoodM loC G l yX3_lessonNext cX3_lessonNext 3 (some .int) rm_X3_lessonNext f_X3_lessonNext := met_of kt_X3_lessonNext (lkp_snd (ks_X3_lessonNext G l)) (by decide +kernel) rfl (by decide)
noncomputable def k_X3_lessonAt : List (Nat × Ins) := [
  (0, i_iload 1 1),
  (1, i_istore 2 3),
  (2, i_push 4 (.inl (-4))),
  (4, i_istore 6 4),
  (6, i_push 7 (.inl 0)),
  (7, i_istore 9 5),
  (9, i_iload 11 5),
  (11, i_iload 12 2),
  (12, i_cmpgt 15 52),
  (15, i_iload 17 5),
  (17, i_push 19 (.inl 24)),
  (19, i_cmpge 22 52),
  (22, i_aload 23 0),
  (23, i_iload 24 3),
  (24, i_callI 27 2 (rcv 3) f_X3_lessonNext),
  (27, i_istore 29 4),
  (29, i_iload 31 4),
  (31, i_ifge 34 37),
  (34, i_push 36 (.inl (-4))),
  (36, i_iret),
  (37, i_iload 38 3),
  (38, i_push 39 (.inl 1)),
  (39, i_iload 41 4),
  (41, i_bin 42 bShl),
  (42, i_push 43 (.inl (-1))),
  (43, i_bin 44 bXor),
  (44, i_bin 45 bAnd),
  (45, i_istore 46 3),
  (46, i_iinc 49 5 (1)),
  (49, i_goto 9),
  (52, i_iload 54 4),
  (54, i_iret)]
noncomputable def kc_X3_lessonAt : Nat → Option Ins := lkp k_X3_lessonAt
noncomputable def f_X3_lessonAt : List AV → Mem → Option Rs := den 6 kc_X3_lessonAt
abbrev rm_X3_lessonAt : Room := { frames := 3, cells := 0, slots := 0, locals := 65 }
set_option maxRecDepth 100000 in
theorem kt_X3_lessonAt : TriC kc_X3_lessonAt := lkp_tri (fa1 (tri_iload 1 1) (fa1 (tri_istore 2 3) (fa1 (tri_push 4 (.inl (-4))) (fa1 (tri_istore 6 4) (fa1 (tri_push 7 (.inl 0)) (fa1 (tri_istore 9 5) (fa1 (tri_iload 11 5) (fa1 (tri_iload 12 2) (fa1 (tri_cmpgt 15 52) (fa1 (tri_iload 17 5) (fa1 (tri_push 19 (.inl 24)) (fa1 (tri_cmpge 22 52) (fa1 (tri_aload 23 0) (fa1 (tri_iload 24 3) (fa1 (tri_callI 27 2 (rcv 3) f_X3_lessonNext) (fa1 (tri_istore 29 4) (fa1 (tri_iload 31 4) (fa1 (tri_ifge 34 37) (fa1 (tri_push 36 (.inl (-4))) (fa1 (tri_iret) (fa1 (tri_iload 38 3) (fa1 (tri_push 39 (.inl 1)) (fa1 (tri_iload 41 4) (fa1 (tri_bin 42 bShl) (fa1 (tri_push 43 (.inl (-1))) (fa1 (tri_bin 44 bXor) (fa1 (tri_bin 45 bAnd) (fa1 (tri_istore 46 3) (fa1 (tri_iinc 49 5 (1)) (fa1 (tri_goto 9) (fa1 (tri_iload 54 4) (fa1 (tri_iret) (fa0)))))))))))))))))))))))))))))))))
set_option maxRecDepth 100000 in
set_option maxHeartbeats 4000000 in
theorem ks_X3_lessonAt (G : Wp) (l : Launch) : ∀ e ∈ k_X3_lessonAt, Snd loC G l RX3 cX3_lessonAt 6 (some .int) rm_X3_lessonAt e.1 e.2 :=
  fa1 (s_iload_n (kf := 1) (j := 1) (by decide +kernel) rfl) <|
  fa1 (s_istore_n (kf := 3) (j := 3) (by decide +kernel) rfl (by decide)) <|
  fa1 (s_bipush (n := -4) (v := -4) (by decide +kernel) (by decide +kernel) (p32 rfl)) <|
  fa1 (s_istore (j := 4) (by decide +kernel) (by decide)) <|
  fa1 (s_iconst (n := 0) (v := 0) (by decide +kernel) (by decide +kernel) (p32 rfl)) <|
  fa1 (s_istore (j := 5) (by decide +kernel) (by decide)) <|
  fa1 (s_iload (j := 5) (by decide +kernel)) <|
  fa1 (s_iload_n (kf := 2) (j := 2) (by decide +kernel) rfl) <|
  fa1 (s_cmpgt (off := 40) (by decide +kernel) (by decide)) <|
  fa1 (s_iload (j := 5) (by decide +kernel)) <|
  fa1 (s_bipush (n := 24) (v := 24) (by decide +kernel) (by decide +kernel) (p32 rfl)) <|
  fa1 (s_cmpge (off := 33) (by decide +kernel) (by decide)) <|
  fa1 (s_aload_n (kf := 0) (j := 0) (by decide +kernel) rfl) <|
  fa1 (s_iload_n (kf := 3) (j := 3) (by decide +kernel) rfl) <|
  fa1 (s_vcallI (n := 1) (ci := 3) (C := RX3) (T := TX3) (NF := 11) (idx := 164) (y := yX3_lessonNext) (by decide +kernel) (gg_X3_lessonNext) rfl (by decide) yv_X3_lessonNext (all5 w_1174 w_1176 w_40 w_104 w_1177) rfl rfl ⟨by decide, by decide⟩) <|
  fa1 (s_istore (j := 4) (by decide +kernel) (by decide)) <|
  fa1 (s_iload (j := 4) (by decide +kernel)) <|
  fa1 (s_ifge (off := 6) (by decide +kernel) (by decide)) <|
  fa1 (s_bipush (n := -4) (v := -4) (by decide +kernel) (by decide +kernel) (p32 rfl)) <|
  fa1 (s_iret (by decide +kernel) rfl) <|
  fa1 (s_iload_n (kf := 3) (j := 3) (by decide +kernel) rfl) <|
  fa1 (s_iconst (n := 1) (v := 1) (by decide +kernel) (by decide +kernel) (p32 rfl)) <|
  fa1 (s_iload (j := 4) (by decide +kernel)) <|
  fa1 (s_ishl (by decide +kernel)) <|
  fa1 (s_iconst (n := -1) (v := -1) (by decide +kernel) (by decide +kernel) (p32 rfl)) <|
  fa1 (s_ixor (by decide +kernel)) <|
  fa1 (s_iand (by decide +kernel)) <|
  fa1 (s_istore_n (kf := 3) (j := 3) (by decide +kernel) rfl (by decide)) <|
  fa1 (s_iinc (j := 5) (d := 1) (by decide +kernel) (by decide)) <|
  fa1 (s_goto (off := -40) (by decide +kernel) (by decide)) <|
  fa1 (s_iload (j := 4) (by decide +kernel)) <|
  fa1 (s_iret (by decide +kernel) rfl) <| fa0
theorem gg_X3_lessonAt {G : Wp} {l : Launch} : GoodM loC G l yX3_lessonAt cX3_lessonAt 6 (some .int) rm_X3_lessonAt f_X3_lessonAt := met_of kt_X3_lessonAt (lkp_snd (ks_X3_lessonAt G l)) (by decide +kernel) rfl (by decide)
noncomputable def k_X4_isOver : List (Nat × Ins) := [
  (0, i_aload 1 0),
  (1, i_getI 4 4 16),
  (4, i_ifne 7 14),
  (7, i_aload 8 0),
  (8, i_getI 11 4 15),
  (11, i_iflt 14 18),
  (14, i_push 15 (.inl 1)),
  (15, i_goto 19),
  (18, i_push 19 (.inl 0)),
  (19, i_zret)]
noncomputable def kc_X4_isOver : Nat → Option Ins := lkp k_X4_isOver
noncomputable def f_X4_isOver : List AV → Mem → Option Rs := den 1 kc_X4_isOver
abbrev rm_X4_isOver : Room := { frames := 0, cells := 0, slots := 0, locals := 0 }
set_option maxRecDepth 100000 in
theorem kt_X4_isOver : TriC kc_X4_isOver := lkp_tri (fa1 (tri_aload 1 0) (fa1 (tri_getI 4 4 16) (fa1 (tri_ifne 7 14) (fa1 (tri_aload 8 0) (fa1 (tri_getI 11 4 15) (fa1 (tri_iflt 14 18) (fa1 (tri_push 15 (.inl 1)) (fa1 (tri_goto 19) (fa1 (tri_push 19 (.inl 0)) (fa1 (tri_zret) (fa0)))))))))))
set_option maxRecDepth 100000 in
set_option maxHeartbeats 4000000 in
theorem ks_X4_isOver (G : Wp) (l : Launch) : ∀ e ∈ k_X4_isOver, Snd loC G l RX4 cX4_isOver 1 (some .boolean) rm_X4_isOver e.1 e.2 :=
  fa1 (s_aload_n (kf := 0) (j := 0) (by decide +kernel) rfl) <|
  fa1 (s_getI (ci := 4) (f := 16) (idx := 74) (C := RX4) (T := TX4) (NF := 18) (by decide +kernel) rfl (by decide) inG_X4 (by decide) w_426 li_X4_16) <|
  fa1 (s_ifne (off := 10) (by decide +kernel) (by decide)) <|
  fa1 (s_aload_n (kf := 0) (j := 0) (by decide +kernel) rfl) <|
  fa1 (s_getI (ci := 4) (f := 15) (idx := 71) (C := RX4) (T := TX4) (NF := 18) (by decide +kernel) rfl (by decide) inG_X4 (by decide) w_425 li_X4_15) <|
  fa1 (s_iflt (off := 7) (by decide +kernel) (by decide)) <|
  fa1 (s_iconst (n := 1) (v := 1) (by decide +kernel) (by decide +kernel) (p32 rfl)) <|
  fa1 (s_goto (off := 4) (by decide +kernel) (by decide)) <|
  fa1 (s_iconst (n := 0) (v := 0) (by decide +kernel) (by decide +kernel) (p32 rfl)) <|
  fa1 (s_zret (by decide +kernel) rfl) <| fa0
theorem gg_X4_isOver {G : Wp} {l : Launch} : GoodM loC G l yX4_isOver cX4_isOver 1 (some .boolean) rm_X4_isOver f_X4_isOver := met_of kt_X4_isOver (lkp_snd (ks_X4_isOver G l)) (by decide +kernel) rfl (by decide)
noncomputable def k_X8_mark : List (Nat × Ins) := [
  (0, i_aload 1 0),
  (1, i_getI 4 8 1),
  (4, i_istore 5 1),
  (5, i_push 6 (.inl 0)),
  (6, i_istore 7 2),
  (7, i_iload 8 2),
  (8, i_aload 9 0),
  (9, i_getI 12 8 1),
  (12, i_cmpge 15 33),
  (15, i_push 17 (.inl 31)),
  (17, i_iload 18 1),
  (18, i_bin 19 (fun x y => wr (x * y))),
  (19, i_aload 20 0),
  (20, i_getR 23 8 21 (fun c => c + 1)),
  (23, i_iload 24 2),
  (24, i_ald 25 21 lnC),
  (25, i_bin 26 (fun x y => wr (x + y))),
  (26, i_istore 27 1),
  (27, i_iinc 30 2 (1)),
  (30, i_goto 7),
  (33, i_iload 34 1),
  (34, i_iret)]
noncomputable def kc_X8_mark : Nat → Option Ins := lkp k_X8_mark
noncomputable def f_X8_mark : List AV → Mem → Option Rs := den 3 kc_X8_mark
abbrev rm_X8_mark : Room := { frames := 0, cells := 0, slots := 0, locals := 0 }
set_option maxRecDepth 100000 in
theorem kt_X8_mark : TriC kc_X8_mark := lkp_tri (fa1 (tri_aload 1 0) (fa1 (tri_getI 4 8 1) (fa1 (tri_istore 5 1) (fa1 (tri_push 6 (.inl 0)) (fa1 (tri_istore 7 2) (fa1 (tri_iload 8 2) (fa1 (tri_aload 9 0) (fa1 (tri_getI 12 8 1) (fa1 (tri_cmpge 15 33) (fa1 (tri_push 17 (.inl 31)) (fa1 (tri_iload 18 1) (fa1 (tri_bin 19 (fun x y => wr (x * y))) (fa1 (tri_aload 20 0) (fa1 (tri_getR 23 8 21 (fun c => c + 1)) (fa1 (tri_iload 24 2) (fa1 (tri_ald 25 21 lnC) (fa1 (tri_bin 26 (fun x y => wr (x + y))) (fa1 (tri_istore 27 1) (fa1 (tri_iinc 30 2 (1)) (fa1 (tri_goto 7) (fa1 (tri_iload 34 1) (fa1 (tri_iret) (fa0)))))))))))))))))))))))
set_option maxRecDepth 100000 in
set_option maxHeartbeats 4000000 in
theorem ks_X8_mark (G : Wp) (l : Launch) : ∀ e ∈ k_X8_mark, Snd loC G l RX8 cX8_mark 3 (some .int) rm_X8_mark e.1 e.2 :=
  fa1 (s_aload_n (kf := 0) (j := 0) (by decide +kernel) rfl) <|
  fa1 (s_getI (ci := 8) (f := 1) (idx := 21) (C := RX8) (T := TX8) (NF := 2) (by decide +kernel) rfl (by decide) inG_X8 (by decide) w_140 li_X8_1) <|
  fa1 (s_istore_n (kf := 1) (j := 1) (by decide +kernel) rfl (by decide)) <|
  fa1 (s_iconst (n := 0) (v := 0) (by decide +kernel) (by decide +kernel) (p32 rfl)) <|
  fa1 (s_istore_n (kf := 2) (j := 2) (by decide +kernel) rfl (by decide)) <|
  fa1 (s_iload_n (kf := 2) (j := 2) (by decide +kernel) rfl) <|
  fa1 (s_aload_n (kf := 0) (j := 0) (by decide +kernel) rfl) <|
  fa1 (s_getI (ci := 8) (f := 1) (idx := 21) (C := RX8) (T := TX8) (NF := 2) (by decide +kernel) rfl (by decide) inG_X8 (by decide) w_140 li_X8_1) <|
  fa1 (s_cmpge (off := 21) (by decide +kernel) (by decide)) <|
  fa1 (s_bipush (n := 31) (v := 31) (by decide +kernel) (by decide +kernel) (p32 rfl)) <|
  fa1 (s_iload_n (kf := 1) (j := 1) (by decide +kernel) rfl) <|
  fa1 (s_imul (by decide +kernel)) <|
  fa1 (s_aload_n (kf := 0) (j := 0) (by decide +kernel) rfl) <|
  fa1 (s_getR (t2 := 21) (g := (fun c => c + 1)) (ci := 8) (f := 0) (idx := 15) (C := RX8) (T := TX8) (NF := 2) (by decide +kernel) rfl (by decide) inG_X8 (by decide) w_139 lr_X8_0 (by decide)) <|
  fa1 (s_iload_n (kf := 2) (j := 2) (by decide +kernel) rfl) <|
  fa1 (s_bald (by decide +kernel)) <|
  fa1 (s_iadd (by decide +kernel)) <|
  fa1 (s_istore_n (kf := 1) (j := 1) (by decide +kernel) rfl (by decide)) <|
  fa1 (s_iinc (j := 2) (d := 1) (by decide +kernel) (by decide)) <|
  fa1 (s_goto (off := -23) (by decide +kernel) (by decide)) <|
  fa1 (s_iload_n (kf := 1) (j := 1) (by decide +kernel) rfl) <|
  fa1 (s_iret (by decide +kernel) rfl) <| fa0
theorem gg_X8_mark {G : Wp} {l : Launch} : GoodM loC G l yX8_mark cX8_mark 3 (some .int) rm_X8_mark f_X8_mark := met_of kt_X8_mark (lkp_snd (ks_X8_mark G l)) (by decide +kernel) rfl (by decide)
noncomputable def k_X4_meet : List (Nat × Ins) := [
  (0, i_aload 1 0),
  (1, i_getR 4 4 8 (fun _ => 269)),
  (4, i_callI 7 1 (rcv 8) f_X8_mark),
  (7, i_push 10 (.inl 255)),
  (10, i_bin 11 bAnd),
  (11, i_istore 13 6),
  (13, i_aload 14 0),
  (14, i_getR 17 4 20 (fun _ => 266)),
  (17, i_iload 19 6),
  (19, i_ald 20 20 lnC),
  (20, i_istore 22 7),
  (22, i_push 23 (.inl 0)),
  (23, i_istore 25 8),
  (25, i_iload 27 8),
  (27, i_aload 28 0),
  (28, i_getI 31 4 17),
  (31, i_cmpge 34 80),
  (34, i_iload 36 7),
  (36, i_iflt 39 80),
  (39, i_iload 41 7),
  (41, i_push 44 (.inl 250)),
  (44, i_cmpge 47 80),
  (47, i_aload 48 0),
  (48, i_getR 51 4 29 (fun _ => 260)),
  (51, i_iload 53 7),
  (53, i_aldR 54 29 8 lnC (fun _ i => 271 + 2 * i)),
  (54, i_aload 55 0),
  (55, i_getR 58 4 8 (fun _ => 269)),
  (58, i_callI 61 2 (rcv 8) f_X8_same),
  (61, i_ifeq 64 65),
  (64, i_vret),
  (65, i_aload 66 0),
  (66, i_getR 69 4 20 (fun _ => 267)),
  (69, i_iload 71 7),
  (71, i_ald 72 20 lnC),
  (72, i_istore 74 7),
  (74, i_iinc 77 8 (1)),
  (77, i_goto 25),
  (80, i_aload 81 0),
  (81, i_getI 84 4 17),
  (84, i_push 87 (.inl 250)),
  (87, i_cmplt 90 96),
  (90, i_aload 91 0),
  (91, i_push 92 (.inl 1)),
  (92, i_putZ 95 4 16),
  (95, i_vret),
  (96, i_aload 97 0),
  (97, i_getR 100 4 29 (fun _ => 260)),
  (100, i_aload 101 0),
  (101, i_getI 104 4 17),
  (104, i_aldR 105 29 8 lnC (fun _ i => 271 + 2 * i)),
  (105, i_aload 106 0),
  (106, i_getR 109 4 8 (fun _ => 269)),
  (109, i_callV 112 2 (rcv 8) f_X8_copy),
  (112, i_aload 113 0),
  (113, i_getR 116 4 20 (fun _ => 261)),
  (116, i_aload 117 0),
  (117, i_getI 120 4 17),
  (120, i_iload 121 2),
  (121, i_ast 122 20 lnC id),
  (122, i_aload 123 0),
  (123, i_getR 126 4 20 (fun _ => 262)),
  (126, i_aload 127 0),
  (127, i_getI 130 4 17),
  (130, i_iload 131 3),
  (131, i_ast 132 20 lnC id),
  (132, i_aload 133 0),
  (133, i_getR 136 4 20 (fun _ => 263)),
  (136, i_aload 137 0),
  (137, i_getI 140 4 17),
  (140, i_iload 142 4),
  (142, i_ast 143 20 lnC id),
  (143, i_aload 144 0),
  (144, i_getR 147 4 20 (fun _ => 264)),
  (147, i_aload 148 0),
  (148, i_getI 151 4 17),
  (151, i_iload 153 5),
  (153, i_ast 154 20 lnC id),
  (154, i_aload 155 0),
  (155, i_getR 158 4 20 (fun _ => 265)),
  (158, i_aload 159 0),
  (159, i_getI 162 4 17),
  (162, i_iload 163 2),
  (163, i_ifge 166 170),
  (166, i_push 167 (.inl 0)),
  (167, i_goto 178),
  (170, i_aload 171 0),
  (171, i_getR 174 4 20 (fun _ => 265)),
  (174, i_iload 175 2),
  (175, i_ald 176 20 lnC),
  (176, i_push 177 (.inl 1)),
  (177, i_bin 178 (fun x y => wr (x + y))),
  (178, i_ast 179 20 lnC id),
  (179, i_aload 180 0),
  (180, i_getR 183 4 20 (fun _ => 267)),
  (183, i_aload 184 0),
  (184, i_getI 187 4 17),
  (187, i_aload 188 0),
  (188, i_getR 191 4 20 (fun _ => 266)),
  (191, i_iload 193 6),
  (193, i_ald 194 20 lnC),
  (194, i_ast 195 20 lnC id),
  (195, i_aload 196 0),
  (196, i_getR 199 4 20 (fun _ => 266)),
  (199, i_iload 201 6),
  (201, i_aload 202 0),
  (202, i_getI 205 4 17),
  (205, i_ast 206 20 lnC id),
  (206, i_aload 207 0),
  (207, i_getR 210 4 8 (fun _ => 269)),
  (210, i_aload 211 1),
  (211, i_callI 214 2 (rcv 8) f_X8_same),
  (214, i_ifeq 217 225),
  (217, i_aload 218 0),
  (218, i_aload 219 0),
  (219, i_getI 222 4 17),
  (222, i_putI 225 4 15),
  (225, i_aload 226 0),
  (226, i_dup 227),
  (227, i_getI 230 4 17),
  (230, i_push 231 (.inl 1)),
  (231, i_bin 232 (fun x y => wr (x + y))),
  (232, i_putI 235 4 17),
  (235, i_vret)]
noncomputable def kc_X4_meet : Nat → Option Ins := lkp k_X4_meet
noncomputable def f_X4_meet : List AV → Mem → Option Rs := den 9 kc_X4_meet
abbrev rm_X4_meet : Room := { frames := 2, cells := 0, slots := 0, locals := 46 }
set_option maxRecDepth 100000 in
theorem kt_X4_meet : TriC kc_X4_meet := lkp_tri (fa1 (tri_aload 1 0) (fa1 (tri_getR 4 4 8 (fun _ => 269)) (fa1 (tri_callI 7 1 (rcv 8) f_X8_mark) (fa1 (tri_push 10 (.inl 255)) (fa1 (tri_bin 11 bAnd) (fa1 (tri_istore 13 6) (fa1 (tri_aload 14 0) (fa1 (tri_getR 17 4 20 (fun _ => 266)) (fa1 (tri_iload 19 6) (fa1 (tri_ald 20 20 lnC) (fa1 (tri_istore 22 7) (fa1 (tri_push 23 (.inl 0)) (fa1 (tri_istore 25 8) (fa1 (tri_iload 27 8) (fa1 (tri_aload 28 0) (fa1 (tri_getI 31 4 17) (fa1 (tri_cmpge 34 80) (fa1 (tri_iload 36 7) (fa1 (tri_iflt 39 80) (fa1 (tri_iload 41 7) (fa1 (tri_push 44 (.inl 250)) (fa1 (tri_cmpge 47 80) (fa1 (tri_aload 48 0) (fa1 (tri_getR 51 4 29 (fun _ => 260)) (fa1 (tri_iload 53 7) (fa1 (tri_aldR 54 29 8 lnC (fun _ i => 271 + 2 * i)) (fa1 (tri_aload 55 0) (fa1 (tri_getR 58 4 8 (fun _ => 269)) (fa1 (tri_callI 61 2 (rcv 8) f_X8_same) (fa1 (tri_ifeq 64 65) (fa1 (tri_vret) (fa1 (tri_aload 66 0) (fa1 (tri_getR 69 4 20 (fun _ => 267)) (fa1 (tri_iload 71 7) (fa1 (tri_ald 72 20 lnC) (fa1 (tri_istore 74 7) (fa1 (tri_iinc 77 8 (1)) (fa1 (tri_goto 25) (fa1 (tri_aload 81 0) (fa1 (tri_getI 84 4 17) (fa1 (tri_push 87 (.inl 250)) (fa1 (tri_cmplt 90 96) (fa1 (tri_aload 91 0) (fa1 (tri_push 92 (.inl 1)) (fa1 (tri_putZ 95 4 16) (fa1 (tri_vret) (fa1 (tri_aload 97 0) (fa1 (tri_getR 100 4 29 (fun _ => 260)) (fa1 (tri_aload 101 0) (fa1 (tri_getI 104 4 17) (fa1 (tri_aldR 105 29 8 lnC (fun _ i => 271 + 2 * i)) (fa1 (tri_aload 106 0) (fa1 (tri_getR 109 4 8 (fun _ => 269)) (fa1 (tri_callV 112 2 (rcv 8) f_X8_copy) (fa1 (tri_aload 113 0) (fa1 (tri_getR 116 4 20 (fun _ => 261)) (fa1 (tri_aload 117 0) (fa1 (tri_getI 120 4 17) (fa1 (tri_iload 121 2) (fa1 (tri_ast 122 20 lnC id) (fa1 (tri_aload 123 0) (fa1 (tri_getR 126 4 20 (fun _ => 262)) (fa1 (tri_aload 127 0) (fa1 (tri_getI 130 4 17) (fa1 (tri_iload 131 3) (fa1 (tri_ast 132 20 lnC id) (fa1 (tri_aload 133 0) (fa1 (tri_getR 136 4 20 (fun _ => 263)) (fa1 (tri_aload 137 0) (fa1 (tri_getI 140 4 17) (fa1 (tri_iload 142 4) (fa1 (tri_ast 143 20 lnC id) (fa1 (tri_aload 144 0) (fa1 (tri_getR 147 4 20 (fun _ => 264)) (fa1 (tri_aload 148 0) (fa1 (tri_getI 151 4 17) (fa1 (tri_iload 153 5) (fa1 (tri_ast 154 20 lnC id) (fa1 (tri_aload 155 0) (fa1 (tri_getR 158 4 20 (fun _ => 265)) (fa1 (tri_aload 159 0) (fa1 (tri_getI 162 4 17) (fa1 (tri_iload 163 2) (fa1 (tri_ifge 166 170) (fa1 (tri_push 167 (.inl 0)) (fa1 (tri_goto 178) (fa1 (tri_aload 171 0) (fa1 (tri_getR 174 4 20 (fun _ => 265)) (fa1 (tri_iload 175 2) (fa1 (tri_ald 176 20 lnC) (fa1 (tri_push 177 (.inl 1)) (fa1 (tri_bin 178 (fun x y => wr (x + y))) (fa1 (tri_ast 179 20 lnC id) (fa1 (tri_aload 180 0) (fa1 (tri_getR 183 4 20 (fun _ => 267)) (fa1 (tri_aload 184 0) (fa1 (tri_getI 187 4 17) (fa1 (tri_aload 188 0) (fa1 (tri_getR 191 4 20 (fun _ => 266)) (fa1 (tri_iload 193 6) (fa1 (tri_ald 194 20 lnC) (fa1 (tri_ast 195 20 lnC id) (fa1 (tri_aload 196 0) (fa1 (tri_getR 199 4 20 (fun _ => 266)) (fa1 (tri_iload 201 6) (fa1 (tri_aload 202 0) (fa1 (tri_getI 205 4 17) (fa1 (tri_ast 206 20 lnC id) (fa1 (tri_aload 207 0) (fa1 (tri_getR 210 4 8 (fun _ => 269)) (fa1 (tri_aload 211 1) (fa1 (tri_callI 214 2 (rcv 8) f_X8_same) (fa1 (tri_ifeq 217 225) (fa1 (tri_aload 218 0) (fa1 (tri_aload 219 0) (fa1 (tri_getI 222 4 17) (fa1 (tri_putI 225 4 15) (fa1 (tri_aload 226 0) (fa1 (tri_dup 227) (fa1 (tri_getI 230 4 17) (fa1 (tri_push 231 (.inl 1)) (fa1 (tri_bin 232 (fun x y => wr (x + y))) (fa1 (tri_putI 235 4 17) (fa1 (tri_vret) (fa0)))))))))))))))))))))))))))))))))))))))))))))))))))))))))))))))))))))))))))))))))))))))))))))))))))))))))))))))))))))))))))))
set_option maxRecDepth 100000 in
set_option maxHeartbeats 4000000 in
theorem ks_X4_meet (G : Wp) (l : Launch) : ∀ e ∈ k_X4_meet, Snd loC G l RX4 cX4_meet 9 none rm_X4_meet e.1 e.2 :=
  fa1 (s_aload_n (kf := 0) (j := 0) (by decide +kernel) rfl) <|
  fa1 (s_getR (t2 := 8) (g := (fun _ => 269)) (ci := 4) (f := 12) (idx := 45) (C := RX4) (T := TX4) (NF := 18) (by decide +kernel) rfl (by decide) inG_X4 (by decide) w_422 lr_X4_12 (by decide)) <|
  fa1 (s_vcallI (n := 0) (ci := 8) (C := RX8) (T := TX8) (NF := 2) (idx := 128) (y := yX8_mark) (by decide +kernel) (gg_X8_mark) rfl (by decide) yv_X8_mark (all5 w_990 w_991 w_992 w_102 w_993) rfl rfl ⟨by decide, by decide⟩) <|
  fa1 (s_sipush (n := 255) (v := 255) (by decide +kernel) (by decide +kernel) (p32 rfl)) <|
  fa1 (s_iand (by decide +kernel)) <|
  fa1 (s_istore (j := 6) (by decide +kernel) (by decide)) <|
  fa1 (s_aload_n (kf := 0) (j := 0) (by decide +kernel) rfl) <|
  fa1 (s_getR (t2 := 20) (g := (fun _ => 266)) (ci := 4) (f := 9) (idx := 33) (C := RX4) (T := TX4) (NF := 18) (by decide +kernel) rfl (by decide) inG_X4 (by decide) w_419 lr_X4_9 (by decide)) <|
  fa1 (s_iload (j := 6) (by decide +kernel)) <|
  fa1 (s_iald (by decide +kernel)) <|
  fa1 (s_istore (j := 7) (by decide +kernel) (by decide)) <|
  fa1 (s_iconst (n := 0) (v := 0) (by decide +kernel) (by decide +kernel) (p32 rfl)) <|
  fa1 (s_istore (j := 8) (by decide +kernel) (by decide)) <|
  fa1 (s_iload (j := 8) (by decide +kernel)) <|
  fa1 (s_aload_n (kf := 0) (j := 0) (by decide +kernel) rfl) <|
  fa1 (s_getI (ci := 4) (f := 17) (idx := 67) (C := RX4) (T := TX4) (NF := 18) (by decide +kernel) rfl (by decide) inG_X4 (by decide) w_427 li_X4_17) <|
  fa1 (s_cmpge (off := 49) (by decide +kernel) (by decide)) <|
  fa1 (s_iload (j := 7) (by decide +kernel)) <|
  fa1 (s_iflt (off := 44) (by decide +kernel) (by decide)) <|
  fa1 (s_iload (j := 7) (by decide +kernel)) <|
  fa1 (s_sipush (n := 250) (v := 250) (by decide +kernel) (by decide +kernel) (p32 rfl)) <|
  fa1 (s_cmpge (off := 36) (by decide +kernel) (by decide)) <|
  fa1 (s_aload_n (kf := 0) (j := 0) (by decide +kernel) rfl) <|
  fa1 (s_getR (t2 := 29) (g := (fun _ => 260)) (ci := 4) (f := 3) (idx := 13) (C := RX4) (T := TX4) (NF := 18) (by decide +kernel) rfl (by decide) inG_X4 (by decide) w_413 lr_X4_3 (by decide)) <|
  fa1 (s_iload (j := 7) (by decide +kernel)) <|
  fa1 (s_aldR (t := 29) (t2 := 8) (g := (fun _ i => 271 + 2 * i)) (by decide +kernel) (by decide) (by decide) rfl (by decide) le_29) <|
  fa1 (s_aload_n (kf := 0) (j := 0) (by decide +kernel) rfl) <|
  fa1 (s_getR (t2 := 8) (g := (fun _ => 269)) (ci := 4) (f := 12) (idx := 45) (C := RX4) (T := TX4) (NF := 18) (by decide +kernel) rfl (by decide) inG_X4 (by decide) w_422 lr_X4_12 (by decide)) <|
  fa1 (s_vcallI (n := 1) (ci := 8) (C := RX8) (T := TX8) (NF := 2) (idx := 132) (y := yX8_same) (by decide +kernel) (gg_X8_same) rfl (by decide) yv_X8_same (all5 w_994 w_880 w_881 w_102 w_882) rfl rfl ⟨by decide, by decide⟩) <|
  fa1 (s_ifeq (off := 4) (by decide +kernel) (by decide)) <|
  fa1 (s_vret (by decide +kernel) rfl) <|
  fa1 (s_aload_n (kf := 0) (j := 0) (by decide +kernel) rfl) <|
  fa1 (s_getR (t2 := 20) (g := (fun _ => 267)) (ci := 4) (f := 10) (idx := 36) (C := RX4) (T := TX4) (NF := 18) (by decide +kernel) rfl (by decide) inG_X4 (by decide) w_420 lr_X4_10 (by decide)) <|
  fa1 (s_iload (j := 7) (by decide +kernel)) <|
  fa1 (s_iald (by decide +kernel)) <|
  fa1 (s_istore (j := 7) (by decide +kernel) (by decide)) <|
  fa1 (s_iinc (j := 8) (d := 1) (by decide +kernel) (by decide)) <|
  fa1 (s_goto (off := -52) (by decide +kernel) (by decide)) <|
  fa1 (s_aload_n (kf := 0) (j := 0) (by decide +kernel) rfl) <|
  fa1 (s_getI (ci := 4) (f := 17) (idx := 67) (C := RX4) (T := TX4) (NF := 18) (by decide +kernel) rfl (by decide) inG_X4 (by decide) w_427 li_X4_17) <|
  fa1 (s_sipush (n := 250) (v := 250) (by decide +kernel) (by decide +kernel) (p32 rfl)) <|
  fa1 (s_cmplt (off := 9) (by decide +kernel) (by decide)) <|
  fa1 (s_aload_n (kf := 0) (j := 0) (by decide +kernel) rfl) <|
  fa1 (s_iconst (n := 1) (v := 1) (by decide +kernel) (by decide +kernel) (p32 rfl)) <|
  fa1 (s_putZ (ci := 4) (f := 16) (idx := 74) (C := RX4) (T := TX4) (NF := 18) (by decide +kernel) rfl (by decide) inG_X4 (by decide) w_426 tyX4 tyX4_ok nmX4 rfl (by decide +kernel) li_X4_16) <|
  fa1 (s_vret (by decide +kernel) rfl) <|
  fa1 (s_aload_n (kf := 0) (j := 0) (by decide +kernel) rfl) <|
  fa1 (s_getR (t2 := 29) (g := (fun _ => 260)) (ci := 4) (f := 3) (idx := 13) (C := RX4) (T := TX4) (NF := 18) (by decide +kernel) rfl (by decide) inG_X4 (by decide) w_413 lr_X4_3 (by decide)) <|
  fa1 (s_aload_n (kf := 0) (j := 0) (by decide +kernel) rfl) <|
  fa1 (s_getI (ci := 4) (f := 17) (idx := 67) (C := RX4) (T := TX4) (NF := 18) (by decide +kernel) rfl (by decide) inG_X4 (by decide) w_427 li_X4_17) <|
  fa1 (s_aldR (t := 29) (t2 := 8) (g := (fun _ i => 271 + 2 * i)) (by decide +kernel) (by decide) (by decide) rfl (by decide) le_29) <|
  fa1 (s_aload_n (kf := 0) (j := 0) (by decide +kernel) rfl) <|
  fa1 (s_getR (t2 := 8) (g := (fun _ => 269)) (ci := 4) (f := 12) (idx := 45) (C := RX4) (T := TX4) (NF := 18) (by decide +kernel) rfl (by decide) inG_X4 (by decide) w_422 lr_X4_12 (by decide)) <|
  fa1 (s_vcallV (n := 1) (ci := 8) (C := RX8) (T := TX8) (NF := 2) (idx := 89) (y := yX8_copy) (by decide +kernel) (gg_X8_copy) rfl (by decide) yv_X8_copy (all5 w_985 w_684 w_685 w_102 w_686) rfl rfl ⟨by decide, by decide⟩) <|
  fa1 (s_aload_n (kf := 0) (j := 0) (by decide +kernel) rfl) <|
  fa1 (s_getR (t2 := 20) (g := (fun _ => 261)) (ci := 4) (f := 4) (idx := 17) (C := RX4) (T := TX4) (NF := 18) (by decide +kernel) rfl (by decide) inG_X4 (by decide) w_414 lr_X4_4 (by decide)) <|
  fa1 (s_aload_n (kf := 0) (j := 0) (by decide +kernel) rfl) <|
  fa1 (s_getI (ci := 4) (f := 17) (idx := 67) (C := RX4) (T := TX4) (NF := 18) (by decide +kernel) rfl (by decide) inG_X4 (by decide) w_427 li_X4_17) <|
  fa1 (s_iload_n (kf := 2) (j := 2) (by decide +kernel) rfl) <|
  fa1 (s_iast (by decide +kernel) lt_loC_20) <|
  fa1 (s_aload_n (kf := 0) (j := 0) (by decide +kernel) rfl) <|
  fa1 (s_getR (t2 := 20) (g := (fun _ => 262)) (ci := 4) (f := 5) (idx := 21) (C := RX4) (T := TX4) (NF := 18) (by decide +kernel) rfl (by decide) inG_X4 (by decide) w_415 lr_X4_5 (by decide)) <|
  fa1 (s_aload_n (kf := 0) (j := 0) (by decide +kernel) rfl) <|
  fa1 (s_getI (ci := 4) (f := 17) (idx := 67) (C := RX4) (T := TX4) (NF := 18) (by decide +kernel) rfl (by decide) inG_X4 (by decide) w_427 li_X4_17) <|
  fa1 (s_iload_n (kf := 3) (j := 3) (by decide +kernel) rfl) <|
  fa1 (s_iast (by decide +kernel) lt_loC_20) <|
  fa1 (s_aload_n (kf := 0) (j := 0) (by decide +kernel) rfl) <|
  fa1 (s_getR (t2 := 20) (g := (fun _ => 263)) (ci := 4) (f := 6) (idx := 24) (C := RX4) (T := TX4) (NF := 18) (by decide +kernel) rfl (by decide) inG_X4 (by decide) w_416 lr_X4_6 (by decide)) <|
  fa1 (s_aload_n (kf := 0) (j := 0) (by decide +kernel) rfl) <|
  fa1 (s_getI (ci := 4) (f := 17) (idx := 67) (C := RX4) (T := TX4) (NF := 18) (by decide +kernel) rfl (by decide) inG_X4 (by decide) w_427 li_X4_17) <|
  fa1 (s_iload (j := 4) (by decide +kernel)) <|
  fa1 (s_iast (by decide +kernel) lt_loC_20) <|
  fa1 (s_aload_n (kf := 0) (j := 0) (by decide +kernel) rfl) <|
  fa1 (s_getR (t2 := 20) (g := (fun _ => 264)) (ci := 4) (f := 7) (idx := 27) (C := RX4) (T := TX4) (NF := 18) (by decide +kernel) rfl (by decide) inG_X4 (by decide) w_417 lr_X4_7 (by decide)) <|
  fa1 (s_aload_n (kf := 0) (j := 0) (by decide +kernel) rfl) <|
  fa1 (s_getI (ci := 4) (f := 17) (idx := 67) (C := RX4) (T := TX4) (NF := 18) (by decide +kernel) rfl (by decide) inG_X4 (by decide) w_427 li_X4_17) <|
  fa1 (s_iload (j := 5) (by decide +kernel)) <|
  fa1 (s_iast (by decide +kernel) lt_loC_20) <|
  fa1 (s_aload_n (kf := 0) (j := 0) (by decide +kernel) rfl) <|
  fa1 (s_getR (t2 := 20) (g := (fun _ => 265)) (ci := 4) (f := 8) (idx := 30) (C := RX4) (T := TX4) (NF := 18) (by decide +kernel) rfl (by decide) inG_X4 (by decide) w_418 lr_X4_8 (by decide)) <|
  fa1 (s_aload_n (kf := 0) (j := 0) (by decide +kernel) rfl) <|
  fa1 (s_getI (ci := 4) (f := 17) (idx := 67) (C := RX4) (T := TX4) (NF := 18) (by decide +kernel) rfl (by decide) inG_X4 (by decide) w_427 li_X4_17) <|
  fa1 (s_iload_n (kf := 2) (j := 2) (by decide +kernel) rfl) <|
  fa1 (s_ifge (off := 7) (by decide +kernel) (by decide)) <|
  fa1 (s_iconst (n := 0) (v := 0) (by decide +kernel) (by decide +kernel) (p32 rfl)) <|
  fa1 (s_goto (off := 11) (by decide +kernel) (by decide)) <|
  fa1 (s_aload_n (kf := 0) (j := 0) (by decide +kernel) rfl) <|
  fa1 (s_getR (t2 := 20) (g := (fun _ => 265)) (ci := 4) (f := 8) (idx := 30) (C := RX4) (T := TX4) (NF := 18) (by decide +kernel) rfl (by decide) inG_X4 (by decide) w_418 lr_X4_8 (by decide)) <|
  fa1 (s_iload_n (kf := 2) (j := 2) (by decide +kernel) rfl) <|
  fa1 (s_iald (by decide +kernel)) <|
  fa1 (s_iconst (n := 1) (v := 1) (by decide +kernel) (by decide +kernel) (p32 rfl)) <|
  fa1 (s_iadd (by decide +kernel)) <|
  fa1 (s_iast (by decide +kernel) lt_loC_20) <|
  fa1 (s_aload_n (kf := 0) (j := 0) (by decide +kernel) rfl) <|
  fa1 (s_getR (t2 := 20) (g := (fun _ => 267)) (ci := 4) (f := 10) (idx := 36) (C := RX4) (T := TX4) (NF := 18) (by decide +kernel) rfl (by decide) inG_X4 (by decide) w_420 lr_X4_10 (by decide)) <|
  fa1 (s_aload_n (kf := 0) (j := 0) (by decide +kernel) rfl) <|
  fa1 (s_getI (ci := 4) (f := 17) (idx := 67) (C := RX4) (T := TX4) (NF := 18) (by decide +kernel) rfl (by decide) inG_X4 (by decide) w_427 li_X4_17) <|
  fa1 (s_aload_n (kf := 0) (j := 0) (by decide +kernel) rfl) <|
  fa1 (s_getR (t2 := 20) (g := (fun _ => 266)) (ci := 4) (f := 9) (idx := 33) (C := RX4) (T := TX4) (NF := 18) (by decide +kernel) rfl (by decide) inG_X4 (by decide) w_419 lr_X4_9 (by decide)) <|
  fa1 (s_iload (j := 6) (by decide +kernel)) <|
  fa1 (s_iald (by decide +kernel)) <|
  fa1 (s_iast (by decide +kernel) lt_loC_20) <|
  fa1 (s_aload_n (kf := 0) (j := 0) (by decide +kernel) rfl) <|
  fa1 (s_getR (t2 := 20) (g := (fun _ => 266)) (ci := 4) (f := 9) (idx := 33) (C := RX4) (T := TX4) (NF := 18) (by decide +kernel) rfl (by decide) inG_X4 (by decide) w_419 lr_X4_9 (by decide)) <|
  fa1 (s_iload (j := 6) (by decide +kernel)) <|
  fa1 (s_aload_n (kf := 0) (j := 0) (by decide +kernel) rfl) <|
  fa1 (s_getI (ci := 4) (f := 17) (idx := 67) (C := RX4) (T := TX4) (NF := 18) (by decide +kernel) rfl (by decide) inG_X4 (by decide) w_427 li_X4_17) <|
  fa1 (s_iast (by decide +kernel) lt_loC_20) <|
  fa1 (s_aload_n (kf := 0) (j := 0) (by decide +kernel) rfl) <|
  fa1 (s_getR (t2 := 8) (g := (fun _ => 269)) (ci := 4) (f := 12) (idx := 45) (C := RX4) (T := TX4) (NF := 18) (by decide +kernel) rfl (by decide) inG_X4 (by decide) w_422 lr_X4_12 (by decide)) <|
  fa1 (s_aload_n (kf := 1) (j := 1) (by decide +kernel) rfl) <|
  fa1 (s_vcallI (n := 1) (ci := 8) (C := RX8) (T := TX8) (NF := 2) (idx := 132) (y := yX8_same) (by decide +kernel) (gg_X8_same) rfl (by decide) yv_X8_same (all5 w_994 w_880 w_881 w_102 w_882) rfl rfl ⟨by decide, by decide⟩) <|
  fa1 (s_ifeq (off := 11) (by decide +kernel) (by decide)) <|
  fa1 (s_aload_n (kf := 0) (j := 0) (by decide +kernel) rfl) <|
  fa1 (s_aload_n (kf := 0) (j := 0) (by decide +kernel) rfl) <|
  fa1 (s_getI (ci := 4) (f := 17) (idx := 67) (C := RX4) (T := TX4) (NF := 18) (by decide +kernel) rfl (by decide) inG_X4 (by decide) w_427 li_X4_17) <|
  fa1 (s_putI (ci := 4) (f := 15) (idx := 71) (C := RX4) (T := TX4) (NF := 18) (by decide +kernel) rfl (by decide) inG_X4 (by decide) w_425 tyX4 tyX4_ok nmX4 rfl (by decide +kernel) li_X4_15) <|
  fa1 (s_aload_n (kf := 0) (j := 0) (by decide +kernel) rfl) <|
  fa1 (s_dup (by decide +kernel)) <|
  fa1 (s_getI (ci := 4) (f := 17) (idx := 67) (C := RX4) (T := TX4) (NF := 18) (by decide +kernel) rfl (by decide) inG_X4 (by decide) w_427 li_X4_17) <|
  fa1 (s_iconst (n := 1) (v := 1) (by decide +kernel) (by decide +kernel) (p32 rfl)) <|
  fa1 (s_iadd (by decide +kernel)) <|
  fa1 (s_putI (ci := 4) (f := 17) (idx := 67) (C := RX4) (T := TX4) (NF := 18) (by decide +kernel) rfl (by decide) inG_X4 (by decide) w_427 tyX4 tyX4_ok nmX4 rfl (by decide +kernel) li_X4_17) <|
  fa1 (s_vret (by decide +kernel) rfl) <| fa0
theorem gg_X4_meet {G : Wp} {l : Launch} : GoodM loC G l yX4_meet cX4_meet 9 none rm_X4_meet f_X4_meet := met_of kt_X4_meet (lkp_snd (ks_X4_meet G l)) (by decide +kernel) rfl (by decide)
noncomputable def k_X4_tryPlaces : List (Nat × Ins) := [
  (0, i_push 1 (.inl 0)),
  (1, i_istore 3 5),
  (3, i_iload 5 5),
  (5, i_aload 6 0),
  (6, i_getR 9 4 29 (fun _ => 260)),
  (9, i_iload 10 1),
  (10, i_aldR 11 29 8 lnC (fun _ i => 271 + 2 * i)),
  (11, i_getI 14 8 1),
  (14, i_cmpge 17 76),
  (17, i_aload 18 0),
  (18, i_callI 21 1 (rcv 4) f_X4_isOver),
  (21, i_ifne 24 76),
  (24, i_aload 25 0),
  (25, i_getR 28 4 6 (fun _ => 157)),
  (28, i_iload 29 2),
  (29, i_iload 30 3),
  (30, i_iload 32 5),
  (32, i_aload 33 0),
  (33, i_getI 36 4 13),
  (36, i_aload 37 0),
  (37, i_getR 40 4 8 (fun _ => 269)),
  (40, i_callI 43 6 (rcv 6) f_X6_go),
  (43, i_istore 45 6),
  (45, i_iload 47 6),
  (47, i_iflt 50 70),
  (50, i_iload 52 6),
  (52, i_aload 53 0),
  (53, i_getI 56 4 14),
  (56, i_cmpgt 59 70),
  (59, i_aload 60 0),
  (60, i_aload 62 4),
  (62, i_iload 63 1),
  (63, i_iload 64 2),
  (64, i_iload 65 3),
  (65, i_iload 67 5),
  (67, i_callV 70 6 (rcv 4) f_X4_meet),
  (70, i_iinc 73 5 (1)),
  (73, i_goto 3),
  (76, i_vret)]
noncomputable def kc_X4_tryPlaces : Nat → Option Ins := lkp k_X4_tryPlaces
noncomputable def f_X4_tryPlaces : List AV → Mem → Option Rs := den 7 kc_X4_tryPlaces
abbrev rm_X4_tryPlaces : Room := { frames := 3, cells := 0, slots := 0, locals := 81 }
set_option maxRecDepth 100000 in
theorem kt_X4_tryPlaces : TriC kc_X4_tryPlaces := lkp_tri (fa1 (tri_push 1 (.inl 0)) (fa1 (tri_istore 3 5) (fa1 (tri_iload 5 5) (fa1 (tri_aload 6 0) (fa1 (tri_getR 9 4 29 (fun _ => 260)) (fa1 (tri_iload 10 1) (fa1 (tri_aldR 11 29 8 lnC (fun _ i => 271 + 2 * i)) (fa1 (tri_getI 14 8 1) (fa1 (tri_cmpge 17 76) (fa1 (tri_aload 18 0) (fa1 (tri_callI 21 1 (rcv 4) f_X4_isOver) (fa1 (tri_ifne 24 76) (fa1 (tri_aload 25 0) (fa1 (tri_getR 28 4 6 (fun _ => 157)) (fa1 (tri_iload 29 2) (fa1 (tri_iload 30 3) (fa1 (tri_iload 32 5) (fa1 (tri_aload 33 0) (fa1 (tri_getI 36 4 13) (fa1 (tri_aload 37 0) (fa1 (tri_getR 40 4 8 (fun _ => 269)) (fa1 (tri_callI 43 6 (rcv 6) f_X6_go) (fa1 (tri_istore 45 6) (fa1 (tri_iload 47 6) (fa1 (tri_iflt 50 70) (fa1 (tri_iload 52 6) (fa1 (tri_aload 53 0) (fa1 (tri_getI 56 4 14) (fa1 (tri_cmpgt 59 70) (fa1 (tri_aload 60 0) (fa1 (tri_aload 62 4) (fa1 (tri_iload 63 1) (fa1 (tri_iload 64 2) (fa1 (tri_iload 65 3) (fa1 (tri_iload 67 5) (fa1 (tri_callV 70 6 (rcv 4) f_X4_meet) (fa1 (tri_iinc 73 5 (1)) (fa1 (tri_goto 3) (fa1 (tri_vret) (fa0))))))))))))))))))))))))))))))))))))))))
set_option maxRecDepth 100000 in
set_option maxHeartbeats 4000000 in
theorem ks_X4_tryPlaces (G : Wp) (l : Launch) : ∀ e ∈ k_X4_tryPlaces, Snd loC G l RX4 cX4_tryPlaces 7 none rm_X4_tryPlaces e.1 e.2 :=
  fa1 (s_iconst (n := 0) (v := 0) (by decide +kernel) (by decide +kernel) (p32 rfl)) <|
  fa1 (s_istore (j := 5) (by decide +kernel) (by decide)) <|
  fa1 (s_iload (j := 5) (by decide +kernel)) <|
  fa1 (s_aload_n (kf := 0) (j := 0) (by decide +kernel) rfl) <|
  fa1 (s_getR (t2 := 29) (g := (fun _ => 260)) (ci := 4) (f := 3) (idx := 13) (C := RX4) (T := TX4) (NF := 18) (by decide +kernel) rfl (by decide) inG_X4 (by decide) w_413 lr_X4_3 (by decide)) <|
  fa1 (s_iload_n (kf := 1) (j := 1) (by decide +kernel) rfl) <|
  fa1 (s_aldR (t := 29) (t2 := 8) (g := (fun _ i => 271 + 2 * i)) (by decide +kernel) (by decide) (by decide) rfl (by decide) le_29) <|
  fa1 (s_getI (ci := 8) (f := 1) (idx := 123) (C := RX8) (T := TX8) (NF := 2) (by decide +kernel) rfl (by decide) inG_X8 (by decide) w_145 li_X8_1) <|
  fa1 (s_cmpge (off := 62) (by decide +kernel) (by decide)) <|
  fa1 (s_aload_n (kf := 0) (j := 0) (by decide +kernel) rfl) <|
  fa1 (s_vcallI (n := 0) (ci := 4) (C := RX4) (T := TX4) (NF := 18) (idx := 100) (y := yX4_isOver) (by decide +kernel) (gg_X4_isOver) rfl (by decide) yv_X4_isOver (all5 w_995 w_997 w_23 w_109 w_998) rfl rfl ⟨by decide, by decide⟩) <|
  fa1 (s_ifne (off := 55) (by decide +kernel) (by decide)) <|
  fa1 (s_aload_n (kf := 0) (j := 0) (by decide +kernel) rfl) <|
  fa1 (s_getR (t2 := 6) (g := (fun _ => 157)) (ci := 4) (f := 2) (idx := 57) (C := RX4) (T := TX4) (NF := 18) (by decide +kernel) rfl (by decide) inG_X4 (by decide) w_412 lr_X4_2 (by decide)) <|
  fa1 (s_iload_n (kf := 2) (j := 2) (by decide +kernel) rfl) <|
  fa1 (s_iload_n (kf := 3) (j := 3) (by decide +kernel) rfl) <|
  fa1 (s_iload (j := 5) (by decide +kernel)) <|
  fa1 (s_aload_n (kf := 0) (j := 0) (by decide +kernel) rfl) <|
  fa1 (s_getI (ci := 4) (f := 13) (idx := 78) (C := RX4) (T := TX4) (NF := 18) (by decide +kernel) rfl (by decide) inG_X4 (by decide) w_423 li_X4_13) <|
  fa1 (s_aload_n (kf := 0) (j := 0) (by decide +kernel) rfl) <|
  fa1 (s_getR (t2 := 8) (g := (fun _ => 269)) (ci := 4) (f := 12) (idx := 45) (C := RX4) (T := TX4) (NF := 18) (by decide +kernel) rfl (by decide) inG_X4 (by decide) w_422 lr_X4_12 (by decide)) <|
  fa1 (s_vcallI (n := 5) (ci := 6) (C := RX6) (T := TX6) (NF := 7) (idx := 124) (y := yX6_go) (by decide +kernel) (gg_X6_go) rfl (by decide) yv_X6_go (all5 w_1008 w_834 w_835 w_107 w_836) rfl rfl ⟨by decide, by decide⟩) <|
  fa1 (s_istore (j := 6) (by decide +kernel) (by decide)) <|
  fa1 (s_iload (j := 6) (by decide +kernel)) <|
  fa1 (s_iflt (off := 23) (by decide +kernel) (by decide)) <|
  fa1 (s_iload (j := 6) (by decide +kernel)) <|
  fa1 (s_aload_n (kf := 0) (j := 0) (by decide +kernel) rfl) <|
  fa1 (s_getI (ci := 4) (f := 14) (idx := 81) (C := RX4) (T := TX4) (NF := 18) (by decide +kernel) rfl (by decide) inG_X4 (by decide) w_424 li_X4_14) <|
  fa1 (s_cmpgt (off := 14) (by decide +kernel) (by decide)) <|
  fa1 (s_aload_n (kf := 0) (j := 0) (by decide +kernel) rfl) <|
  fa1 (s_aload (j := 4) (by decide +kernel)) <|
  fa1 (s_iload_n (kf := 1) (j := 1) (by decide +kernel) rfl) <|
  fa1 (s_iload_n (kf := 2) (j := 2) (by decide +kernel) rfl) <|
  fa1 (s_iload_n (kf := 3) (j := 3) (by decide +kernel) rfl) <|
  fa1 (s_iload (j := 5) (by decide +kernel)) <|
  fa1 (s_vcallV (n := 5) (ci := 4) (C := RX4) (T := TX4) (NF := 18) (idx := 96) (y := yX4_meet) (by decide +kernel) (gg_X4_meet) rfl (by decide) yv_X4_meet (all5 w_986 w_988 w_22 w_109 w_989) rfl rfl ⟨by decide, by decide⟩) <|
  fa1 (s_iinc (j := 5) (d := 1) (by decide +kernel) (by decide)) <|
  fa1 (s_goto (off := -70) (by decide +kernel) (by decide)) <|
  fa1 (s_vret (by decide +kernel) rfl) <| fa0
theorem gg_X4_tryPlaces {G : Wp} {l : Launch} : GoodM loC G l yX4_tryPlaces cX4_tryPlaces 7 none rm_X4_tryPlaces f_X4_tryPlaces := met_of kt_X4_tryPlaces (lkp_snd (ks_X4_tryPlaces G l)) (by decide +kernel) rfl (by decide)
noncomputable def k_X4_goOn : List (Nat × Ins) := [
  (0, i_aload 1 0),
  (1, i_getR 4 4 6 (fun _ => 157)),
  (4, i_aload 5 0),
  (5, i_getR 8 4 29 (fun _ => 260)),
  (8, i_iload 9 1),
  (9, i_aldR 10 29 8 lnC (fun _ i => 271 + 2 * i)),
  (10, i_callV 13 2 (rcv 6) f_X6_look),
  (13, i_push 14 (.inl 0)),
  (14, i_istore 15 3),
  (15, i_iload 16 3),
  (16, i_aload 17 0),
  (17, i_getR 20 4 3 (fun _ => 23)),
  (20, i_getI 23 3 9),
  (23, i_cmpge 26 48),
  (26, i_aload 27 0),
  (27, i_iload 28 1),
  (28, i_push 29 (.inl 0)),
  (29, i_iload 30 3),
  (30, i_aload 31 2),
  (31, i_callV 34 5 (rcv 4) f_X4_tryPlaces),
  (34, i_aload 35 0),
  (35, i_iload 36 1),
  (36, i_push 37 (.inl 1)),
  (37, i_iload 38 3),
  (38, i_aload 39 2),
  (39, i_callV 42 5 (rcv 4) f_X4_tryPlaces),
  (42, i_iinc 45 3 (1)),
  (45, i_goto 15),
  (48, i_aload 49 0),
  (49, i_iload 50 1),
  (50, i_push 51 (.inl 2)),
  (51, i_push 53 (.inl (-4))),
  (53, i_aload 54 2),
  (54, i_callV 57 5 (rcv 4) f_X4_tryPlaces),
  (57, i_push 58 (.inl 0)),
  (58, i_istore 59 3),
  (59, i_iload 60 3),
  (60, i_aload 61 0),
  (61, i_getR 64 4 9 (fun _ => 1)),
  (64, i_getI 67 9 5),
  (67, i_cmpge 70 84),
  (70, i_aload 71 0),
  (71, i_iload 72 1),
  (72, i_push 73 (.inl 3)),
  (73, i_iload 74 3),
  (74, i_aload 75 2),
  (75, i_callV 78 5 (rcv 4) f_X4_tryPlaces),
  (78, i_iinc 81 3 (1)),
  (81, i_goto 59),
  (84, i_vret)]
noncomputable def kc_X4_goOn : Nat → Option Ins := lkp k_X4_goOn
noncomputable def f_X4_goOn : List AV → Mem → Option Rs := den 4 kc_X4_goOn
abbrev rm_X4_goOn : Room := { frames := 4, cells := 0, slots := 0, locals := 107 }
set_option maxRecDepth 100000 in
theorem kt_X4_goOn : TriC kc_X4_goOn := lkp_tri (fa1 (tri_aload 1 0) (fa1 (tri_getR 4 4 6 (fun _ => 157)) (fa1 (tri_aload 5 0) (fa1 (tri_getR 8 4 29 (fun _ => 260)) (fa1 (tri_iload 9 1) (fa1 (tri_aldR 10 29 8 lnC (fun _ i => 271 + 2 * i)) (fa1 (tri_callV 13 2 (rcv 6) f_X6_look) (fa1 (tri_push 14 (.inl 0)) (fa1 (tri_istore 15 3) (fa1 (tri_iload 16 3) (fa1 (tri_aload 17 0) (fa1 (tri_getR 20 4 3 (fun _ => 23)) (fa1 (tri_getI 23 3 9) (fa1 (tri_cmpge 26 48) (fa1 (tri_aload 27 0) (fa1 (tri_iload 28 1) (fa1 (tri_push 29 (.inl 0)) (fa1 (tri_iload 30 3) (fa1 (tri_aload 31 2) (fa1 (tri_callV 34 5 (rcv 4) f_X4_tryPlaces) (fa1 (tri_aload 35 0) (fa1 (tri_iload 36 1) (fa1 (tri_push 37 (.inl 1)) (fa1 (tri_iload 38 3) (fa1 (tri_aload 39 2) (fa1 (tri_callV 42 5 (rcv 4) f_X4_tryPlaces) (fa1 (tri_iinc 45 3 (1)) (fa1 (tri_goto 15) (fa1 (tri_aload 49 0) (fa1 (tri_iload 50 1) (fa1 (tri_push 51 (.inl 2)) (fa1 (tri_push 53 (.inl (-4))) (fa1 (tri_aload 54 2) (fa1 (tri_callV 57 5 (rcv 4) f_X4_tryPlaces) (fa1 (tri_push 58 (.inl 0)) (fa1 (tri_istore 59 3) (fa1 (tri_iload 60 3) (fa1 (tri_aload 61 0) (fa1 (tri_getR 64 4 9 (fun _ => 1)) (fa1 (tri_getI 67 9 5) (fa1 (tri_cmpge 70 84) (fa1 (tri_aload 71 0) (fa1 (tri_iload 72 1) (fa1 (tri_push 73 (.inl 3)) (fa1 (tri_iload 74 3) (fa1 (tri_aload 75 2) (fa1 (tri_callV 78 5 (rcv 4) f_X4_tryPlaces) (fa1 (tri_iinc 81 3 (1)) (fa1 (tri_goto 59) (fa1 (tri_vret) (fa0)))))))))))))))))))))))))))))))))))))))))))))))))))
set_option maxRecDepth 100000 in
set_option maxHeartbeats 4000000 in
theorem ks_X4_goOn (G : Wp) (l : Launch) : ∀ e ∈ k_X4_goOn, Snd loC G l RX4 cX4_goOn 4 none rm_X4_goOn e.1 e.2 :=
  fa1 (s_aload_n (kf := 0) (j := 0) (by decide +kernel) rfl) <|
  fa1 (s_getR (t2 := 6) (g := (fun _ => 157)) (ci := 4) (f := 2) (idx := 57) (C := RX4) (T := TX4) (NF := 18) (by decide +kernel) rfl (by decide) inG_X4 (by decide) w_412 lr_X4_2 (by decide)) <|
  fa1 (s_aload_n (kf := 0) (j := 0) (by decide +kernel) rfl) <|
  fa1 (s_getR (t2 := 29) (g := (fun _ => 260)) (ci := 4) (f := 3) (idx := 13) (C := RX4) (T := TX4) (NF := 18) (by decide +kernel) rfl (by decide) inG_X4 (by decide) w_413 lr_X4_3 (by decide)) <|
  fa1 (s_iload_n (kf := 1) (j := 1) (by decide +kernel) rfl) <|
  fa1 (s_aldR (t := 29) (t2 := 8) (g := (fun _ i => 271 + 2 * i)) (by decide +kernel) (by decide) (by decide) rfl (by decide) le_29) <|
  fa1 (s_vcallV (n := 1) (ci := 6) (C := RX6) (T := TX6) (NF := 7) (idx := 108) (y := yX6_look) (by decide +kernel) (gg_X6_look) rfl (by decide) yv_X6_look (all5 w_1003 w_823 w_824 w_107 w_825) rfl rfl ⟨by decide, by decide⟩) <|
  fa1 (s_iconst (n := 0) (v := 0) (by decide +kernel) (by decide +kernel) (p32 rfl)) <|
  fa1 (s_istore_n (kf := 3) (j := 3) (by decide +kernel) rfl (by decide)) <|
  fa1 (s_iload_n (kf := 3) (j := 3) (by decide +kernel) rfl) <|
  fa1 (s_aload_n (kf := 0) (j := 0) (by decide +kernel) rfl) <|
  fa1 (s_getR (t2 := 3) (g := (fun _ => 23)) (ci := 4) (f := 1) (idx := 53) (C := RX4) (T := TX4) (NF := 18) (by decide +kernel) rfl (by decide) inG_X4 (by decide) w_411 lr_X4_1 (by decide)) <|
  fa1 (s_getI (ci := 3) (f := 9) (idx := 113) (C := RX3) (T := TX3) (NF := 11) (by decide +kernel) rfl (by decide) inG_X3 (by decide) w_262 li_X3_9) <|
  fa1 (s_cmpge (off := 25) (by decide +kernel) (by decide)) <|
  fa1 (s_aload_n (kf := 0) (j := 0) (by decide +kernel) rfl) <|
  fa1 (s_iload_n (kf := 1) (j := 1) (by decide +kernel) rfl) <|
  fa1 (s_iconst (n := 0) (v := 0) (by decide +kernel) (by decide +kernel) (p32 rfl)) <|
  fa1 (s_iload_n (kf := 3) (j := 3) (by decide +kernel) rfl) <|
  fa1 (s_aload_n (kf := 2) (j := 2) (by decide +kernel) rfl) <|
  fa1 (s_vcallV (n := 4) (ci := 4) (C := RX4) (T := TX4) (NF := 18) (idx := 116) (y := yX4_tryPlaces) (by decide +kernel) (gg_X4_tryPlaces) rfl (by decide) yv_X4_tryPlaces (all5 w_1004 w_1006 w_25 w_109 w_1007) rfl rfl ⟨by decide, by decide⟩) <|
  fa1 (s_aload_n (kf := 0) (j := 0) (by decide +kernel) rfl) <|
  fa1 (s_iload_n (kf := 1) (j := 1) (by decide +kernel) rfl) <|
  fa1 (s_iconst (n := 1) (v := 1) (by decide +kernel) (by decide +kernel) (p32 rfl)) <|
  fa1 (s_iload_n (kf := 3) (j := 3) (by decide +kernel) rfl) <|
  fa1 (s_aload_n (kf := 2) (j := 2) (by decide +kernel) rfl) <|
  fa1 (s_vcallV (n := 4) (ci := 4) (C := RX4) (T := TX4) (NF := 18) (idx := 116) (y := yX4_tryPlaces) (by decide +kernel) (gg_X4_tryPlaces) rfl (by decide) yv_X4_tryPlaces (all5 w_1004 w_1006 w_25 w_109 w_1007) rfl rfl ⟨by decide, by decide⟩) <|
  fa1 (s_iinc (j := 3) (d := 1) (by decide +kernel) (by decide)) <|
  fa1 (s_goto (off := -30) (by decide +kernel) (by decide)) <|
  fa1 (s_aload_n (kf := 0) (j := 0) (by decide +kernel) rfl) <|
  fa1 (s_iload_n (kf := 1) (j := 1) (by decide +kernel) rfl) <|
  fa1 (s_iconst (n := 2) (v := 2) (by decide +kernel) (by decide +kernel) (p32 rfl)) <|
  fa1 (s_bipush (n := -4) (v := -4) (by decide +kernel) (by decide +kernel) (p32 rfl)) <|
  fa1 (s_aload_n (kf := 2) (j := 2) (by decide +kernel) rfl) <|
  fa1 (s_vcallV (n := 4) (ci := 4) (C := RX4) (T := TX4) (NF := 18) (idx := 116) (y := yX4_tryPlaces) (by decide +kernel) (gg_X4_tryPlaces) rfl (by decide) yv_X4_tryPlaces (all5 w_1004 w_1006 w_25 w_109 w_1007) rfl rfl ⟨by decide, by decide⟩) <|
  fa1 (s_iconst (n := 0) (v := 0) (by decide +kernel) (by decide +kernel) (p32 rfl)) <|
  fa1 (s_istore_n (kf := 3) (j := 3) (by decide +kernel) rfl (by decide)) <|
  fa1 (s_iload_n (kf := 3) (j := 3) (by decide +kernel) rfl) <|
  fa1 (s_aload_n (kf := 0) (j := 0) (by decide +kernel) rfl) <|
  fa1 (s_getR (t2 := 9) (g := (fun _ => 1)) (ci := 4) (f := 0) (idx := 49) (C := RX4) (T := TX4) (NF := 18) (by decide +kernel) rfl (by decide) inG_X4 (by decide) w_410 lr_X4_0 (by decide)) <|
  fa1 (s_getI (ci := 9) (f := 5) (idx := 120) (C := RX9) (T := TX9) (NF := 6) (by decide +kernel) rfl (by decide) inG_X9 (by decide) w_163 li_X9_5) <|
  fa1 (s_cmpge (off := 17) (by decide +kernel) (by decide)) <|
  fa1 (s_aload_n (kf := 0) (j := 0) (by decide +kernel) rfl) <|
  fa1 (s_iload_n (kf := 1) (j := 1) (by decide +kernel) rfl) <|
  fa1 (s_iconst (n := 3) (v := 3) (by decide +kernel) (by decide +kernel) (p32 rfl)) <|
  fa1 (s_iload_n (kf := 3) (j := 3) (by decide +kernel) rfl) <|
  fa1 (s_aload_n (kf := 2) (j := 2) (by decide +kernel) rfl) <|
  fa1 (s_vcallV (n := 4) (ci := 4) (C := RX4) (T := TX4) (NF := 18) (idx := 116) (y := yX4_tryPlaces) (by decide +kernel) (gg_X4_tryPlaces) rfl (by decide) yv_X4_tryPlaces (all5 w_1004 w_1006 w_25 w_109 w_1007) rfl rfl ⟨by decide, by decide⟩) <|
  fa1 (s_iinc (j := 3) (d := 1) (by decide +kernel) (by decide)) <|
  fa1 (s_goto (off := -22) (by decide +kernel) (by decide)) <|
  fa1 (s_vret (by decide +kernel) rfl) <| fa0
theorem gg_X4_goOn {G : Wp} {l : Launch} : GoodM loC G l yX4_goOn cX4_goOn 4 none rm_X4_goOn f_X4_goOn := met_of kt_X4_goOn (lkp_snd (ks_X4_goOn G l)) (by decide +kernel) rfl (by decide)
noncomputable def k_X4_run : List (Nat × Ins) := [
  (0, i_aload 1 0),
  (1, i_getR 4 4 3 (fun _ => 23)),
  (4, i_iload 5 1),
  (5, i_callR 8 2 2 (rcv 3) f_X3_get),
  (8, i_astore 10 4),
  (10, i_aload 12 4),
  (12, i_ifnonnull 15 17),
  (15, i_push 16 (.inl (-1))),
  (16, i_iret),
  (17, i_push 18 (.inl 0)),
  (18, i_istore 20 5),
  (20, i_iload 22 5),
  (22, i_push 25 (.inl 256)),
  (25, i_cmpge 28 43),
  (28, i_aload 29 0),
  (29, i_getR 32 4 20 (fun _ => 266)),
  (32, i_iload 34 5),
  (34, i_push 36 (.inl (-4))),
  (36, i_ast 37 20 lnC id),
  (37, i_iinc 40 5 (1)),
  (40, i_goto 20),
  (43, i_aload 44 0),
  (44, i_push 45 (.inl 0)),
  (45, i_putI 48 4 17),
  (48, i_aload 49 0),
  (49, i_push 51 (.inl (-4))),
  (51, i_putI 54 4 15),
  (54, i_aload 55 0),
  (55, i_push 56 (.inl 0)),
  (56, i_putZ 59 4 16),
  (59, i_aload 60 0),
  (60, i_iload 61 1),
  (61, i_putI 64 4 13),
  (64, i_aload 65 0),
  (65, i_iload 66 3),
  (66, i_putI 69 4 14),
  (69, i_aload 70 0),
  (70, i_getR 73 4 8 (fun _ => 269)),
  (73, i_aload 75 4),
  (75, i_getR 78 2 8 (fun c => c + 1)),
  (78, i_callV 81 2 (rcv 8) f_X8_copy),
  (81, i_aload 82 0),
  (82, i_aload 84 4),
  (84, i_getR 87 2 8 (fun c => c + 3)),
  (87, i_push 89 (.inl (-4))),
  (89, i_push 91 (.inl (-4))),
  (91, i_push 93 (.inl (-4))),
  (93, i_push 95 (.inl (-4))),
  (95, i_callV 98 6 (rcv 4) f_X4_meet),
  (98, i_push 99 (.inl 0)),
  (99, i_istore 101 5),
  (101, i_iload 103 5),
  (103, i_aload 104 0),
  (104, i_getI 107 4 17),
  (107, i_cmpge 110 153),
  (110, i_iload 112 5),
  (112, i_push 115 (.inl 250)),
  (115, i_cmpge 118 153),
  (118, i_aload 119 0),
  (119, i_callI 122 1 (rcv 4) f_X4_isOver),
  (122, i_ifne 125 153),
  (125, i_aload 126 0),
  (126, i_getR 129 4 20 (fun _ => 265)),
  (129, i_iload 131 5),
  (131, i_ald 132 20 lnC),
  (132, i_iload 133 2),
  (133, i_cmpge 136 147),
  (136, i_aload 137 0),
  (137, i_iload 139 5),
  (139, i_aload 141 4),
  (141, i_getR 144 2 8 (fun c => c + 3)),
  (144, i_callV 147 3 (rcv 4) f_X4_goOn),
  (147, i_iinc 150 5 (1)),
  (150, i_goto 101),
  (153, i_aload 154 0),
  (154, i_getI 157 4 16),
  (157, i_ifeq 160 163),
  (160, i_push 162 (.inl (-6))),
  (162, i_iret),
  (163, i_aload 164 0),
  (164, i_getI 167 4 15),
  (167, i_iflt 170 192),
  (170, i_aload 171 0),
  (171, i_getI 174 4 15),
  (174, i_push 177 (.inl 250)),
  (177, i_cmpge 180 192),
  (180, i_aload 181 0),
  (181, i_getR 184 4 20 (fun _ => 265)),
  (184, i_aload 185 0),
  (185, i_getI 188 4 15),
  (188, i_ald 189 20 lnC),
  (189, i_goto 194),
  (192, i_push 194 (.inl (-4))),
  (194, i_iret)]
noncomputable def kc_X4_run : Nat → Option Ins := lkp k_X4_run
noncomputable def f_X4_run : List AV → Mem → Option Rs := den 6 kc_X4_run
abbrev rm_X4_run : Room := { frames := 5, cells := 0, slots := 0, locals := 130 }
set_option maxRecDepth 100000 in
theorem kt_X4_run : TriC kc_X4_run := lkp_tri (fa1 (tri_aload 1 0) (fa1 (tri_getR 4 4 3 (fun _ => 23)) (fa1 (tri_iload 5 1) (fa1 (tri_callR 8 2 2 (rcv 3) f_X3_get) (fa1 (tri_astore 10 4) (fa1 (tri_aload 12 4) (fa1 (tri_ifnonnull 15 17) (fa1 (tri_push 16 (.inl (-1))) (fa1 (tri_iret) (fa1 (tri_push 18 (.inl 0)) (fa1 (tri_istore 20 5) (fa1 (tri_iload 22 5) (fa1 (tri_push 25 (.inl 256)) (fa1 (tri_cmpge 28 43) (fa1 (tri_aload 29 0) (fa1 (tri_getR 32 4 20 (fun _ => 266)) (fa1 (tri_iload 34 5) (fa1 (tri_push 36 (.inl (-4))) (fa1 (tri_ast 37 20 lnC id) (fa1 (tri_iinc 40 5 (1)) (fa1 (tri_goto 20) (fa1 (tri_aload 44 0) (fa1 (tri_push 45 (.inl 0)) (fa1 (tri_putI 48 4 17) (fa1 (tri_aload 49 0) (fa1 (tri_push 51 (.inl (-4))) (fa1 (tri_putI 54 4 15) (fa1 (tri_aload 55 0) (fa1 (tri_push 56 (.inl 0)) (fa1 (tri_putZ 59 4 16) (fa1 (tri_aload 60 0) (fa1 (tri_iload 61 1) (fa1 (tri_putI 64 4 13) (fa1 (tri_aload 65 0) (fa1 (tri_iload 66 3) (fa1 (tri_putI 69 4 14) (fa1 (tri_aload 70 0) (fa1 (tri_getR 73 4 8 (fun _ => 269)) (fa1 (tri_aload 75 4) (fa1 (tri_getR 78 2 8 (fun c => c + 1)) (fa1 (tri_callV 81 2 (rcv 8) f_X8_copy) (fa1 (tri_aload 82 0) (fa1 (tri_aload 84 4) (fa1 (tri_getR 87 2 8 (fun c => c + 3)) (fa1 (tri_push 89 (.inl (-4))) (fa1 (tri_push 91 (.inl (-4))) (fa1 (tri_push 93 (.inl (-4))) (fa1 (tri_push 95 (.inl (-4))) (fa1 (tri_callV 98 6 (rcv 4) f_X4_meet) (fa1 (tri_push 99 (.inl 0)) (fa1 (tri_istore 101 5) (fa1 (tri_iload 103 5) (fa1 (tri_aload 104 0) (fa1 (tri_getI 107 4 17) (fa1 (tri_cmpge 110 153) (fa1 (tri_iload 112 5) (fa1 (tri_push 115 (.inl 250)) (fa1 (tri_cmpge 118 153) (fa1 (tri_aload 119 0) (fa1 (tri_callI 122 1 (rcv 4) f_X4_isOver) (fa1 (tri_ifne 125 153) (fa1 (tri_aload 126 0) (fa1 (tri_getR 129 4 20 (fun _ => 265)) (fa1 (tri_iload 131 5) (fa1 (tri_ald 132 20 lnC) (fa1 (tri_iload 133 2) (fa1 (tri_cmpge 136 147) (fa1 (tri_aload 137 0) (fa1 (tri_iload 139 5) (fa1 (tri_aload 141 4) (fa1 (tri_getR 144 2 8 (fun c => c + 3)) (fa1 (tri_callV 147 3 (rcv 4) f_X4_goOn) (fa1 (tri_iinc 150 5 (1)) (fa1 (tri_goto 101) (fa1 (tri_aload 154 0) (fa1 (tri_getI 157 4 16) (fa1 (tri_ifeq 160 163) (fa1 (tri_push 162 (.inl (-6))) (fa1 (tri_iret) (fa1 (tri_aload 164 0) (fa1 (tri_getI 167 4 15) (fa1 (tri_iflt 170 192) (fa1 (tri_aload 171 0) (fa1 (tri_getI 174 4 15) (fa1 (tri_push 177 (.inl 250)) (fa1 (tri_cmpge 180 192) (fa1 (tri_aload 181 0) (fa1 (tri_getR 184 4 20 (fun _ => 265)) (fa1 (tri_aload 185 0) (fa1 (tri_getI 188 4 15) (fa1 (tri_ald 189 20 lnC) (fa1 (tri_goto 194) (fa1 (tri_push 194 (.inl (-4))) (fa1 (tri_iret) (fa0)))))))))))))))))))))))))))))))))))))))))))))))))))))))))))))))))))))))))))))))))))))))))))))))
set_option maxRecDepth 100000 in
set_option maxHeartbeats 4000000 in
theorem ks_X4_run (G : Wp) (l : Launch) : ∀ e ∈ k_X4_run, Snd loC G l RX4 cX4_run 6 (some .int) rm_X4_run e.1 e.2 :=
  fa1 (s_aload_n (kf := 0) (j := 0) (by decide +kernel) rfl) <|
  fa1 (s_getR (t2 := 3) (g := (fun _ => 23)) (ci := 4) (f := 1) (idx := 53) (C := RX4) (T := TX4) (NF := 18) (by decide +kernel) rfl (by decide) inG_X4 (by decide) w_411 lr_X4_1 (by decide)) <|
  fa1 (s_iload_n (kf := 1) (j := 1) (by decide +kernel) rfl) <|
  fa1 (s_vcallR (t := 2) (n := 1) (ci := 3) (C := RX3) (T := TX3) (NF := 11) (idx := 61) (y := yX3_get) (by decide +kernel) (gg_X3_get) rfl (by decide) yv_X3_get (all5 w_984 w_736 w_737 w_104 w_738) rfl rfl ⟨by decide, by decide⟩) <|
  fa1 (s_astore (j := 4) (by decide +kernel) (by decide)) <|
  fa1 (s_aload (j := 4) (by decide +kernel)) <|
  fa1 (s_ifnonnull (off := 5) (by decide +kernel) (by decide)) <|
  fa1 (s_iconst (n := -1) (v := -1) (by decide +kernel) (by decide +kernel) (p32 rfl)) <|
  fa1 (s_iret (by decide +kernel) rfl) <|
  fa1 (s_iconst (n := 0) (v := 0) (by decide +kernel) (by decide +kernel) (p32 rfl)) <|
  fa1 (s_istore (j := 5) (by decide +kernel) (by decide)) <|
  fa1 (s_iload (j := 5) (by decide +kernel)) <|
  fa1 (s_sipush (n := 256) (v := 256) (by decide +kernel) (by decide +kernel) (p32 rfl)) <|
  fa1 (s_cmpge (off := 18) (by decide +kernel) (by decide)) <|
  fa1 (s_aload_n (kf := 0) (j := 0) (by decide +kernel) rfl) <|
  fa1 (s_getR (t2 := 20) (g := (fun _ => 266)) (ci := 4) (f := 9) (idx := 33) (C := RX4) (T := TX4) (NF := 18) (by decide +kernel) rfl (by decide) inG_X4 (by decide) w_419 lr_X4_9 (by decide)) <|
  fa1 (s_iload (j := 5) (by decide +kernel)) <|
  fa1 (s_bipush (n := -4) (v := -4) (by decide +kernel) (by decide +kernel) (p32 rfl)) <|
  fa1 (s_iast (by decide +kernel) lt_loC_20) <|
  fa1 (s_iinc (j := 5) (d := 1) (by decide +kernel) (by decide)) <|
  fa1 (s_goto (off := -20) (by decide +kernel) (by decide)) <|
  fa1 (s_aload_n (kf := 0) (j := 0) (by decide +kernel) rfl) <|
  fa1 (s_iconst (n := 0) (v := 0) (by decide +kernel) (by decide +kernel) (p32 rfl)) <|
  fa1 (s_putI (ci := 4) (f := 17) (idx := 67) (C := RX4) (T := TX4) (NF := 18) (by decide +kernel) rfl (by decide) inG_X4 (by decide) w_427 tyX4 tyX4_ok nmX4 rfl (by decide +kernel) li_X4_17) <|
  fa1 (s_aload_n (kf := 0) (j := 0) (by decide +kernel) rfl) <|
  fa1 (s_bipush (n := -4) (v := -4) (by decide +kernel) (by decide +kernel) (p32 rfl)) <|
  fa1 (s_putI (ci := 4) (f := 15) (idx := 71) (C := RX4) (T := TX4) (NF := 18) (by decide +kernel) rfl (by decide) inG_X4 (by decide) w_425 tyX4 tyX4_ok nmX4 rfl (by decide +kernel) li_X4_15) <|
  fa1 (s_aload_n (kf := 0) (j := 0) (by decide +kernel) rfl) <|
  fa1 (s_iconst (n := 0) (v := 0) (by decide +kernel) (by decide +kernel) (p32 rfl)) <|
  fa1 (s_putZ (ci := 4) (f := 16) (idx := 74) (C := RX4) (T := TX4) (NF := 18) (by decide +kernel) rfl (by decide) inG_X4 (by decide) w_426 tyX4 tyX4_ok nmX4 rfl (by decide +kernel) li_X4_16) <|
  fa1 (s_aload_n (kf := 0) (j := 0) (by decide +kernel) rfl) <|
  fa1 (s_iload_n (kf := 1) (j := 1) (by decide +kernel) rfl) <|
  fa1 (s_putI (ci := 4) (f := 13) (idx := 78) (C := RX4) (T := TX4) (NF := 18) (by decide +kernel) rfl (by decide) inG_X4 (by decide) w_423 tyX4 tyX4_ok nmX4 rfl (by decide +kernel) li_X4_13) <|
  fa1 (s_aload_n (kf := 0) (j := 0) (by decide +kernel) rfl) <|
  fa1 (s_iload_n (kf := 3) (j := 3) (by decide +kernel) rfl) <|
  fa1 (s_putI (ci := 4) (f := 14) (idx := 81) (C := RX4) (T := TX4) (NF := 18) (by decide +kernel) rfl (by decide) inG_X4 (by decide) w_424 tyX4 tyX4_ok nmX4 rfl (by decide +kernel) li_X4_14) <|
  fa1 (s_aload_n (kf := 0) (j := 0) (by decide +kernel) rfl) <|
  fa1 (s_getR (t2 := 8) (g := (fun _ => 269)) (ci := 4) (f := 12) (idx := 45) (C := RX4) (T := TX4) (NF := 18) (by decide +kernel) rfl (by decide) inG_X4 (by decide) w_422 lr_X4_12 (by decide)) <|
  fa1 (s_aload (j := 4) (by decide +kernel)) <|
  fa1 (s_getR (t2 := 8) (g := (fun c => c + 1)) (ci := 2) (f := 0) (idx := 84) (C := RX2) (T := TX2) (NF := 11) (by decide +kernel) rfl (by decide) inG_X2 (by decide) w_195 lr_X2_0 (by decide)) <|
  fa1 (s_vcallV (n := 1) (ci := 8) (C := RX8) (T := TX8) (NF := 2) (idx := 89) (y := yX8_copy) (by decide +kernel) (gg_X8_copy) rfl (by decide) yv_X8_copy (all5 w_985 w_684 w_685 w_102 w_686) rfl rfl ⟨by decide, by decide⟩) <|
  fa1 (s_aload_n (kf := 0) (j := 0) (by decide +kernel) rfl) <|
  fa1 (s_aload (j := 4) (by decide +kernel)) <|
  fa1 (s_getR (t2 := 8) (g := (fun c => c + 3)) (ci := 2) (f := 1) (idx := 93) (C := RX2) (T := TX2) (NF := 11) (by decide +kernel) rfl (by decide) inG_X2 (by decide) w_202 lr_X2_1 (by decide)) <|
  fa1 (s_bipush (n := -4) (v := -4) (by decide +kernel) (by decide +kernel) (p32 rfl)) <|
  fa1 (s_bipush (n := -4) (v := -4) (by decide +kernel) (by decide +kernel) (p32 rfl)) <|
  fa1 (s_bipush (n := -4) (v := -4) (by decide +kernel) (by decide +kernel) (p32 rfl)) <|
  fa1 (s_bipush (n := -4) (v := -4) (by decide +kernel) (by decide +kernel) (p32 rfl)) <|
  fa1 (s_vcallV (n := 5) (ci := 4) (C := RX4) (T := TX4) (NF := 18) (idx := 96) (y := yX4_meet) (by decide +kernel) (gg_X4_meet) rfl (by decide) yv_X4_meet (all5 w_986 w_988 w_22 w_109 w_989) rfl rfl ⟨by decide, by decide⟩) <|
  fa1 (s_iconst (n := 0) (v := 0) (by decide +kernel) (by decide +kernel) (p32 rfl)) <|
  fa1 (s_istore (j := 5) (by decide +kernel) (by decide)) <|
  fa1 (s_iload (j := 5) (by decide +kernel)) <|
  fa1 (s_aload_n (kf := 0) (j := 0) (by decide +kernel) rfl) <|
  fa1 (s_getI (ci := 4) (f := 17) (idx := 67) (C := RX4) (T := TX4) (NF := 18) (by decide +kernel) rfl (by decide) inG_X4 (by decide) w_427 li_X4_17) <|
  fa1 (s_cmpge (off := 46) (by decide +kernel) (by decide)) <|
  fa1 (s_iload (j := 5) (by decide +kernel)) <|
  fa1 (s_sipush (n := 250) (v := 250) (by decide +kernel) (by decide +kernel) (p32 rfl)) <|
  fa1 (s_cmpge (off := 38) (by decide +kernel) (by decide)) <|
  fa1 (s_aload_n (kf := 0) (j := 0) (by decide +kernel) rfl) <|
  fa1 (s_vcallI (n := 0) (ci := 4) (C := RX4) (T := TX4) (NF := 18) (idx := 100) (y := yX4_isOver) (by decide +kernel) (gg_X4_isOver) rfl (by decide) yv_X4_isOver (all5 w_995 w_997 w_23 w_109 w_998) rfl rfl ⟨by decide, by decide⟩) <|
  fa1 (s_ifne (off := 31) (by decide +kernel) (by decide)) <|
  fa1 (s_aload_n (kf := 0) (j := 0) (by decide +kernel) rfl) <|
  fa1 (s_getR (t2 := 20) (g := (fun _ => 265)) (ci := 4) (f := 8) (idx := 30) (C := RX4) (T := TX4) (NF := 18) (by decide +kernel) rfl (by decide) inG_X4 (by decide) w_418 lr_X4_8 (by decide)) <|
  fa1 (s_iload (j := 5) (by decide +kernel)) <|
  fa1 (s_iald (by decide +kernel)) <|
  fa1 (s_iload_n (kf := 2) (j := 2) (by decide +kernel) rfl) <|
  fa1 (s_cmpge (off := 14) (by decide +kernel) (by decide)) <|
  fa1 (s_aload_n (kf := 0) (j := 0) (by decide +kernel) rfl) <|
  fa1 (s_iload (j := 5) (by decide +kernel)) <|
  fa1 (s_aload (j := 4) (by decide +kernel)) <|
  fa1 (s_getR (t2 := 8) (g := (fun c => c + 3)) (ci := 2) (f := 1) (idx := 93) (C := RX2) (T := TX2) (NF := 11) (by decide +kernel) rfl (by decide) inG_X2 (by decide) w_202 lr_X2_1 (by decide)) <|
  fa1 (s_vcallV (n := 2) (ci := 4) (C := RX4) (T := TX4) (NF := 18) (idx := 104) (y := yX4_goOn) (by decide +kernel) (gg_X4_goOn) rfl (by decide) yv_X4_goOn (all5 w_999 w_1001 w_24 w_109 w_1002) rfl rfl ⟨by decide, by decide⟩) <|
  fa1 (s_iinc (j := 5) (d := 1) (by decide +kernel) (by decide)) <|
  fa1 (s_goto (off := -49) (by decide +kernel) (by decide)) <|
  fa1 (s_aload_n (kf := 0) (j := 0) (by decide +kernel) rfl) <|
  fa1 (s_getI (ci := 4) (f := 16) (idx := 74) (C := RX4) (T := TX4) (NF := 18) (by decide +kernel) rfl (by decide) inG_X4 (by decide) w_426 li_X4_16) <|
  fa1 (s_ifeq (off := 6) (by decide +kernel) (by decide)) <|
  fa1 (s_bipush (n := -6) (v := -6) (by decide +kernel) (by decide +kernel) (p32 rfl)) <|
  fa1 (s_iret (by decide +kernel) rfl) <|
  fa1 (s_aload_n (kf := 0) (j := 0) (by decide +kernel) rfl) <|
  fa1 (s_getI (ci := 4) (f := 15) (idx := 71) (C := RX4) (T := TX4) (NF := 18) (by decide +kernel) rfl (by decide) inG_X4 (by decide) w_425 li_X4_15) <|
  fa1 (s_iflt (off := 25) (by decide +kernel) (by decide)) <|
  fa1 (s_aload_n (kf := 0) (j := 0) (by decide +kernel) rfl) <|
  fa1 (s_getI (ci := 4) (f := 15) (idx := 71) (C := RX4) (T := TX4) (NF := 18) (by decide +kernel) rfl (by decide) inG_X4 (by decide) w_425 li_X4_15) <|
  fa1 (s_sipush (n := 250) (v := 250) (by decide +kernel) (by decide +kernel) (p32 rfl)) <|
  fa1 (s_cmpge (off := 15) (by decide +kernel) (by decide)) <|
  fa1 (s_aload_n (kf := 0) (j := 0) (by decide +kernel) rfl) <|
  fa1 (s_getR (t2 := 20) (g := (fun _ => 265)) (ci := 4) (f := 8) (idx := 30) (C := RX4) (T := TX4) (NF := 18) (by decide +kernel) rfl (by decide) inG_X4 (by decide) w_418 lr_X4_8 (by decide)) <|
  fa1 (s_aload_n (kf := 0) (j := 0) (by decide +kernel) rfl) <|
  fa1 (s_getI (ci := 4) (f := 15) (idx := 71) (C := RX4) (T := TX4) (NF := 18) (by decide +kernel) rfl (by decide) inG_X4 (by decide) w_425 li_X4_15) <|
  fa1 (s_iald (by decide +kernel)) <|
  fa1 (s_goto (off := 5) (by decide +kernel) (by decide)) <|
  fa1 (s_bipush (n := -4) (v := -4) (by decide +kernel) (by decide +kernel) (p32 rfl)) <|
  fa1 (s_iret (by decide +kernel) rfl) <| fa0
theorem gg_X4_run {G : Wp} {l : Launch} : GoodM loC G l yX4_run cX4_run 6 (some .int) rm_X4_run f_X4_run := met_of kt_X4_run (lkp_snd (ks_X4_run G l)) (by decide +kernel) rfl (by decide)
noncomputable def k_X4_layOut : List (Nat × Ins) := [
  (0, i_push 1 (.inl 0)),
  (1, i_istore 2 3),
  (2, i_aload 3 0),
  (3, i_getI 6 4 15),
  (6, i_istore 8 4),
  (8, i_iload 10 4),
  (10, i_ifle 13 50),
  (13, i_iload 15 4),
  (15, i_push 18 (.inl 250)),
  (18, i_cmpge 21 50),
  (21, i_iload 22 3),
  (22, i_push 24 (.inl 20)),
  (24, i_cmpge 27 50),
  (27, i_aload 28 0),
  (28, i_getR 31 4 20 (fun _ => 268)),
  (31, i_iload 32 3),
  (32, i_iload 34 4),
  (34, i_ast 35 20 lnC id),
  (35, i_iinc 38 3 (1)),
  (38, i_aload 39 0),
  (39, i_getR 42 4 20 (fun _ => 261)),
  (42, i_iload 44 4),
  (44, i_ald 45 20 lnC),
  (45, i_istore 47 4),
  (47, i_goto 8),
  (50, i_aload 51 2),
  (51, i_iload 52 1),
  (52, i_callV 55 2 (rcv 1) f_X1_begin),
  (55, i_iload 56 3),
  (56, i_push 57 (.inl 1)),
  (57, i_bin 58 (fun x y => wr (x - y))),
  (58, i_istore 60 5),
  (60, i_iload 62 5),
  (62, i_iflt 65 106),
  (65, i_aload 66 0),
  (66, i_getR 69 4 20 (fun _ => 268)),
  (69, i_iload 71 5),
  (71, i_ald 72 20 lnC),
  (72, i_istore 74 6),
  (74, i_aload 75 2),
  (75, i_aload 76 0),
  (76, i_getR 79 4 20 (fun _ => 262)),
  (79, i_iload 81 6),
  (81, i_ald 82 20 lnC),
  (82, i_aload 83 0),
  (83, i_getR 86 4 20 (fun _ => 263)),
  (86, i_iload 88 6),
  (88, i_ald 89 20 lnC),
  (89, i_aload 90 0),
  (90, i_getR 93 4 20 (fun _ => 264)),
  (93, i_iload 95 6),
  (95, i_ald 96 20 lnC),
  (96, i_callI 99 4 (rcv 1) f_X1_go),
  (99, i_pop 100),
  (100, i_iinc 103 5 (-1)),
  (103, i_goto 60),
  (106, i_vret)]
noncomputable def kc_X4_layOut : Nat → Option Ins := lkp k_X4_layOut
noncomputable def f_X4_layOut : List AV → Mem → Option Rs := den 7 kc_X4_layOut
abbrev rm_X4_layOut : Room := { frames := 4, cells := 0, slots := 0, locals := 105 }
set_option maxRecDepth 100000 in
theorem kt_X4_layOut : TriC kc_X4_layOut := lkp_tri (fa1 (tri_push 1 (.inl 0)) (fa1 (tri_istore 2 3) (fa1 (tri_aload 3 0) (fa1 (tri_getI 6 4 15) (fa1 (tri_istore 8 4) (fa1 (tri_iload 10 4) (fa1 (tri_ifle 13 50) (fa1 (tri_iload 15 4) (fa1 (tri_push 18 (.inl 250)) (fa1 (tri_cmpge 21 50) (fa1 (tri_iload 22 3) (fa1 (tri_push 24 (.inl 20)) (fa1 (tri_cmpge 27 50) (fa1 (tri_aload 28 0) (fa1 (tri_getR 31 4 20 (fun _ => 268)) (fa1 (tri_iload 32 3) (fa1 (tri_iload 34 4) (fa1 (tri_ast 35 20 lnC id) (fa1 (tri_iinc 38 3 (1)) (fa1 (tri_aload 39 0) (fa1 (tri_getR 42 4 20 (fun _ => 261)) (fa1 (tri_iload 44 4) (fa1 (tri_ald 45 20 lnC) (fa1 (tri_istore 47 4) (fa1 (tri_goto 8) (fa1 (tri_aload 51 2) (fa1 (tri_iload 52 1) (fa1 (tri_callV 55 2 (rcv 1) f_X1_begin) (fa1 (tri_iload 56 3) (fa1 (tri_push 57 (.inl 1)) (fa1 (tri_bin 58 (fun x y => wr (x - y))) (fa1 (tri_istore 60 5) (fa1 (tri_iload 62 5) (fa1 (tri_iflt 65 106) (fa1 (tri_aload 66 0) (fa1 (tri_getR 69 4 20 (fun _ => 268)) (fa1 (tri_iload 71 5) (fa1 (tri_ald 72 20 lnC) (fa1 (tri_istore 74 6) (fa1 (tri_aload 75 2) (fa1 (tri_aload 76 0) (fa1 (tri_getR 79 4 20 (fun _ => 262)) (fa1 (tri_iload 81 6) (fa1 (tri_ald 82 20 lnC) (fa1 (tri_aload 83 0) (fa1 (tri_getR 86 4 20 (fun _ => 263)) (fa1 (tri_iload 88 6) (fa1 (tri_ald 89 20 lnC) (fa1 (tri_aload 90 0) (fa1 (tri_getR 93 4 20 (fun _ => 264)) (fa1 (tri_iload 95 6) (fa1 (tri_ald 96 20 lnC) (fa1 (tri_callI 99 4 (rcv 1) f_X1_go) (fa1 (tri_pop 100) (fa1 (tri_iinc 103 5 (-1)) (fa1 (tri_goto 60) (fa1 (tri_vret) (fa0))))))))))))))))))))))))))))))))))))))))))))))))))))))))))
set_option maxRecDepth 100000 in
set_option maxHeartbeats 4000000 in
theorem ks_X4_layOut (G : Wp) (l : Launch) : ∀ e ∈ k_X4_layOut, Snd loC G l RX4 cX4_layOut 7 none rm_X4_layOut e.1 e.2 :=
  fa1 (s_iconst (n := 0) (v := 0) (by decide +kernel) (by decide +kernel) (p32 rfl)) <|
  fa1 (s_istore_n (kf := 3) (j := 3) (by decide +kernel) rfl (by decide)) <|
  fa1 (s_aload_n (kf := 0) (j := 0) (by decide +kernel) rfl) <|
  fa1 (s_getI (ci := 4) (f := 15) (idx := 71) (C := RX4) (T := TX4) (NF := 18) (by decide +kernel) rfl (by decide) inG_X4 (by decide) w_425 li_X4_15) <|
  fa1 (s_istore (j := 4) (by decide +kernel) (by decide)) <|
  fa1 (s_iload (j := 4) (by decide +kernel)) <|
  fa1 (s_ifle (off := 40) (by decide +kernel) (by decide)) <|
  fa1 (s_iload (j := 4) (by decide +kernel)) <|
  fa1 (s_sipush (n := 250) (v := 250) (by decide +kernel) (by decide +kernel) (p32 rfl)) <|
  fa1 (s_cmpge (off := 32) (by decide +kernel) (by decide)) <|
  fa1 (s_iload_n (kf := 3) (j := 3) (by decide +kernel) rfl) <|
  fa1 (s_bipush (n := 20) (v := 20) (by decide +kernel) (by decide +kernel) (p32 rfl)) <|
  fa1 (s_cmpge (off := 26) (by decide +kernel) (by decide)) <|
  fa1 (s_aload_n (kf := 0) (j := 0) (by decide +kernel) rfl) <|
  fa1 (s_getR (t2 := 20) (g := (fun _ => 268)) (ci := 4) (f := 11) (idx := 39) (C := RX4) (T := TX4) (NF := 18) (by decide +kernel) rfl (by decide) inG_X4 (by decide) w_421 lr_X4_11 (by decide)) <|
  fa1 (s_iload_n (kf := 3) (j := 3) (by decide +kernel) rfl) <|
  fa1 (s_iload (j := 4) (by decide +kernel)) <|
  fa1 (s_iast (by decide +kernel) lt_loC_20) <|
  fa1 (s_iinc (j := 3) (d := 1) (by decide +kernel) (by decide)) <|
  fa1 (s_aload_n (kf := 0) (j := 0) (by decide +kernel) rfl) <|
  fa1 (s_getR (t2 := 20) (g := (fun _ => 261)) (ci := 4) (f := 4) (idx := 17) (C := RX4) (T := TX4) (NF := 18) (by decide +kernel) rfl (by decide) inG_X4 (by decide) w_414 lr_X4_4 (by decide)) <|
  fa1 (s_iload (j := 4) (by decide +kernel)) <|
  fa1 (s_iald (by decide +kernel)) <|
  fa1 (s_istore (j := 4) (by decide +kernel) (by decide)) <|
  fa1 (s_goto (off := -39) (by decide +kernel) (by decide)) <|
  fa1 (s_aload_n (kf := 2) (j := 2) (by decide +kernel) rfl) <|
  fa1 (s_iload_n (kf := 1) (j := 1) (by decide +kernel) rfl) <|
  fa1 (s_vcallV (n := 1) (ci := 1) (C := RX1) (T := TX1) (NF := 9) (idx := 136) (y := yX1_begin) (by decide +kernel) (gg_X1_begin) rfl (by decide) yv_X1_begin (all5 w_1017 w_801 w_802 w_108 w_803) rfl rfl ⟨by decide, by decide⟩) <|
  fa1 (s_iload_n (kf := 3) (j := 3) (by decide +kernel) rfl) <|
  fa1 (s_iconst (n := 1) (v := 1) (by decide +kernel) (by decide +kernel) (p32 rfl)) <|
  fa1 (s_isub (by decide +kernel)) <|
  fa1 (s_istore (j := 5) (by decide +kernel) (by decide)) <|
  fa1 (s_iload (j := 5) (by decide +kernel)) <|
  fa1 (s_iflt (off := 44) (by decide +kernel) (by decide)) <|
  fa1 (s_aload_n (kf := 0) (j := 0) (by decide +kernel) rfl) <|
  fa1 (s_getR (t2 := 20) (g := (fun _ => 268)) (ci := 4) (f := 11) (idx := 39) (C := RX4) (T := TX4) (NF := 18) (by decide +kernel) rfl (by decide) inG_X4 (by decide) w_421 lr_X4_11 (by decide)) <|
  fa1 (s_iload (j := 5) (by decide +kernel)) <|
  fa1 (s_iald (by decide +kernel)) <|
  fa1 (s_istore (j := 6) (by decide +kernel) (by decide)) <|
  fa1 (s_aload_n (kf := 2) (j := 2) (by decide +kernel) rfl) <|
  fa1 (s_aload_n (kf := 0) (j := 0) (by decide +kernel) rfl) <|
  fa1 (s_getR (t2 := 20) (g := (fun _ => 262)) (ci := 4) (f := 5) (idx := 21) (C := RX4) (T := TX4) (NF := 18) (by decide +kernel) rfl (by decide) inG_X4 (by decide) w_415 lr_X4_5 (by decide)) <|
  fa1 (s_iload (j := 6) (by decide +kernel)) <|
  fa1 (s_iald (by decide +kernel)) <|
  fa1 (s_aload_n (kf := 0) (j := 0) (by decide +kernel) rfl) <|
  fa1 (s_getR (t2 := 20) (g := (fun _ => 263)) (ci := 4) (f := 6) (idx := 24) (C := RX4) (T := TX4) (NF := 18) (by decide +kernel) rfl (by decide) inG_X4 (by decide) w_416 lr_X4_6 (by decide)) <|
  fa1 (s_iload (j := 6) (by decide +kernel)) <|
  fa1 (s_iald (by decide +kernel)) <|
  fa1 (s_aload_n (kf := 0) (j := 0) (by decide +kernel) rfl) <|
  fa1 (s_getR (t2 := 20) (g := (fun _ => 264)) (ci := 4) (f := 7) (idx := 27) (C := RX4) (T := TX4) (NF := 18) (by decide +kernel) rfl (by decide) inG_X4 (by decide) w_417 lr_X4_7 (by decide)) <|
  fa1 (s_iload (j := 6) (by decide +kernel)) <|
  fa1 (s_iald (by decide +kernel)) <|
  fa1 (s_vcallI (n := 3) (ci := 1) (C := RX1) (T := TX1) (NF := 9) (idx := 141) (y := yX1_go) (by decide +kernel) (gg_X1_go) rfl (by decide) yv_X1_go (all5 w_1018 w_819 w_820 w_108 w_821) rfl rfl ⟨by decide, by decide⟩) <|
  fa1 (s_pop (by decide +kernel)) <|
  fa1 (s_iinc (j := 5) (d := -1) (by decide +kernel) (by decide)) <|
  fa1 (s_goto (off := -43) (by decide +kernel) (by decide)) <|
  fa1 (s_vret (by decide +kernel) rfl) <| fa0
theorem gg_X4_layOut {G : Wp} {l : Launch} : GoodM loC G l yX4_layOut cX4_layOut 7 none rm_X4_layOut f_X4_layOut := met_of kt_X4_layOut (lkp_snd (ks_X4_layOut G l)) (by decide +kernel) rfl (by decide)
noncomputable def k_X5_isSheet : List (Nat × Ins) := [
  (0, i_iload 1 1),
  (1, i_iflt 4 13),
  (4, i_iload 5 1),
  (5, i_push 6 (.inl 4)),
  (6, i_cmpge 9 13),
  (9, i_push 10 (.inl 1)),
  (10, i_goto 14),
  (13, i_push 14 (.inl 0)),
  (14, i_zret)]
noncomputable def kc_X5_isSheet : Nat → Option Ins := lkp k_X5_isSheet
noncomputable def f_X5_isSheet : List AV → Mem → Option Rs := den 2 kc_X5_isSheet
abbrev rm_X5_isSheet : Room := { frames := 0, cells := 0, slots := 0, locals := 0 }
set_option maxRecDepth 100000 in
theorem kt_X5_isSheet : TriC kc_X5_isSheet := lkp_tri (fa1 (tri_iload 1 1) (fa1 (tri_iflt 4 13) (fa1 (tri_iload 5 1) (fa1 (tri_push 6 (.inl 4)) (fa1 (tri_cmpge 9 13) (fa1 (tri_push 10 (.inl 1)) (fa1 (tri_goto 14) (fa1 (tri_push 14 (.inl 0)) (fa1 (tri_zret) (fa0))))))))))
set_option maxRecDepth 100000 in
set_option maxHeartbeats 4000000 in
theorem ks_X5_isSheet (G : Wp) (l : Launch) : ∀ e ∈ k_X5_isSheet, Snd loC G l RX5 cX5_isSheet 2 (some .boolean) rm_X5_isSheet e.1 e.2 :=
  fa1 (s_iload_n (kf := 1) (j := 1) (by decide +kernel) rfl) <|
  fa1 (s_iflt (off := 12) (by decide +kernel) (by decide)) <|
  fa1 (s_iload_n (kf := 1) (j := 1) (by decide +kernel) rfl) <|
  fa1 (s_iconst (n := 4) (v := 4) (by decide +kernel) (by decide +kernel) (p32 rfl)) <|
  fa1 (s_cmpge (off := 7) (by decide +kernel) (by decide)) <|
  fa1 (s_iconst (n := 1) (v := 1) (by decide +kernel) (by decide +kernel) (p32 rfl)) <|
  fa1 (s_goto (off := 4) (by decide +kernel) (by decide)) <|
  fa1 (s_iconst (n := 0) (v := 0) (by decide +kernel) (by decide +kernel) (p32 rfl)) <|
  fa1 (s_zret (by decide +kernel) rfl) <| fa0
theorem gg_X5_isSheet {G : Wp} {l : Launch} : GoodM loC G l yX5_isSheet cX5_isSheet 2 (some .boolean) rm_X5_isSheet f_X5_isSheet := met_of kt_X5_isSheet (lkp_snd (ks_X5_isSheet G l)) (by decide +kernel) rfl (by decide)
noncomputable def k_X5_isLane : List (Nat × Ins) := [
  (0, i_iload 1 1),
  (1, i_iflt 4 13),
  (4, i_iload 5 1),
  (5, i_push 6 (.inl 2)),
  (6, i_cmpgt 9 13),
  (9, i_push 10 (.inl 1)),
  (10, i_goto 14),
  (13, i_push 14 (.inl 0)),
  (14, i_zret)]
noncomputable def kc_X5_isLane : Nat → Option Ins := lkp k_X5_isLane
noncomputable def f_X5_isLane : List AV → Mem → Option Rs := den 2 kc_X5_isLane
abbrev rm_X5_isLane : Room := { frames := 0, cells := 0, slots := 0, locals := 0 }
set_option maxRecDepth 100000 in
theorem kt_X5_isLane : TriC kc_X5_isLane := lkp_tri (fa1 (tri_iload 1 1) (fa1 (tri_iflt 4 13) (fa1 (tri_iload 5 1) (fa1 (tri_push 6 (.inl 2)) (fa1 (tri_cmpgt 9 13) (fa1 (tri_push 10 (.inl 1)) (fa1 (tri_goto 14) (fa1 (tri_push 14 (.inl 0)) (fa1 (tri_zret) (fa0))))))))))
set_option maxRecDepth 100000 in
set_option maxHeartbeats 4000000 in
theorem ks_X5_isLane (G : Wp) (l : Launch) : ∀ e ∈ k_X5_isLane, Snd loC G l RX5 cX5_isLane 2 (some .boolean) rm_X5_isLane e.1 e.2 :=
  fa1 (s_iload_n (kf := 1) (j := 1) (by decide +kernel) rfl) <|
  fa1 (s_iflt (off := 12) (by decide +kernel) (by decide)) <|
  fa1 (s_iload_n (kf := 1) (j := 1) (by decide +kernel) rfl) <|
  fa1 (s_iconst (n := 2) (v := 2) (by decide +kernel) (by decide +kernel) (p32 rfl)) <|
  fa1 (s_cmpgt (off := 7) (by decide +kernel) (by decide)) <|
  fa1 (s_iconst (n := 1) (v := 1) (by decide +kernel) (by decide +kernel) (p32 rfl)) <|
  fa1 (s_goto (off := 4) (by decide +kernel) (by decide)) <|
  fa1 (s_iconst (n := 0) (v := 0) (by decide +kernel) (by decide +kernel) (p32 rfl)) <|
  fa1 (s_zret (by decide +kernel) rfl) <| fa0
theorem gg_X5_isLane {G : Wp} {l : Launch} : GoodM loC G l yX5_isLane cX5_isLane 2 (some .boolean) rm_X5_isLane f_X5_isLane := met_of kt_X5_isLane (lkp_snd (ks_X5_isLane G l)) (by decide +kernel) rfl (by decide)
noncomputable def k_X5_cellsOf : List (Nat × Ins) := [
  (0, i_aload 1 0),
  (1, i_iload 2 1),
  (2, i_callI 5 2 (rcv 5) f_X5_isSheet),
  (5, i_ifeq 8 17),
  (8, i_aload 9 0),
  (9, i_getR 12 5 20 (fun _ => 803)),
  (12, i_iload 13 1),
  (13, i_ald 14 20 lnC),
  (14, i_goto 19),
  (17, i_push 19 (.inl (-4))),
  (19, i_iret)]
noncomputable def kc_X5_cellsOf : Nat → Option Ins := lkp k_X5_cellsOf
noncomputable def f_X5_cellsOf : List AV → Mem → Option Rs := den 2 kc_X5_cellsOf
abbrev rm_X5_cellsOf : Room := { frames := 1, cells := 0, slots := 0, locals := 21 }
set_option maxRecDepth 100000 in
theorem kt_X5_cellsOf : TriC kc_X5_cellsOf := lkp_tri (fa1 (tri_aload 1 0) (fa1 (tri_iload 2 1) (fa1 (tri_callI 5 2 (rcv 5) f_X5_isSheet) (fa1 (tri_ifeq 8 17) (fa1 (tri_aload 9 0) (fa1 (tri_getR 12 5 20 (fun _ => 803)) (fa1 (tri_iload 13 1) (fa1 (tri_ald 14 20 lnC) (fa1 (tri_goto 19) (fa1 (tri_push 19 (.inl (-4))) (fa1 (tri_iret) (fa0))))))))))))
set_option maxRecDepth 100000 in
set_option maxHeartbeats 4000000 in
theorem ks_X5_cellsOf (G : Wp) (l : Launch) : ∀ e ∈ k_X5_cellsOf, Snd loC G l RX5 cX5_cellsOf 2 (some .int) rm_X5_cellsOf e.1 e.2 :=
  fa1 (s_aload_n (kf := 0) (j := 0) (by decide +kernel) rfl) <|
  fa1 (s_iload_n (kf := 1) (j := 1) (by decide +kernel) rfl) <|
  fa1 (s_vcallI (n := 1) (ci := 5) (C := RX5) (T := TX5) (NF := 3) (idx := 23) (y := yX5_isSheet) (by decide +kernel) (gg_X5_isSheet) rfl (by decide) yv_X5_isSheet (all5 w_1194 w_1183 w_1184 w_112 w_1185) rfl rfl ⟨by decide, by decide⟩) <|
  fa1 (s_ifeq (off := 12) (by decide +kernel) (by decide)) <|
  fa1 (s_aload_n (kf := 0) (j := 0) (by decide +kernel) rfl) <|
  fa1 (s_getR (t2 := 20) (g := (fun _ => 803)) (ci := 5) (f := 2) (idx := 20) (C := RX5) (T := TX5) (NF := 3) (by decide +kernel) rfl (by decide) inG_X5 (by decide) w_550 lr_X5_2 (by decide)) <|
  fa1 (s_iload_n (kf := 1) (j := 1) (by decide +kernel) rfl) <|
  fa1 (s_iald (by decide +kernel)) <|
  fa1 (s_goto (off := 5) (by decide +kernel) (by decide)) <|
  fa1 (s_bipush (n := -4) (v := -4) (by decide +kernel) (by decide +kernel) (p32 rfl)) <|
  fa1 (s_iret (by decide +kernel) rfl) <| fa0
theorem gg_X5_cellsOf {G : Wp} {l : Launch} : GoodM loC G l yX5_cellsOf cX5_cellsOf 2 (some .int) rm_X5_cellsOf f_X5_cellsOf := met_of kt_X5_cellsOf (lkp_snd (ks_X5_cellsOf G l)) (by decide +kernel) rfl (by decide)
noncomputable def k_X5_renew : List (Nat × Ins) := [
  (0, i_aload 1 0),
  (1, i_iload 2 1),
  (2, i_callI 5 2 (rcv 5) f_X5_isSheet),
  (5, i_ifeq 8 18),
  (8, i_iload 9 3),
  (9, i_iflt 12 18),
  (12, i_iload 13 3),
  (13, i_push 15 (.inl 90)),
  (15, i_cmple 18 20),
  (18, i_push 19 (.inl (-1))),
  (19, i_iret),
  (20, i_aload 21 0),
  (21, i_getR 24 5 20 (fun _ => 802)),
  (24, i_iload 25 1),
  (25, i_iload 26 2),
  (26, i_ast 27 20 lnC id),
  (27, i_aload 28 0),
  (28, i_getR 31 5 20 (fun _ => 803)),
  (31, i_iload 32 1),
  (32, i_iload 33 3),
  (33, i_ast 34 20 lnC id),
  (34, i_push 35 (.inl 0)),
  (35, i_istore 37 4),
  (37, i_iload 39 4),
  (39, i_iload 40 3),
  (40, i_cmpge 43 59),
  (43, i_aload 44 0),
  (44, i_getR 47 5 26 (fun _ => 797)),
  (47, i_iload 48 1),
  (48, i_aldR 49 26 20 lnC (fun c i => c + 1 + i)),
  (49, i_iload 51 4),
  (51, i_push 52 (.inl 0)),
  (52, i_ast 53 20 lnC id),
  (53, i_iinc 56 4 (1)),
  (56, i_goto 37),
  (59, i_push 60 (.inl 1)),
  (60, i_iret)]
noncomputable def kc_X5_renew : Nat → Option Ins := lkp k_X5_renew
noncomputable def f_X5_renew : List AV → Mem → Option Rs := den 5 kc_X5_renew
abbrev rm_X5_renew : Room := { frames := 1, cells := 0, slots := 0, locals := 21 }
set_option maxRecDepth 100000 in
theorem kt_X5_renew : TriC kc_X5_renew := lkp_tri (fa1 (tri_aload 1 0) (fa1 (tri_iload 2 1) (fa1 (tri_callI 5 2 (rcv 5) f_X5_isSheet) (fa1 (tri_ifeq 8 18) (fa1 (tri_iload 9 3) (fa1 (tri_iflt 12 18) (fa1 (tri_iload 13 3) (fa1 (tri_push 15 (.inl 90)) (fa1 (tri_cmple 18 20) (fa1 (tri_push 19 (.inl (-1))) (fa1 (tri_iret) (fa1 (tri_aload 21 0) (fa1 (tri_getR 24 5 20 (fun _ => 802)) (fa1 (tri_iload 25 1) (fa1 (tri_iload 26 2) (fa1 (tri_ast 27 20 lnC id) (fa1 (tri_aload 28 0) (fa1 (tri_getR 31 5 20 (fun _ => 803)) (fa1 (tri_iload 32 1) (fa1 (tri_iload 33 3) (fa1 (tri_ast 34 20 lnC id) (fa1 (tri_push 35 (.inl 0)) (fa1 (tri_istore 37 4) (fa1 (tri_iload 39 4) (fa1 (tri_iload 40 3) (fa1 (tri_cmpge 43 59) (fa1 (tri_aload 44 0) (fa1 (tri_getR 47 5 26 (fun _ => 797)) (fa1 (tri_iload 48 1) (fa1 (tri_aldR 49 26 20 lnC (fun c i => c + 1 + i)) (fa1 (tri_iload 51 4) (fa1 (tri_push 52 (.inl 0)) (fa1 (tri_ast 53 20 lnC id) (fa1 (tri_iinc 56 4 (1)) (fa1 (tri_goto 37) (fa1 (tri_push 60 (.inl 1)) (fa1 (tri_iret) (fa0))))))))))))))))))))))))))))))))))))))
set_option maxRecDepth 100000 in
set_option maxHeartbeats 4000000 in
theorem ks_X5_renew (G : Wp) (l : Launch) : ∀ e ∈ k_X5_renew, Snd loC G l RX5 cX5_renew 5 (some .int) rm_X5_renew e.1 e.2 :=
  fa1 (s_aload_n (kf := 0) (j := 0) (by decide +kernel) rfl) <|
  fa1 (s_iload_n (kf := 1) (j := 1) (by decide +kernel) rfl) <|
  fa1 (s_vcallI (n := 1) (ci := 5) (C := RX5) (T := TX5) (NF := 3) (idx := 23) (y := yX5_isSheet) (by decide +kernel) (gg_X5_isSheet) rfl (by decide) yv_X5_isSheet (all5 w_1194 w_1183 w_1184 w_112 w_1185) rfl rfl ⟨by decide, by decide⟩) <|
  fa1 (s_ifeq (off := 13) (by decide +kernel) (by decide)) <|
  fa1 (s_iload_n (kf := 3) (j := 3) (by decide +kernel) rfl) <|
  fa1 (s_iflt (off := 9) (by decide +kernel) (by decide)) <|
  fa1 (s_iload_n (kf := 3) (j := 3) (by decide +kernel) rfl) <|
  fa1 (s_bipush (n := 90) (v := 90) (by decide +kernel) (by decide +kernel) (p32 rfl)) <|
  fa1 (s_cmple (off := 5) (by decide +kernel) (by decide)) <|
  fa1 (s_iconst (n := -1) (v := -1) (by decide +kernel) (by decide +kernel) (p32 rfl)) <|
  fa1 (s_iret (by decide +kernel) rfl) <|
  fa1 (s_aload_n (kf := 0) (j := 0) (by decide +kernel) rfl) <|
  fa1 (s_getR (t2 := 20) (g := (fun _ => 802)) (ci := 5) (f := 1) (idx := 16) (C := RX5) (T := TX5) (NF := 3) (by decide +kernel) rfl (by decide) inG_X5 (by decide) w_549 lr_X5_1 (by decide)) <|
  fa1 (s_iload_n (kf := 1) (j := 1) (by decide +kernel) rfl) <|
  fa1 (s_iload_n (kf := 2) (j := 2) (by decide +kernel) rfl) <|
  fa1 (s_iast (by decide +kernel) lt_loC_20) <|
  fa1 (s_aload_n (kf := 0) (j := 0) (by decide +kernel) rfl) <|
  fa1 (s_getR (t2 := 20) (g := (fun _ => 803)) (ci := 5) (f := 2) (idx := 20) (C := RX5) (T := TX5) (NF := 3) (by decide +kernel) rfl (by decide) inG_X5 (by decide) w_550 lr_X5_2 (by decide)) <|
  fa1 (s_iload_n (kf := 1) (j := 1) (by decide +kernel) rfl) <|
  fa1 (s_iload_n (kf := 3) (j := 3) (by decide +kernel) rfl) <|
  fa1 (s_iast (by decide +kernel) lt_loC_20) <|
  fa1 (s_iconst (n := 0) (v := 0) (by decide +kernel) (by decide +kernel) (p32 rfl)) <|
  fa1 (s_istore (j := 4) (by decide +kernel) (by decide)) <|
  fa1 (s_iload (j := 4) (by decide +kernel)) <|
  fa1 (s_iload_n (kf := 3) (j := 3) (by decide +kernel) rfl) <|
  fa1 (s_cmpge (off := 19) (by decide +kernel) (by decide)) <|
  fa1 (s_aload_n (kf := 0) (j := 0) (by decide +kernel) rfl) <|
  fa1 (s_getR (t2 := 26) (g := (fun _ => 797)) (ci := 5) (f := 0) (idx := 13) (C := RX5) (T := TX5) (NF := 3) (by decide +kernel) rfl (by decide) inG_X5 (by decide) w_548 lr_X5_0 (by decide)) <|
  fa1 (s_iload_n (kf := 1) (j := 1) (by decide +kernel) rfl) <|
  fa1 (s_aldR (t := 26) (t2 := 20) (g := (fun c i => c + 1 + i)) (by decide +kernel) (by decide) (by decide) rfl (by decide) le_26) <|
  fa1 (s_iload (j := 4) (by decide +kernel)) <|
  fa1 (s_iconst (n := 0) (v := 0) (by decide +kernel) (by decide +kernel) (p32 rfl)) <|
  fa1 (s_iast (by decide +kernel) lt_loC_20) <|
  fa1 (s_iinc (j := 4) (d := 1) (by decide +kernel) (by decide)) <|
  fa1 (s_goto (off := -19) (by decide +kernel) (by decide)) <|
  fa1 (s_iconst (n := 1) (v := 1) (by decide +kernel) (by decide +kernel) (p32 rfl)) <|
  fa1 (s_iret (by decide +kernel) rfl) <| fa0
theorem gg_X5_renew {G : Wp} {l : Launch} : GoodM loC G l yX5_renew cX5_renew 5 (some .int) rm_X5_renew f_X5_renew := met_of kt_X5_renew (lkp_snd (ks_X5_renew G l)) (by decide +kernel) rfl (by decide)
noncomputable def k_X5_lowest : List (Nat × Ins) := [
  (0, i_iload 1 1),
  (1, i_ifne 4 7),
  (4, i_iload 5 2),
  (5, i_un 6 wrB),
  (6, i_iret),
  (7, i_iload 8 1),
  (8, i_push 9 (.inl 1)),
  (9, i_cmpne 12 17),
  (12, i_iload 13 2),
  (13, i_un 14 wrS),
  (14, i_goto 18),
  (17, i_iload 18 2),
  (18, i_iret)]
noncomputable def kc_X5_lowest : Nat → Option Ins := lkp k_X5_lowest
noncomputable def f_X5_lowest : List AV → Mem → Option Rs := den 3 kc_X5_lowest
abbrev rm_X5_lowest : Room := { frames := 0, cells := 0, slots := 0, locals := 0 }
set_option maxRecDepth 100000 in
theorem kt_X5_lowest : TriC kc_X5_lowest := lkp_tri (fa1 (tri_iload 1 1) (fa1 (tri_ifne 4 7) (fa1 (tri_iload 5 2) (fa1 (tri_un 6 wrB) (fa1 (tri_iret) (fa1 (tri_iload 8 1) (fa1 (tri_push 9 (.inl 1)) (fa1 (tri_cmpne 12 17) (fa1 (tri_iload 13 2) (fa1 (tri_un 14 wrS) (fa1 (tri_goto 18) (fa1 (tri_iload 18 2) (fa1 (tri_iret) (fa0))))))))))))))
set_option maxRecDepth 100000 in
set_option maxHeartbeats 4000000 in
theorem ks_X5_lowest (G : Wp) (l : Launch) : ∀ e ∈ k_X5_lowest, Snd loC G l RX5 cX5_lowest 3 (some .int) rm_X5_lowest e.1 e.2 :=
  fa1 (s_iload_n (kf := 1) (j := 1) (by decide +kernel) rfl) <|
  fa1 (s_ifne (off := 6) (by decide +kernel) (by decide)) <|
  fa1 (s_iload_n (kf := 2) (j := 2) (by decide +kernel) rfl) <|
  fa1 (s_i2b (by decide +kernel)) <|
  fa1 (s_iret (by decide +kernel) rfl) <|
  fa1 (s_iload_n (kf := 1) (j := 1) (by decide +kernel) rfl) <|
  fa1 (s_iconst (n := 1) (v := 1) (by decide +kernel) (by decide +kernel) (p32 rfl)) <|
  fa1 (s_cmpne (off := 8) (by decide +kernel) (by decide)) <|
  fa1 (s_iload_n (kf := 2) (j := 2) (by decide +kernel) rfl) <|
  fa1 (s_i2s (by decide +kernel)) <|
  fa1 (s_goto (off := 4) (by decide +kernel) (by decide)) <|
  fa1 (s_iload_n (kf := 2) (j := 2) (by decide +kernel) rfl) <|
  fa1 (s_iret (by decide +kernel) rfl) <| fa0
theorem gg_X5_lowest {G : Wp} {l : Launch} : GoodM loC G l yX5_lowest cX5_lowest 3 (some .int) rm_X5_lowest f_X5_lowest := met_of kt_X5_lowest (lkp_snd (ks_X5_lowest G l)) (by decide +kernel) rfl (by decide)
noncomputable def k_X5_write : List (Nat × Ins) := [
  (0, i_aload 1 0),
  (1, i_iload 2 1),
  (2, i_callI 5 2 (rcv 5) f_X5_isSheet),
  (5, i_ifne 8 10),
  (8, i_push 9 (.inl (-1))),
  (9, i_iret),
  (10, i_aload 11 0),
  (11, i_getR 14 5 20 (fun _ => 803)),
  (14, i_iload 15 1),
  (15, i_ald 16 20 lnC),
  (16, i_ifge 19 22),
  (19, i_push 21 (.inl (-11))),
  (21, i_iret),
  (22, i_iload 23 2),
  (23, i_iflt 26 36),
  (26, i_iload 27 2),
  (27, i_aload 28 0),
  (28, i_getR 31 5 20 (fun _ => 803)),
  (31, i_iload 32 1),
  (32, i_ald 33 20 lnC),
  (33, i_cmplt 36 39),
  (36, i_push 38 (.inl (-12))),
  (38, i_iret),
  (39, i_aload 40 0),
  (40, i_getR 43 5 26 (fun _ => 797)),
  (43, i_iload 44 1),
  (44, i_aldR 45 26 20 lnC (fun c i => c + 1 + i)),
  (45, i_iload 46 2),
  (46, i_aload 47 0),
  (47, i_aload 48 0),
  (48, i_getR 51 5 20 (fun _ => 802)),
  (51, i_iload 52 1),
  (52, i_ald 53 20 lnC),
  (53, i_iload 54 3),
  (54, i_callI 57 3 (rcv 5) f_X5_lowest),
  (57, i_ast 58 20 lnC id),
  (58, i_push 59 (.inl 1)),
  (59, i_iret)]
noncomputable def kc_X5_write : Nat → Option Ins := lkp k_X5_write
noncomputable def f_X5_write : List AV → Mem → Option Rs := den 4 kc_X5_write
abbrev rm_X5_write : Room := { frames := 1, cells := 0, slots := 0, locals := 22 }
set_option maxRecDepth 100000 in
theorem kt_X5_write : TriC kc_X5_write := lkp_tri (fa1 (tri_aload 1 0) (fa1 (tri_iload 2 1) (fa1 (tri_callI 5 2 (rcv 5) f_X5_isSheet) (fa1 (tri_ifne 8 10) (fa1 (tri_push 9 (.inl (-1))) (fa1 (tri_iret) (fa1 (tri_aload 11 0) (fa1 (tri_getR 14 5 20 (fun _ => 803)) (fa1 (tri_iload 15 1) (fa1 (tri_ald 16 20 lnC) (fa1 (tri_ifge 19 22) (fa1 (tri_push 21 (.inl (-11))) (fa1 (tri_iret) (fa1 (tri_iload 23 2) (fa1 (tri_iflt 26 36) (fa1 (tri_iload 27 2) (fa1 (tri_aload 28 0) (fa1 (tri_getR 31 5 20 (fun _ => 803)) (fa1 (tri_iload 32 1) (fa1 (tri_ald 33 20 lnC) (fa1 (tri_cmplt 36 39) (fa1 (tri_push 38 (.inl (-12))) (fa1 (tri_iret) (fa1 (tri_aload 40 0) (fa1 (tri_getR 43 5 26 (fun _ => 797)) (fa1 (tri_iload 44 1) (fa1 (tri_aldR 45 26 20 lnC (fun c i => c + 1 + i)) (fa1 (tri_iload 46 2) (fa1 (tri_aload 47 0) (fa1 (tri_aload 48 0) (fa1 (tri_getR 51 5 20 (fun _ => 802)) (fa1 (tri_iload 52 1) (fa1 (tri_ald 53 20 lnC) (fa1 (tri_iload 54 3) (fa1 (tri_callI 57 3 (rcv 5) f_X5_lowest) (fa1 (tri_ast 58 20 lnC id) (fa1 (tri_push 59 (.inl 1)) (fa1 (tri_iret) (fa0)))))))))))))))))))))))))))))))))))))))
set_option maxRecDepth 100000 in
set_option maxHeartbeats 4000000 in
theorem ks_X5_write (G : Wp) (l : Launch) : ∀ e ∈ k_X5_write, Snd loC G l RX5 cX5_write 4 (some .int) rm_X5_write e.1 e.2 :=
  fa1 (s_aload_n (kf := 0) (j := 0) (by decide +kernel) rfl) <|
  fa1 (s_iload_n (kf := 1) (j := 1) (by decide +kernel) rfl) <|
  fa1 (s_vcallI (n := 1) (ci := 5) (C := RX5) (T := TX5) (NF := 3) (idx := 23) (y := yX5_isSheet) (by decide +kernel) (gg_X5_isSheet) rfl (by decide) yv_X5_isSheet (all5 w_1194 w_1183 w_1184 w_112 w_1185) rfl rfl ⟨by decide, by decide⟩) <|
  fa1 (s_ifne (off := 5) (by decide +kernel) (by decide)) <|
  fa1 (s_iconst (n := -1) (v := -1) (by decide +kernel) (by decide +kernel) (p32 rfl)) <|
  fa1 (s_iret (by decide +kernel) rfl) <|
  fa1 (s_aload_n (kf := 0) (j := 0) (by decide +kernel) rfl) <|
  fa1 (s_getR (t2 := 20) (g := (fun _ => 803)) (ci := 5) (f := 2) (idx := 20) (C := RX5) (T := TX5) (NF := 3) (by decide +kernel) rfl (by decide) inG_X5 (by decide) w_550 lr_X5_2 (by decide)) <|
  fa1 (s_iload_n (kf := 1) (j := 1) (by decide +kernel) rfl) <|
  fa1 (s_iald (by decide +kernel)) <|
  fa1 (s_ifge (off := 6) (by decide +kernel) (by decide)) <|
  fa1 (s_bipush (n := -11) (v := -11) (by decide +kernel) (by decide +kernel) (p32 rfl)) <|
  fa1 (s_iret (by decide +kernel) rfl) <|
  fa1 (s_iload_n (kf := 2) (j := 2) (by decide +kernel) rfl) <|
  fa1 (s_iflt (off := 13) (by decide +kernel) (by decide)) <|
  fa1 (s_iload_n (kf := 2) (j := 2) (by decide +kernel) rfl) <|
  fa1 (s_aload_n (kf := 0) (j := 0) (by decide +kernel) rfl) <|
  fa1 (s_getR (t2 := 20) (g := (fun _ => 803)) (ci := 5) (f := 2) (idx := 20) (C := RX5) (T := TX5) (NF := 3) (by decide +kernel) rfl (by decide) inG_X5 (by decide) w_550 lr_X5_2 (by decide)) <|
  fa1 (s_iload_n (kf := 1) (j := 1) (by decide +kernel) rfl) <|
  fa1 (s_iald (by decide +kernel)) <|
  fa1 (s_cmplt (off := 6) (by decide +kernel) (by decide)) <|
  fa1 (s_bipush (n := -12) (v := -12) (by decide +kernel) (by decide +kernel) (p32 rfl)) <|
  fa1 (s_iret (by decide +kernel) rfl) <|
  fa1 (s_aload_n (kf := 0) (j := 0) (by decide +kernel) rfl) <|
  fa1 (s_getR (t2 := 26) (g := (fun _ => 797)) (ci := 5) (f := 0) (idx := 13) (C := RX5) (T := TX5) (NF := 3) (by decide +kernel) rfl (by decide) inG_X5 (by decide) w_548 lr_X5_0 (by decide)) <|
  fa1 (s_iload_n (kf := 1) (j := 1) (by decide +kernel) rfl) <|
  fa1 (s_aldR (t := 26) (t2 := 20) (g := (fun c i => c + 1 + i)) (by decide +kernel) (by decide) (by decide) rfl (by decide) le_26) <|
  fa1 (s_iload_n (kf := 2) (j := 2) (by decide +kernel) rfl) <|
  fa1 (s_aload_n (kf := 0) (j := 0) (by decide +kernel) rfl) <|
  fa1 (s_aload_n (kf := 0) (j := 0) (by decide +kernel) rfl) <|
  fa1 (s_getR (t2 := 20) (g := (fun _ => 802)) (ci := 5) (f := 1) (idx := 16) (C := RX5) (T := TX5) (NF := 3) (by decide +kernel) rfl (by decide) inG_X5 (by decide) w_549 lr_X5_1 (by decide)) <|
  fa1 (s_iload_n (kf := 1) (j := 1) (by decide +kernel) rfl) <|
  fa1 (s_iald (by decide +kernel)) <|
  fa1 (s_iload_n (kf := 3) (j := 3) (by decide +kernel) rfl) <|
  fa1 (s_vcallI (n := 2) (ci := 5) (C := RX5) (T := TX5) (NF := 3) (idx := 27) (y := yX5_lowest) (by decide +kernel) (gg_X5_lowest) rfl (by decide) yv_X5_lowest (all5 w_1203 w_1205 w_41 w_112 w_1206) rfl rfl ⟨by decide, by decide⟩) <|
  fa1 (s_iast (by decide +kernel) lt_loC_20) <|
  fa1 (s_iconst (n := 1) (v := 1) (by decide +kernel) (by decide +kernel) (p32 rfl)) <|
  fa1 (s_iret (by decide +kernel) rfl) <| fa0
theorem gg_X5_write {G : Wp} {l : Launch} : GoodM loC G l yX5_write cX5_write 4 (some .int) rm_X5_write f_X5_write := met_of kt_X5_write (lkp_snd (ks_X5_write G l)) (by decide +kernel) rfl (by decide)
noncomputable def k_X5_cell : List (Nat × Ins) := [
  (0, i_aload 1 0),
  (1, i_iload 2 1),
  (2, i_callI 5 2 (rcv 5) f_X5_isSheet),
  (5, i_ifeq 8 33),
  (8, i_iload 9 2),
  (9, i_iflt 12 33),
  (12, i_iload 13 2),
  (13, i_aload 14 0),
  (14, i_getR 17 5 20 (fun _ => 803)),
  (17, i_iload 18 1),
  (18, i_ald 19 20 lnC),
  (19, i_cmpge 22 33),
  (22, i_aload 23 0),
  (23, i_getR 26 5 26 (fun _ => 797)),
  (26, i_iload 27 1),
  (27, i_aldR 28 26 20 lnC (fun c i => c + 1 + i)),
  (28, i_iload 29 2),
  (29, i_ald 30 20 lnC),
  (30, i_goto 35),
  (33, i_push 35 (.inl (-4))),
  (35, i_iret)]
noncomputable def kc_X5_cell : Nat → Option Ins := lkp k_X5_cell
noncomputable def f_X5_cell : List AV → Mem → Option Rs := den 3 kc_X5_cell
abbrev rm_X5_cell : Room := { frames := 1, cells := 0, slots := 0, locals := 21 }
set_option maxRecDepth 100000 in
theorem kt_X5_cell : TriC kc_X5_cell := lkp_tri (fa1 (tri_aload 1 0) (fa1 (tri_iload 2 1) (fa1 (tri_callI 5 2 (rcv 5) f_X5_isSheet) (fa1 (tri_ifeq 8 33) (fa1 (tri_iload 9 2) (fa1 (tri_iflt 12 33) (fa1 (tri_iload 13 2) (fa1 (tri_aload 14 0) (fa1 (tri_getR 17 5 20 (fun _ => 803)) (fa1 (tri_iload 18 1) (fa1 (tri_ald 19 20 lnC) (fa1 (tri_cmpge 22 33) (fa1 (tri_aload 23 0) (fa1 (tri_getR 26 5 26 (fun _ => 797)) (fa1 (tri_iload 27 1) (fa1 (tri_aldR 28 26 20 lnC (fun c i => c + 1 + i)) (fa1 (tri_iload 29 2) (fa1 (tri_ald 30 20 lnC) (fa1 (tri_goto 35) (fa1 (tri_push 35 (.inl (-4))) (fa1 (tri_iret) (fa0))))))))))))))))))))))
set_option maxRecDepth 100000 in
set_option maxHeartbeats 4000000 in
theorem ks_X5_cell (G : Wp) (l : Launch) : ∀ e ∈ k_X5_cell, Snd loC G l RX5 cX5_cell 3 (some .int) rm_X5_cell e.1 e.2 :=
  fa1 (s_aload_n (kf := 0) (j := 0) (by decide +kernel) rfl) <|
  fa1 (s_iload_n (kf := 1) (j := 1) (by decide +kernel) rfl) <|
  fa1 (s_vcallI (n := 1) (ci := 5) (C := RX5) (T := TX5) (NF := 3) (idx := 23) (y := yX5_isSheet) (by decide +kernel) (gg_X5_isSheet) rfl (by decide) yv_X5_isSheet (all5 w_1194 w_1183 w_1184 w_112 w_1185) rfl rfl ⟨by decide, by decide⟩) <|
  fa1 (s_ifeq (off := 28) (by decide +kernel) (by decide)) <|
  fa1 (s_iload_n (kf := 2) (j := 2) (by decide +kernel) rfl) <|
  fa1 (s_iflt (off := 24) (by decide +kernel) (by decide)) <|
  fa1 (s_iload_n (kf := 2) (j := 2) (by decide +kernel) rfl) <|
  fa1 (s_aload_n (kf := 0) (j := 0) (by decide +kernel) rfl) <|
  fa1 (s_getR (t2 := 20) (g := (fun _ => 803)) (ci := 5) (f := 2) (idx := 20) (C := RX5) (T := TX5) (NF := 3) (by decide +kernel) rfl (by decide) inG_X5 (by decide) w_550 lr_X5_2 (by decide)) <|
  fa1 (s_iload_n (kf := 1) (j := 1) (by decide +kernel) rfl) <|
  fa1 (s_iald (by decide +kernel)) <|
  fa1 (s_cmpge (off := 14) (by decide +kernel) (by decide)) <|
  fa1 (s_aload_n (kf := 0) (j := 0) (by decide +kernel) rfl) <|
  fa1 (s_getR (t2 := 26) (g := (fun _ => 797)) (ci := 5) (f := 0) (idx := 13) (C := RX5) (T := TX5) (NF := 3) (by decide +kernel) rfl (by decide) inG_X5 (by decide) w_548 lr_X5_0 (by decide)) <|
  fa1 (s_iload_n (kf := 1) (j := 1) (by decide +kernel) rfl) <|
  fa1 (s_aldR (t := 26) (t2 := 20) (g := (fun c i => c + 1 + i)) (by decide +kernel) (by decide) (by decide) rfl (by decide) le_26) <|
  fa1 (s_iload_n (kf := 2) (j := 2) (by decide +kernel) rfl) <|
  fa1 (s_iald (by decide +kernel)) <|
  fa1 (s_goto (off := 5) (by decide +kernel) (by decide)) <|
  fa1 (s_bipush (n := -4) (v := -4) (by decide +kernel) (by decide +kernel) (p32 rfl)) <|
  fa1 (s_iret (by decide +kernel) rfl) <| fa0
theorem gg_X5_cell {G : Wp} {l : Launch} : GoodM loC G l yX5_cell cX5_cell 3 (some .int) rm_X5_cell f_X5_cell := met_of kt_X5_cell (lkp_snd (ks_X5_cell G l)) (by decide +kernel) rfl (by decide)
noncomputable def k_X5_faultOf : List (Nat × Ins) := [
  (0, i_aload 1 0),
  (1, i_iload 2 1),
  (2, i_callI 5 2 (rcv 5) f_X5_cellsOf),
  (5, i_ifge 8 10),
  (8, i_push 9 (.inl 1)),
  (9, i_iret),
  (10, i_aload 11 0),
  (11, i_getR 14 5 20 (fun _ => 802)),
  (14, i_iload 15 1),
  (15, i_ald 16 20 lnC),
  (16, i_iload 17 2),
  (17, i_cmpeq 20 22),
  (20, i_push 21 (.inl 3)),
  (21, i_iret),
  (22, i_iload 24 4),
  (24, i_ifeq 27 44),
  (27, i_iload 28 3),
  (28, i_iflt 31 48),
  (31, i_iload 32 3),
  (32, i_aload 33 0),
  (33, i_getR 36 5 20 (fun _ => 803)),
  (36, i_iload 37 1),
  (37, i_ald 38 20 lnC),
  (38, i_iload 40 4),
  (40, i_bin 41 (fun x y => wr (x - y))),
  (41, i_cmpgt 44 48),
  (44, i_push 45 (.inl 1)),
  (45, i_goto 49),
  (48, i_push 49 (.inl 0)),
  (49, i_istore 51 5),
  (51, i_iload 53 5),
  (53, i_ifeq 56 60),
  (56, i_push 57 (.inl 0)),
  (57, i_goto 61),
  (60, i_push 61 (.inl 2)),
  (61, i_iret)]
noncomputable def kc_X5_faultOf : Nat → Option Ins := lkp k_X5_faultOf
noncomputable def f_X5_faultOf : List AV → Mem → Option Rs := den 6 kc_X5_faultOf
abbrev rm_X5_faultOf : Room := { frames := 2, cells := 0, slots := 0, locals := 42 }
set_option maxRecDepth 100000 in
theorem kt_X5_faultOf : TriC kc_X5_faultOf := lkp_tri (fa1 (tri_aload 1 0) (fa1 (tri_iload 2 1) (fa1 (tri_callI 5 2 (rcv 5) f_X5_cellsOf) (fa1 (tri_ifge 8 10) (fa1 (tri_push 9 (.inl 1)) (fa1 (tri_iret) (fa1 (tri_aload 11 0) (fa1 (tri_getR 14 5 20 (fun _ => 802)) (fa1 (tri_iload 15 1) (fa1 (tri_ald 16 20 lnC) (fa1 (tri_iload 17 2) (fa1 (tri_cmpeq 20 22) (fa1 (tri_push 21 (.inl 3)) (fa1 (tri_iret) (fa1 (tri_iload 24 4) (fa1 (tri_ifeq 27 44) (fa1 (tri_iload 28 3) (fa1 (tri_iflt 31 48) (fa1 (tri_iload 32 3) (fa1 (tri_aload 33 0) (fa1 (tri_getR 36 5 20 (fun _ => 803)) (fa1 (tri_iload 37 1) (fa1 (tri_ald 38 20 lnC) (fa1 (tri_iload 40 4) (fa1 (tri_bin 41 (fun x y => wr (x - y))) (fa1 (tri_cmpgt 44 48) (fa1 (tri_push 45 (.inl 1)) (fa1 (tri_goto 49) (fa1 (tri_push 49 (.inl 0)) (fa1 (tri_istore 51 5) (fa1 (tri_iload 53 5) (fa1 (tri_ifeq 56 60) (fa1 (tri_push 57 (.inl 0)) (fa1 (tri_goto 61) (fa1 (tri_push 61 (.inl 2)) (fa1 (tri_iret) (fa0)))))))))))))))))))))))))))))))))))))
set_option maxRecDepth 100000 in
set_option maxHeartbeats 4000000 in
theorem ks_X5_faultOf (G : Wp) (l : Launch) : ∀ e ∈ k_X5_faultOf, Snd loC G l RX5 cX5_faultOf 6 (some .int) rm_X5_faultOf e.1 e.2 :=
  fa1 (s_aload_n (kf := 0) (j := 0) (by decide +kernel) rfl) <|
  fa1 (s_iload_n (kf := 1) (j := 1) (by decide +kernel) rfl) <|
  fa1 (s_vcallI (n := 1) (ci := 5) (C := RX5) (T := TX5) (NF := 3) (idx := 31) (y := yX5_cellsOf) (by decide +kernel) (gg_X5_cellsOf) rfl (by decide) yv_X5_cellsOf (all5 w_1215 w_1216 w_1217 w_112 w_1218) rfl rfl ⟨by decide, by decide⟩) <|
  fa1 (s_ifge (off := 5) (by decide +kernel) (by decide)) <|
  fa1 (s_iconst (n := 1) (v := 1) (by decide +kernel) (by decide +kernel) (p32 rfl)) <|
  fa1 (s_iret (by decide +kernel) rfl) <|
  fa1 (s_aload_n (kf := 0) (j := 0) (by decide +kernel) rfl) <|
  fa1 (s_getR (t2 := 20) (g := (fun _ => 802)) (ci := 5) (f := 1) (idx := 16) (C := RX5) (T := TX5) (NF := 3) (by decide +kernel) rfl (by decide) inG_X5 (by decide) w_549 lr_X5_1 (by decide)) <|
  fa1 (s_iload_n (kf := 1) (j := 1) (by decide +kernel) rfl) <|
  fa1 (s_iald (by decide +kernel)) <|
  fa1 (s_iload_n (kf := 2) (j := 2) (by decide +kernel) rfl) <|
  fa1 (s_cmpeq (off := 5) (by decide +kernel) (by decide)) <|
  fa1 (s_iconst (n := 3) (v := 3) (by decide +kernel) (by decide +kernel) (p32 rfl)) <|
  fa1 (s_iret (by decide +kernel) rfl) <|
  fa1 (s_iload (j := 4) (by decide +kernel)) <|
  fa1 (s_ifeq (off := 20) (by decide +kernel) (by decide)) <|
  fa1 (s_iload_n (kf := 3) (j := 3) (by decide +kernel) rfl) <|
  fa1 (s_iflt (off := 20) (by decide +kernel) (by decide)) <|
  fa1 (s_iload_n (kf := 3) (j := 3) (by decide +kernel) rfl) <|
  fa1 (s_aload_n (kf := 0) (j := 0) (by decide +kernel) rfl) <|
  fa1 (s_getR (t2 := 20) (g := (fun _ => 803)) (ci := 5) (f := 2) (idx := 20) (C := RX5) (T := TX5) (NF := 3) (by decide +kernel) rfl (by decide) inG_X5 (by decide) w_550 lr_X5_2 (by decide)) <|
  fa1 (s_iload_n (kf := 1) (j := 1) (by decide +kernel) rfl) <|
  fa1 (s_iald (by decide +kernel)) <|
  fa1 (s_iload (j := 4) (by decide +kernel)) <|
  fa1 (s_isub (by decide +kernel)) <|
  fa1 (s_cmpgt (off := 7) (by decide +kernel) (by decide)) <|
  fa1 (s_iconst (n := 1) (v := 1) (by decide +kernel) (by decide +kernel) (p32 rfl)) <|
  fa1 (s_goto (off := 4) (by decide +kernel) (by decide)) <|
  fa1 (s_iconst (n := 0) (v := 0) (by decide +kernel) (by decide +kernel) (p32 rfl)) <|
  fa1 (s_istore (j := 5) (by decide +kernel) (by decide)) <|
  fa1 (s_iload (j := 5) (by decide +kernel)) <|
  fa1 (s_ifeq (off := 7) (by decide +kernel) (by decide)) <|
  fa1 (s_iconst (n := 0) (v := 0) (by decide +kernel) (by decide +kernel) (p32 rfl)) <|
  fa1 (s_goto (off := 4) (by decide +kernel) (by decide)) <|
  fa1 (s_iconst (n := 2) (v := 2) (by decide +kernel) (by decide +kernel) (p32 rfl)) <|
  fa1 (s_iret (by decide +kernel) rfl) <| fa0
theorem gg_X5_faultOf {G : Wp} {l : Launch} : GoodM loC G l yX5_faultOf cX5_faultOf 6 (some .int) rm_X5_faultOf f_X5_faultOf := met_of kt_X5_faultOf (lkp_snd (ks_X5_faultOf G l)) (by decide +kernel) rfl (by decide)
noncomputable def k_X7_append : List (Nat × Ins) := [
  (0, i_aload 1 0),
  (1, i_getI 4 7 8),
  (4, i_push 7 (.inl 232)),
  (7, i_cmple 10 12),
  (10, i_push 11 (.inl 0)),
  (11, i_zret),
  (12, i_push 13 (.inl 0)),
  (13, i_istore 14 3),
  (14, i_iload 15 3),
  (15, i_push 17 (.inl 8)),
  (17, i_cmpge 20 56),
  (20, i_aload 21 0),
  (21, i_getR 24 7 21 (fun _ => 152)),
  (24, i_aload 25 0),
  (25, i_getI 28 7 8),
  (28, i_lload 29 1),
  (29, i_push 31 (.inl 56)),
  (31, i_push 33 (.inl 8)),
  (33, i_iload 34 3),
  (34, i_bin 35 (fun x y => wr (x * y))),
  (35, i_bin 36 (fun x y => wr (x - y))),
  (36, i_lsh 37 lShr),
  (37, i_l2i 38),
  (38, i_un 39 wrB),
  (39, i_ast 40 21 lnC wrB),
  (40, i_aload 41 0),
  (41, i_dup 42),
  (42, i_getI 45 7 8),
  (45, i_push 46 (.inl 1)),
  (46, i_bin 47 (fun x y => wr (x + y))),
  (47, i_putI 50 7 8),
  (50, i_iinc 53 3 (1)),
  (53, i_goto 14),
  (56, i_push 57 (.inl 1)),
  (57, i_zret)]
noncomputable def kc_X7_append : Nat → Option Ins := lkp k_X7_append
noncomputable def f_X7_append : List AV → Mem → Option Rs := den 4 kc_X7_append
abbrev rm_X7_append : Room := { frames := 0, cells := 0, slots := 0, locals := 0 }
set_option maxRecDepth 100000 in
theorem kt_X7_append : TriC kc_X7_append := lkp_tri (fa1 (tri_aload 1 0) (fa1 (tri_getI 4 7 8) (fa1 (tri_push 7 (.inl 232)) (fa1 (tri_cmple 10 12) (fa1 (tri_push 11 (.inl 0)) (fa1 (tri_zret) (fa1 (tri_push 13 (.inl 0)) (fa1 (tri_istore 14 3) (fa1 (tri_iload 15 3) (fa1 (tri_push 17 (.inl 8)) (fa1 (tri_cmpge 20 56) (fa1 (tri_aload 21 0) (fa1 (tri_getR 24 7 21 (fun _ => 152)) (fa1 (tri_aload 25 0) (fa1 (tri_getI 28 7 8) (fa1 (tri_lload 29 1) (fa1 (tri_push 31 (.inl 56)) (fa1 (tri_push 33 (.inl 8)) (fa1 (tri_iload 34 3) (fa1 (tri_bin 35 (fun x y => wr (x * y))) (fa1 (tri_bin 36 (fun x y => wr (x - y))) (fa1 (tri_lsh 37 lShr) (fa1 (tri_l2i 38) (fa1 (tri_un 39 wrB) (fa1 (tri_ast 40 21 lnC wrB) (fa1 (tri_aload 41 0) (fa1 (tri_dup 42) (fa1 (tri_getI 45 7 8) (fa1 (tri_push 46 (.inl 1)) (fa1 (tri_bin 47 (fun x y => wr (x + y))) (fa1 (tri_putI 50 7 8) (fa1 (tri_iinc 53 3 (1)) (fa1 (tri_goto 14) (fa1 (tri_push 57 (.inl 1)) (fa1 (tri_zret) (fa0))))))))))))))))))))))))))))))))))))
set_option maxRecDepth 100000 in
set_option maxHeartbeats 4000000 in
theorem ks_X7_append (G : Wp) (l : Launch) : ∀ e ∈ k_X7_append, Snd loC G l RX7 cX7_append 4 (some .boolean) rm_X7_append e.1 e.2 :=
  fa1 (s_aload_n (kf := 0) (j := 0) (by decide +kernel) rfl) <|
  fa1 (s_getI (ci := 7) (f := 8) (idx := 35) (C := RX7) (T := TX7) (NF := 10) (by decide +kernel) rfl (by decide) inG_X7 (by decide) w_306 li_X7_8) <|
  fa1 (s_sipush (n := 232) (v := 232) (by decide +kernel) (by decide +kernel) (p32 rfl)) <|
  fa1 (s_cmple (off := 5) (by decide +kernel) (by decide)) <|
  fa1 (s_iconst (n := 0) (v := 0) (by decide +kernel) (by decide +kernel) (p32 rfl)) <|
  fa1 (s_zret (by decide +kernel) rfl) <|
  fa1 (s_iconst (n := 0) (v := 0) (by decide +kernel) (by decide +kernel) (p32 rfl)) <|
  fa1 (s_istore_n (kf := 3) (j := 3) (by decide +kernel) rfl (by decide)) <|
  fa1 (s_iload_n (kf := 3) (j := 3) (by decide +kernel) rfl) <|
  fa1 (s_bipush (n := 8) (v := 8) (by decide +kernel) (by decide +kernel) (p32 rfl)) <|
  fa1 (s_cmpge (off := 39) (by decide +kernel) (by decide)) <|
  fa1 (s_aload_n (kf := 0) (j := 0) (by decide +kernel) rfl) <|
  fa1 (s_getR (t2 := 21) (g := (fun _ => 152)) (ci := 7) (f := 2) (idx := 11) (C := RX7) (T := TX7) (NF := 10) (by decide +kernel) rfl (by decide) inG_X7 (by decide) w_300 lr_X7_2 (by decide)) <|
  fa1 (s_aload_n (kf := 0) (j := 0) (by decide +kernel) rfl) <|
  fa1 (s_getI (ci := 7) (f := 8) (idx := 35) (C := RX7) (T := TX7) (NF := 10) (by decide +kernel) rfl (by decide) inG_X7 (by decide) w_306 li_X7_8) <|
  fa1 (s_lload_n (kf := 1) (j := 1) (by decide +kernel) rfl) <|
  fa1 (s_bipush (n := 56) (v := 56) (by decide +kernel) (by decide +kernel) (p32 rfl)) <|
  fa1 (s_bipush (n := 8) (v := 8) (by decide +kernel) (by decide +kernel) (p32 rfl)) <|
  fa1 (s_iload_n (kf := 3) (j := 3) (by decide +kernel) rfl) <|
  fa1 (s_imul (by decide +kernel)) <|
  fa1 (s_isub (by decide +kernel)) <|
  fa1 (s_lshr (by decide +kernel)) <|
  fa1 (s_l2i (by decide +kernel)) <|
  fa1 (s_i2b (by decide +kernel)) <|
  fa1 (s_bast (by decide +kernel) lt_loC_21) <|
  fa1 (s_aload_n (kf := 0) (j := 0) (by decide +kernel) rfl) <|
  fa1 (s_dup (by decide +kernel)) <|
  fa1 (s_getI (ci := 7) (f := 8) (idx := 35) (C := RX7) (T := TX7) (NF := 10) (by decide +kernel) rfl (by decide) inG_X7 (by decide) w_306 li_X7_8) <|
  fa1 (s_iconst (n := 1) (v := 1) (by decide +kernel) (by decide +kernel) (p32 rfl)) <|
  fa1 (s_iadd (by decide +kernel)) <|
  fa1 (s_putI (ci := 7) (f := 8) (idx := 35) (C := RX7) (T := TX7) (NF := 10) (by decide +kernel) rfl (by decide) inG_X7 (by decide) w_306 tyX7 tyX7_ok nmX7 rfl (by decide +kernel) li_X7_8) <|
  fa1 (s_iinc (j := 3) (d := 1) (by decide +kernel) (by decide)) <|
  fa1 (s_goto (off := -39) (by decide +kernel) (by decide)) <|
  fa1 (s_iconst (n := 1) (v := 1) (by decide +kernel) (by decide +kernel) (p32 rfl)) <|
  fa1 (s_zret (by decide +kernel) rfl) <| fa0
theorem gg_X7_append {G : Wp} {l : Launch} : GoodM loC G l yX7_append cX7_append 4 (some .boolean) rm_X7_append f_X7_append := met_of kt_X7_append (lkp_snd (ks_X7_append G l)) (by decide +kernel) rfl (by decide)
noncomputable def k_X7_byteAt : List (Nat × Ins) := [
  (0, i_iload 1 1),
  (1, i_iflt 4 21),
  (4, i_iload 5 1),
  (5, i_aload 6 0),
  (6, i_getI 9 7 8),
  (9, i_cmpge 12 21),
  (12, i_aload 13 0),
  (13, i_getR 16 7 21 (fun _ => 152)),
  (16, i_iload 17 1),
  (17, i_ald 18 21 lnC),
  (18, i_goto 22),
  (21, i_push 22 (.inl 0)),
  (22, i_iret)]
noncomputable def kc_X7_byteAt : Nat → Option Ins := lkp k_X7_byteAt
noncomputable def f_X7_byteAt : List AV → Mem → Option Rs := den 2 kc_X7_byteAt
abbrev rm_X7_byteAt : Room := { frames := 0, cells := 0, slots := 0, locals := 0 }
set_option maxRecDepth 100000 in
theorem kt_X7_byteAt : TriC kc_X7_byteAt := lkp_tri (fa1 (tri_iload 1 1) (fa1 (tri_iflt 4 21) (fa1 (tri_iload 5 1) (fa1 (tri_aload 6 0) (fa1 (tri_getI 9 7 8) (fa1 (tri_cmpge 12 21) (fa1 (tri_aload 13 0) (fa1 (tri_getR 16 7 21 (fun _ => 152)) (fa1 (tri_iload 17 1) (fa1 (tri_ald 18 21 lnC) (fa1 (tri_goto 22) (fa1 (tri_push 22 (.inl 0)) (fa1 (tri_iret) (fa0))))))))))))))
set_option maxRecDepth 100000 in
set_option maxHeartbeats 4000000 in
theorem ks_X7_byteAt (G : Wp) (l : Launch) : ∀ e ∈ k_X7_byteAt, Snd loC G l RX7 cX7_byteAt 2 (some .int) rm_X7_byteAt e.1 e.2 :=
  fa1 (s_iload_n (kf := 1) (j := 1) (by decide +kernel) rfl) <|
  fa1 (s_iflt (off := 20) (by decide +kernel) (by decide)) <|
  fa1 (s_iload_n (kf := 1) (j := 1) (by decide +kernel) rfl) <|
  fa1 (s_aload_n (kf := 0) (j := 0) (by decide +kernel) rfl) <|
  fa1 (s_getI (ci := 7) (f := 8) (idx := 35) (C := RX7) (T := TX7) (NF := 10) (by decide +kernel) rfl (by decide) inG_X7 (by decide) w_306 li_X7_8) <|
  fa1 (s_cmpge (off := 12) (by decide +kernel) (by decide)) <|
  fa1 (s_aload_n (kf := 0) (j := 0) (by decide +kernel) rfl) <|
  fa1 (s_getR (t2 := 21) (g := (fun _ => 152)) (ci := 7) (f := 2) (idx := 11) (C := RX7) (T := TX7) (NF := 10) (by decide +kernel) rfl (by decide) inG_X7 (by decide) w_300 lr_X7_2 (by decide)) <|
  fa1 (s_iload_n (kf := 1) (j := 1) (by decide +kernel) rfl) <|
  fa1 (s_bald (by decide +kernel)) <|
  fa1 (s_goto (off := 4) (by decide +kernel) (by decide)) <|
  fa1 (s_iconst (n := 0) (v := 0) (by decide +kernel) (by decide +kernel) (p32 rfl)) <|
  fa1 (s_iret (by decide +kernel) rfl) <| fa0
theorem gg_X7_byteAt {G : Wp} {l : Launch} : GoodM loC G l yX7_byteAt cX7_byteAt 2 (some .int) rm_X7_byteAt f_X7_byteAt := met_of kt_X7_byteAt (lkp_snd (ks_X7_byteAt G l)) (by decide +kernel) rfl (by decide)
noncomputable def k_X7_fails : List (Nat × Ins) := [
  (0, i_aload 1 0),
  (1, i_iload 2 1),
  (2, i_putI 5 7 9),
  (5, i_push 6 (.inl 0)),
  (6, i_zret)]
noncomputable def kc_X7_fails : Nat → Option Ins := lkp k_X7_fails
noncomputable def f_X7_fails : List AV → Mem → Option Rs := den 2 kc_X7_fails
abbrev rm_X7_fails : Room := { frames := 0, cells := 0, slots := 0, locals := 0 }
set_option maxRecDepth 100000 in
theorem kt_X7_fails : TriC kc_X7_fails := lkp_tri (fa1 (tri_aload 1 0) (fa1 (tri_iload 2 1) (fa1 (tri_putI 5 7 9) (fa1 (tri_push 6 (.inl 0)) (fa1 (tri_zret) (fa0))))))
set_option maxRecDepth 100000 in
set_option maxHeartbeats 4000000 in
theorem ks_X7_fails (G : Wp) (l : Launch) : ∀ e ∈ k_X7_fails, Snd loC G l RX7 cX7_fails 2 (some .boolean) rm_X7_fails e.1 e.2 :=
  fa1 (s_aload_n (kf := 0) (j := 0) (by decide +kernel) rfl) <|
  fa1 (s_iload_n (kf := 1) (j := 1) (by decide +kernel) rfl) <|
  fa1 (s_putI (ci := 7) (f := 9) (idx := 91) (C := RX7) (T := TX7) (NF := 10) (by decide +kernel) rfl (by decide) inG_X7 (by decide) w_309 tyX7 tyX7_ok nmX7 rfl (by decide +kernel) li_X7_9) <|
  fa1 (s_iconst (n := 0) (v := 0) (by decide +kernel) (by decide +kernel) (p32 rfl)) <|
  fa1 (s_zret (by decide +kernel) rfl) <| fa0
theorem gg_X7_fails {G : Wp} {l : Launch} : GoodM loC G l yX7_fails cX7_fails 2 (some .boolean) rm_X7_fails f_X7_fails := met_of kt_X7_fails (lkp_snd (ks_X7_fails G l)) (by decide +kernel) rfl (by decide)
noncomputable def k_X7_kindAt : List (Nat × Ins) := [
  (0, i_iload 1 1),
  (1, i_iflt 4 12),
  (4, i_iload 5 1),
  (5, i_aload 6 0),
  (6, i_getI 9 7 8),
  (9, i_cmplt 12 14),
  (12, i_push 13 (.inl 0)),
  (13, i_iret),
  (14, i_aload 15 0),
  (15, i_getR 18 7 21 (fun _ => 152)),
  (18, i_iload 19 1),
  (19, i_ald 20 21 lnC),
  (20, i_istore 21 2),
  (21, i_iload 22 2),
  (22, i_push 24 (.inl 97)),
  (24, i_cmplt 27 35),
  (27, i_iload 28 2),
  (28, i_push 30 (.inl 122)),
  (30, i_cmpgt 33 35),
  (33, i_push 34 (.inl 1)),
  (34, i_iret),
  (35, i_iload 36 2),
  (36, i_push 38 (.inl 48)),
  (38, i_cmplt 41 49),
  (41, i_iload 42 2),
  (42, i_push 44 (.inl 57)),
  (44, i_cmpgt 47 49),
  (47, i_push 48 (.inl 2)),
  (48, i_iret),
  (49, i_iload 50 2),
  (50, i_push 52 (.inl 61)),
  (52, i_cmpne 55 57),
  (55, i_push 56 (.inl 3)),
  (56, i_iret),
  (57, i_iload 58 2),
  (58, i_push 60 (.inl 59)),
  (60, i_cmpne 63 67),
  (63, i_push 64 (.inl 4)),
  (64, i_goto 68),
  (67, i_push 68 (.inl 5)),
  (68, i_iret)]
noncomputable def kc_X7_kindAt : Nat → Option Ins := lkp k_X7_kindAt
noncomputable def f_X7_kindAt : List AV → Mem → Option Rs := den 3 kc_X7_kindAt
abbrev rm_X7_kindAt : Room := { frames := 0, cells := 0, slots := 0, locals := 0 }
set_option maxRecDepth 100000 in
theorem kt_X7_kindAt : TriC kc_X7_kindAt := lkp_tri (fa1 (tri_iload 1 1) (fa1 (tri_iflt 4 12) (fa1 (tri_iload 5 1) (fa1 (tri_aload 6 0) (fa1 (tri_getI 9 7 8) (fa1 (tri_cmplt 12 14) (fa1 (tri_push 13 (.inl 0)) (fa1 (tri_iret) (fa1 (tri_aload 15 0) (fa1 (tri_getR 18 7 21 (fun _ => 152)) (fa1 (tri_iload 19 1) (fa1 (tri_ald 20 21 lnC) (fa1 (tri_istore 21 2) (fa1 (tri_iload 22 2) (fa1 (tri_push 24 (.inl 97)) (fa1 (tri_cmplt 27 35) (fa1 (tri_iload 28 2) (fa1 (tri_push 30 (.inl 122)) (fa1 (tri_cmpgt 33 35) (fa1 (tri_push 34 (.inl 1)) (fa1 (tri_iret) (fa1 (tri_iload 36 2) (fa1 (tri_push 38 (.inl 48)) (fa1 (tri_cmplt 41 49) (fa1 (tri_iload 42 2) (fa1 (tri_push 44 (.inl 57)) (fa1 (tri_cmpgt 47 49) (fa1 (tri_push 48 (.inl 2)) (fa1 (tri_iret) (fa1 (tri_iload 50 2) (fa1 (tri_push 52 (.inl 61)) (fa1 (tri_cmpne 55 57) (fa1 (tri_push 56 (.inl 3)) (fa1 (tri_iret) (fa1 (tri_iload 58 2) (fa1 (tri_push 60 (.inl 59)) (fa1 (tri_cmpne 63 67) (fa1 (tri_push 64 (.inl 4)) (fa1 (tri_goto 68) (fa1 (tri_push 68 (.inl 5)) (fa1 (tri_iret) (fa0))))))))))))))))))))))))))))))))))))))))))
set_option maxRecDepth 100000 in
set_option maxHeartbeats 4000000 in
theorem ks_X7_kindAt (G : Wp) (l : Launch) : ∀ e ∈ k_X7_kindAt, Snd loC G l RX7 cX7_kindAt 3 (some .int) rm_X7_kindAt e.1 e.2 :=
  fa1 (s_iload_n (kf := 1) (j := 1) (by decide +kernel) rfl) <|
  fa1 (s_iflt (off := 11) (by decide +kernel) (by decide)) <|
  fa1 (s_iload_n (kf := 1) (j := 1) (by decide +kernel) rfl) <|
  fa1 (s_aload_n (kf := 0) (j := 0) (by decide +kernel) rfl) <|
  fa1 (s_getI (ci := 7) (f := 8) (idx := 35) (C := RX7) (T := TX7) (NF := 10) (by decide +kernel) rfl (by decide) inG_X7 (by decide) w_306 li_X7_8) <|
  fa1 (s_cmplt (off := 5) (by decide +kernel) (by decide)) <|
  fa1 (s_iconst (n := 0) (v := 0) (by decide +kernel) (by decide +kernel) (p32 rfl)) <|
  fa1 (s_iret (by decide +kernel) rfl) <|
  fa1 (s_aload_n (kf := 0) (j := 0) (by decide +kernel) rfl) <|
  fa1 (s_getR (t2 := 21) (g := (fun _ => 152)) (ci := 7) (f := 2) (idx := 11) (C := RX7) (T := TX7) (NF := 10) (by decide +kernel) rfl (by decide) inG_X7 (by decide) w_300 lr_X7_2 (by decide)) <|
  fa1 (s_iload_n (kf := 1) (j := 1) (by decide +kernel) rfl) <|
  fa1 (s_bald (by decide +kernel)) <|
  fa1 (s_istore_n (kf := 2) (j := 2) (by decide +kernel) rfl (by decide)) <|
  fa1 (s_iload_n (kf := 2) (j := 2) (by decide +kernel) rfl) <|
  fa1 (s_bipush (n := 97) (v := 97) (by decide +kernel) (by decide +kernel) (p32 rfl)) <|
  fa1 (s_cmplt (off := 11) (by decide +kernel) (by decide)) <|
  fa1 (s_iload_n (kf := 2) (j := 2) (by decide +kernel) rfl) <|
  fa1 (s_bipush (n := 122) (v := 122) (by decide +kernel) (by decide +kernel) (p32 rfl)) <|
  fa1 (s_cmpgt (off := 5) (by decide +kernel) (by decide)) <|
  fa1 (s_iconst (n := 1) (v := 1) (by decide +kernel) (by decide +kernel) (p32 rfl)) <|
  fa1 (s_iret (by decide +kernel) rfl) <|
  fa1 (s_iload_n (kf := 2) (j := 2) (by decide +kernel) rfl) <|
  fa1 (s_bipush (n := 48) (v := 48) (by decide +kernel) (by decide +kernel) (p32 rfl)) <|
  fa1 (s_cmplt (off := 11) (by decide +kernel) (by decide)) <|
  fa1 (s_iload_n (kf := 2) (j := 2) (by decide +kernel) rfl) <|
  fa1 (s_bipush (n := 57) (v := 57) (by decide +kernel) (by decide +kernel) (p32 rfl)) <|
  fa1 (s_cmpgt (off := 5) (by decide +kernel) (by decide)) <|
  fa1 (s_iconst (n := 2) (v := 2) (by decide +kernel) (by decide +kernel) (p32 rfl)) <|
  fa1 (s_iret (by decide +kernel) rfl) <|
  fa1 (s_iload_n (kf := 2) (j := 2) (by decide +kernel) rfl) <|
  fa1 (s_bipush (n := 61) (v := 61) (by decide +kernel) (by decide +kernel) (p32 rfl)) <|
  fa1 (s_cmpne (off := 5) (by decide +kernel) (by decide)) <|
  fa1 (s_iconst (n := 3) (v := 3) (by decide +kernel) (by decide +kernel) (p32 rfl)) <|
  fa1 (s_iret (by decide +kernel) rfl) <|
  fa1 (s_iload_n (kf := 2) (j := 2) (by decide +kernel) rfl) <|
  fa1 (s_bipush (n := 59) (v := 59) (by decide +kernel) (by decide +kernel) (p32 rfl)) <|
  fa1 (s_cmpne (off := 7) (by decide +kernel) (by decide)) <|
  fa1 (s_iconst (n := 4) (v := 4) (by decide +kernel) (by decide +kernel) (p32 rfl)) <|
  fa1 (s_goto (off := 4) (by decide +kernel) (by decide)) <|
  fa1 (s_iconst (n := 5) (v := 5) (by decide +kernel) (by decide +kernel) (p32 rfl)) <|
  fa1 (s_iret (by decide +kernel) rfl) <| fa0
theorem gg_X7_kindAt {G : Wp} {l : Launch} : GoodM loC G l yX7_kindAt cX7_kindAt 3 (some .int) rm_X7_kindAt f_X7_kindAt := met_of kt_X7_kindAt (lkp_snd (ks_X7_kindAt G l)) (by decide +kernel) rfl (by decide)
noncomputable def k_X7_advance : List (Nat × Ins) := [
  (0, i_aload 1 0),
  (1, i_aload 2 0),
  (2, i_getI 5 7 7),
  (5, i_putI 8 7 6),
  (8, i_aload 9 0),
  (9, i_getI 12 7 6),
  (12, i_aload 13 0),
  (13, i_getI 16 7 8),
  (16, i_cmpge 19 45),
  (19, i_aload 20 0),
  (20, i_aload 21 0),
  (21, i_getI 24 7 6),
  (24, i_callI 27 2 (rcv 7) f_X7_byteAt),
  (27, i_push 29 (.inl 32)),
  (29, i_cmpne 32 45),
  (32, i_aload 33 0),
  (33, i_dup 34),
  (34, i_getI 37 7 6),
  (37, i_push 38 (.inl 1)),
  (38, i_bin 39 (fun x y => wr (x + y))),
  (39, i_putI 42 7 6),
  (42, i_goto 8),
  (45, i_aload 46 0),
  (46, i_aload 47 0),
  (47, i_getI 50 7 6),
  (50, i_putI 53 7 7),
  (53, i_aload 54 0),
  (54, i_aload 55 0),
  (55, i_aload 56 0),
  (56, i_getI 59 7 6),
  (59, i_callI 62 2 (rcv 7) f_X7_kindAt),
  (62, i_putI 65 7 5),
  (65, i_aload 66 0),
  (66, i_getI 69 7 5),
  (69, i_push 70 (.inl 5)),
  (70, i_cmpne 73 79),
  (73, i_aload 74 0),
  (74, i_push 75 (.inl 1)),
  (75, i_callI 78 2 (rcv 7) f_X7_fails),
  (78, i_zret),
  (79, i_aload 80 0),
  (80, i_getI 83 7 5),
  (83, i_ifne 86 88),
  (86, i_push 87 (.inl 1)),
  (87, i_zret),
  (88, i_aload 89 0),
  (89, i_dup 90),
  (90, i_getI 93 7 7),
  (93, i_push 94 (.inl 1)),
  (94, i_bin 95 (fun x y => wr (x + y))),
  (95, i_putI 98 7 7),
  (98, i_aload 99 0),
  (99, i_getI 102 7 5),
  (102, i_push 103 (.inl 1)),
  (103, i_cmpeq 106 114),
  (106, i_aload 107 0),
  (107, i_getI 110 7 5),
  (110, i_push 111 (.inl 2)),
  (111, i_cmpne 114 153),
  (114, i_aload 115 0),
  (115, i_getI 118 7 7),
  (118, i_aload 119 0),
  (119, i_getI 122 7 8),
  (122, i_cmpge 125 153),
  (125, i_aload 126 0),
  (126, i_aload 127 0),
  (127, i_getI 130 7 7),
  (130, i_callI 133 2 (rcv 7) f_X7_kindAt),
  (133, i_aload 134 0),
  (134, i_getI 137 7 5),
  (137, i_cmpne 140 153),
  (140, i_aload 141 0),
  (141, i_dup 142),
  (142, i_getI 145 7 7),
  (145, i_push 146 (.inl 1)),
  (146, i_bin 147 (fun x y => wr (x + y))),
  (147, i_putI 150 7 7),
  (150, i_goto 114),
  (153, i_aload 154 0),
  (154, i_getI 157 7 5),
  (157, i_push 158 (.inl 2)),
  (158, i_cmpne 161 182),
  (161, i_aload 162 0),
  (162, i_getI 165 7 7),
  (165, i_aload 166 0),
  (166, i_getI 169 7 6),
  (169, i_bin 170 (fun x y => wr (x - y))),
  (170, i_push 171 (.inl 1)),
  (171, i_cmpeq 174 182),
  (174, i_aload 175 0),
  (175, i_push 176 (.inl 1)),
  (176, i_callI 179 2 (rcv 7) f_X7_fails),
  (179, i_ifeq 182 186),
  (182, i_push 183 (.inl 1)),
  (183, i_goto 187),
  (186, i_push 187 (.inl 0)),
  (187, i_zret)]
noncomputable def kc_X7_advance : Nat → Option Ins := lkp k_X7_advance
noncomputable def f_X7_advance : List AV → Mem → Option Rs := den 1 kc_X7_advance
abbrev rm_X7_advance : Room := { frames := 1, cells := 0, slots := 0, locals := 22 }
set_option maxRecDepth 100000 in
theorem kt_X7_advance : TriC kc_X7_advance := lkp_tri (fa1 (tri_aload 1 0) (fa1 (tri_aload 2 0) (fa1 (tri_getI 5 7 7) (fa1 (tri_putI 8 7 6) (fa1 (tri_aload 9 0) (fa1 (tri_getI 12 7 6) (fa1 (tri_aload 13 0) (fa1 (tri_getI 16 7 8) (fa1 (tri_cmpge 19 45) (fa1 (tri_aload 20 0) (fa1 (tri_aload 21 0) (fa1 (tri_getI 24 7 6) (fa1 (tri_callI 27 2 (rcv 7) f_X7_byteAt) (fa1 (tri_push 29 (.inl 32)) (fa1 (tri_cmpne 32 45) (fa1 (tri_aload 33 0) (fa1 (tri_dup 34) (fa1 (tri_getI 37 7 6) (fa1 (tri_push 38 (.inl 1)) (fa1 (tri_bin 39 (fun x y => wr (x + y))) (fa1 (tri_putI 42 7 6) (fa1 (tri_goto 8) (fa1 (tri_aload 46 0) (fa1 (tri_aload 47 0) (fa1 (tri_getI 50 7 6) (fa1 (tri_putI 53 7 7) (fa1 (tri_aload 54 0) (fa1 (tri_aload 55 0) (fa1 (tri_aload 56 0) (fa1 (tri_getI 59 7 6) (fa1 (tri_callI 62 2 (rcv 7) f_X7_kindAt) (fa1 (tri_putI 65 7 5) (fa1 (tri_aload 66 0) (fa1 (tri_getI 69 7 5) (fa1 (tri_push 70 (.inl 5)) (fa1 (tri_cmpne 73 79) (fa1 (tri_aload 74 0) (fa1 (tri_push 75 (.inl 1)) (fa1 (tri_callI 78 2 (rcv 7) f_X7_fails) (fa1 (tri_zret) (fa1 (tri_aload 80 0) (fa1 (tri_getI 83 7 5) (fa1 (tri_ifne 86 88) (fa1 (tri_push 87 (.inl 1)) (fa1 (tri_zret) (fa1 (tri_aload 89 0) (fa1 (tri_dup 90) (fa1 (tri_getI 93 7 7) (fa1 (tri_push 94 (.inl 1)) (fa1 (tri_bin 95 (fun x y => wr (x + y))) (fa1 (tri_putI 98 7 7) (fa1 (tri_aload 99 0) (fa1 (tri_getI 102 7 5) (fa1 (tri_push 103 (.inl 1)) (fa1 (tri_cmpeq 106 114) (fa1 (tri_aload 107 0) (fa1 (tri_getI 110 7 5) (fa1 (tri_push 111 (.inl 2)) (fa1 (tri_cmpne 114 153) (fa1 (tri_aload 115 0) (fa1 (tri_getI 118 7 7) (fa1 (tri_aload 119 0) (fa1 (tri_getI 122 7 8) (fa1 (tri_cmpge 125 153) (fa1 (tri_aload 126 0) (fa1 (tri_aload 127 0) (fa1 (tri_getI 130 7 7) (fa1 (tri_callI 133 2 (rcv 7) f_X7_kindAt) (fa1 (tri_aload 134 0) (fa1 (tri_getI 137 7 5) (fa1 (tri_cmpne 140 153) (fa1 (tri_aload 141 0) (fa1 (tri_dup 142) (fa1 (tri_getI 145 7 7) (fa1 (tri_push 146 (.inl 1)) (fa1 (tri_bin 147 (fun x y => wr (x + y))) (fa1 (tri_putI 150 7 7) (fa1 (tri_goto 114) (fa1 (tri_aload 154 0) (fa1 (tri_getI 157 7 5) (fa1 (tri_push 158 (.inl 2)) (fa1 (tri_cmpne 161 182) (fa1 (tri_aload 162 0) (fa1 (tri_getI 165 7 7) (fa1 (tri_aload 166 0) (fa1 (tri_getI 169 7 6) (fa1 (tri_bin 170 (fun x y => wr (x - y))) (fa1 (tri_push 171 (.inl 1)) (fa1 (tri_cmpeq 174 182) (fa1 (tri_aload 175 0) (fa1 (tri_push 176 (.inl 1)) (fa1 (tri_callI 179 2 (rcv 7) f_X7_fails) (fa1 (tri_ifeq 182 186) (fa1 (tri_push 183 (.inl 1)) (fa1 (tri_goto 187) (fa1 (tri_push 187 (.inl 0)) (fa1 (tri_zret) (fa0))))))))))))))))))))))))))))))))))))))))))))))))))))))))))))))))))))))))))))))))))))))))))))))))))
set_option maxRecDepth 100000 in
set_option maxHeartbeats 4000000 in
theorem ks_X7_advance (G : Wp) (l : Launch) : ∀ e ∈ k_X7_advance, Snd loC G l RX7 cX7_advance 1 (some .boolean) rm_X7_advance e.1 e.2 :=
  fa1 (s_aload_n (kf := 0) (j := 0) (by decide +kernel) rfl) <|
  fa1 (s_aload_n (kf := 0) (j := 0) (by decide +kernel) rfl) <|
  fa1 (s_getI (ci := 7) (f := 7) (idx := 88) (C := RX7) (T := TX7) (NF := 10) (by decide +kernel) rfl (by decide) inG_X7 (by decide) w_305 li_X7_7) <|
  fa1 (s_putI (ci := 7) (f := 6) (idx := 65) (C := RX7) (T := TX7) (NF := 10) (by decide +kernel) rfl (by decide) inG_X7 (by decide) w_304 tyX7 tyX7_ok nmX7 rfl (by decide +kernel) li_X7_6) <|
  fa1 (s_aload_n (kf := 0) (j := 0) (by decide +kernel) rfl) <|
  fa1 (s_getI (ci := 7) (f := 6) (idx := 65) (C := RX7) (T := TX7) (NF := 10) (by decide +kernel) rfl (by decide) inG_X7 (by decide) w_304 li_X7_6) <|
  fa1 (s_aload_n (kf := 0) (j := 0) (by decide +kernel) rfl) <|
  fa1 (s_getI (ci := 7) (f := 8) (idx := 35) (C := RX7) (T := TX7) (NF := 10) (by decide +kernel) rfl (by decide) inG_X7 (by decide) w_306 li_X7_8) <|
  fa1 (s_cmpge (off := 29) (by decide +kernel) (by decide)) <|
  fa1 (s_aload_n (kf := 0) (j := 0) (by decide +kernel) rfl) <|
  fa1 (s_aload_n (kf := 0) (j := 0) (by decide +kernel) rfl) <|
  fa1 (s_getI (ci := 7) (f := 6) (idx := 65) (C := RX7) (T := TX7) (NF := 10) (by decide +kernel) rfl (by decide) inG_X7 (by decide) w_304 li_X7_6) <|
  fa1 (s_vcallI (n := 1) (ci := 7) (C := RX7) (T := TX7) (NF := 10) (idx := 117) (y := yX7_byteAt) (by decide +kernel) (gg_X7_byteAt) rfl (by decide) yv_X7_byteAt (all5 w_620 w_622 w_2 w_106 w_623) rfl rfl ⟨by decide, by decide⟩) <|
  fa1 (s_bipush (n := 32) (v := 32) (by decide +kernel) (by decide +kernel) (p32 rfl)) <|
  fa1 (s_cmpne (off := 16) (by decide +kernel) (by decide)) <|
  fa1 (s_aload_n (kf := 0) (j := 0) (by decide +kernel) rfl) <|
  fa1 (s_dup (by decide +kernel)) <|
  fa1 (s_getI (ci := 7) (f := 6) (idx := 65) (C := RX7) (T := TX7) (NF := 10) (by decide +kernel) rfl (by decide) inG_X7 (by decide) w_304 li_X7_6) <|
  fa1 (s_iconst (n := 1) (v := 1) (by decide +kernel) (by decide +kernel) (p32 rfl)) <|
  fa1 (s_iadd (by decide +kernel)) <|
  fa1 (s_putI (ci := 7) (f := 6) (idx := 65) (C := RX7) (T := TX7) (NF := 10) (by decide +kernel) rfl (by decide) inG_X7 (by decide) w_304 tyX7 tyX7_ok nmX7 rfl (by decide +kernel) li_X7_6) <|
  fa1 (s_goto (off := -34) (by decide +kernel) (by decide)) <|
  fa1 (s_aload_n (kf := 0) (j := 0) (by decide +kernel) rfl) <|
  fa1 (s_aload_n (kf := 0) (j := 0) (by decide +kernel) rfl) <|
  fa1 (s_getI (ci := 7) (f := 6) (idx := 65) (C := RX7) (T := TX7) (NF := 10) (by decide +kernel) rfl (by decide) inG_X7 (by decide) w_304 li_X7_6) <|
  fa1 (s_putI (ci := 7) (f := 7) (idx := 88) (C := RX7) (T := TX7) (NF := 10) (by decide +kernel) rfl (by decide) inG_X7 (by decide) w_305 tyX7 tyX7_ok nmX7 rfl (by decide +kernel) li_X7_7) <|
  fa1 (s_aload_n (kf := 0) (j := 0) (by decide +kernel) rfl) <|
  fa1 (s_aload_n (kf := 0) (j := 0) (by decide +kernel) rfl) <|
  fa1 (s_aload_n (kf := 0) (j := 0) (by decide +kernel) rfl) <|
  fa1 (s_getI (ci := 7) (f := 6) (idx := 65) (C := RX7) (T := TX7) (NF := 10) (by decide +kernel) rfl (by decide) inG_X7 (by decide) w_304 li_X7_6) <|
  fa1 (s_vcallI (n := 1) (ci := 7) (C := RX7) (T := TX7) (NF := 10) (idx := 136) (y := yX7_kindAt) (by decide +kernel) (gg_X7_kindAt) rfl (by decide) yv_X7_kindAt (all5 w_624 w_626 w_3 w_106 w_627) rfl rfl ⟨by decide, by decide⟩) <|
  fa1 (s_putI (ci := 7) (f := 5) (idx := 54) (C := RX7) (T := TX7) (NF := 10) (by decide +kernel) rfl (by decide) inG_X7 (by decide) w_303 tyX7 tyX7_ok nmX7 rfl (by decide +kernel) li_X7_5) <|
  fa1 (s_aload_n (kf := 0) (j := 0) (by decide +kernel) rfl) <|
  fa1 (s_getI (ci := 7) (f := 5) (idx := 54) (C := RX7) (T := TX7) (NF := 10) (by decide +kernel) rfl (by decide) inG_X7 (by decide) w_303 li_X7_5) <|
  fa1 (s_iconst (n := 5) (v := 5) (by decide +kernel) (by decide +kernel) (p32 rfl)) <|
  fa1 (s_cmpne (off := 9) (by decide +kernel) (by decide)) <|
  fa1 (s_aload_n (kf := 0) (j := 0) (by decide +kernel) rfl) <|
  fa1 (s_iconst (n := 1) (v := 1) (by decide +kernel) (by decide +kernel) (p32 rfl)) <|
  fa1 (s_vcallI (n := 1) (ci := 7) (C := RX7) (T := TX7) (NF := 10) (idx := 114) (y := yX7_fails) (by decide +kernel) (gg_X7_fails) rfl (by decide) yv_X7_fails (all5 w_628 w_630 w_4 w_106 w_631) rfl rfl ⟨by decide, by decide⟩) <|
  fa1 (s_zret (by decide +kernel) rfl) <|
  fa1 (s_aload_n (kf := 0) (j := 0) (by decide +kernel) rfl) <|
  fa1 (s_getI (ci := 7) (f := 5) (idx := 54) (C := RX7) (T := TX7) (NF := 10) (by decide +kernel) rfl (by decide) inG_X7 (by decide) w_303 li_X7_5) <|
  fa1 (s_ifne (off := 5) (by decide +kernel) (by decide)) <|
  fa1 (s_iconst (n := 1) (v := 1) (by decide +kernel) (by decide +kernel) (p32 rfl)) <|
  fa1 (s_zret (by decide +kernel) rfl) <|
  fa1 (s_aload_n (kf := 0) (j := 0) (by decide +kernel) rfl) <|
  fa1 (s_dup (by decide +kernel)) <|
  fa1 (s_getI (ci := 7) (f := 7) (idx := 88) (C := RX7) (T := TX7) (NF := 10) (by decide +kernel) rfl (by decide) inG_X7 (by decide) w_305 li_X7_7) <|
  fa1 (s_iconst (n := 1) (v := 1) (by decide +kernel) (by decide +kernel) (p32 rfl)) <|
  fa1 (s_iadd (by decide +kernel)) <|
  fa1 (s_putI (ci := 7) (f := 7) (idx := 88) (C := RX7) (T := TX7) (NF := 10) (by decide +kernel) rfl (by decide) inG_X7 (by decide) w_305 tyX7 tyX7_ok nmX7 rfl (by decide +kernel) li_X7_7) <|
  fa1 (s_aload_n (kf := 0) (j := 0) (by decide +kernel) rfl) <|
  fa1 (s_getI (ci := 7) (f := 5) (idx := 54) (C := RX7) (T := TX7) (NF := 10) (by decide +kernel) rfl (by decide) inG_X7 (by decide) w_303 li_X7_5) <|
  fa1 (s_iconst (n := 1) (v := 1) (by decide +kernel) (by decide +kernel) (p32 rfl)) <|
  fa1 (s_cmpeq (off := 11) (by decide +kernel) (by decide)) <|
  fa1 (s_aload_n (kf := 0) (j := 0) (by decide +kernel) rfl) <|
  fa1 (s_getI (ci := 7) (f := 5) (idx := 54) (C := RX7) (T := TX7) (NF := 10) (by decide +kernel) rfl (by decide) inG_X7 (by decide) w_303 li_X7_5) <|
  fa1 (s_iconst (n := 2) (v := 2) (by decide +kernel) (by decide +kernel) (p32 rfl)) <|
  fa1 (s_cmpne (off := 42) (by decide +kernel) (by decide)) <|
  fa1 (s_aload_n (kf := 0) (j := 0) (by decide +kernel) rfl) <|
  fa1 (s_getI (ci := 7) (f := 7) (idx := 88) (C := RX7) (T := TX7) (NF := 10) (by decide +kernel) rfl (by decide) inG_X7 (by decide) w_305 li_X7_7) <|
  fa1 (s_aload_n (kf := 0) (j := 0) (by decide +kernel) rfl) <|
  fa1 (s_getI (ci := 7) (f := 8) (idx := 35) (C := RX7) (T := TX7) (NF := 10) (by decide +kernel) rfl (by decide) inG_X7 (by decide) w_306 li_X7_8) <|
  fa1 (s_cmpge (off := 31) (by decide +kernel) (by decide)) <|
  fa1 (s_aload_n (kf := 0) (j := 0) (by decide +kernel) rfl) <|
  fa1 (s_aload_n (kf := 0) (j := 0) (by decide +kernel) rfl) <|
  fa1 (s_getI (ci := 7) (f := 7) (idx := 88) (C := RX7) (T := TX7) (NF := 10) (by decide +kernel) rfl (by decide) inG_X7 (by decide) w_305 li_X7_7) <|
  fa1 (s_vcallI (n := 1) (ci := 7) (C := RX7) (T := TX7) (NF := 10) (idx := 136) (y := yX7_kindAt) (by decide +kernel) (gg_X7_kindAt) rfl (by decide) yv_X7_kindAt (all5 w_624 w_626 w_3 w_106 w_627) rfl rfl ⟨by decide, by decide⟩) <|
  fa1 (s_aload_n (kf := 0) (j := 0) (by decide +kernel) rfl) <|
  fa1 (s_getI (ci := 7) (f := 5) (idx := 54) (C := RX7) (T := TX7) (NF := 10) (by decide +kernel) rfl (by decide) inG_X7 (by decide) w_303 li_X7_5) <|
  fa1 (s_cmpne (off := 16) (by decide +kernel) (by decide)) <|
  fa1 (s_aload_n (kf := 0) (j := 0) (by decide +kernel) rfl) <|
  fa1 (s_dup (by decide +kernel)) <|
  fa1 (s_getI (ci := 7) (f := 7) (idx := 88) (C := RX7) (T := TX7) (NF := 10) (by decide +kernel) rfl (by decide) inG_X7 (by decide) w_305 li_X7_7) <|
  fa1 (s_iconst (n := 1) (v := 1) (by decide +kernel) (by decide +kernel) (p32 rfl)) <|
  fa1 (s_iadd (by decide +kernel)) <|
  fa1 (s_putI (ci := 7) (f := 7) (idx := 88) (C := RX7) (T := TX7) (NF := 10) (by decide +kernel) rfl (by decide) inG_X7 (by decide) w_305 tyX7 tyX7_ok nmX7 rfl (by decide +kernel) li_X7_7) <|
  fa1 (s_goto (off := -36) (by decide +kernel) (by decide)) <|
  fa1 (s_aload_n (kf := 0) (j := 0) (by decide +kernel) rfl) <|
  fa1 (s_getI (ci := 7) (f := 5) (idx := 54) (C := RX7) (T := TX7) (NF := 10) (by decide +kernel) rfl (by decide) inG_X7 (by decide) w_303 li_X7_5) <|
  fa1 (s_iconst (n := 2) (v := 2) (by decide +kernel) (by decide +kernel) (p32 rfl)) <|
  fa1 (s_cmpne (off := 24) (by decide +kernel) (by decide)) <|
  fa1 (s_aload_n (kf := 0) (j := 0) (by decide +kernel) rfl) <|
  fa1 (s_getI (ci := 7) (f := 7) (idx := 88) (C := RX7) (T := TX7) (NF := 10) (by decide +kernel) rfl (by decide) inG_X7 (by decide) w_305 li_X7_7) <|
  fa1 (s_aload_n (kf := 0) (j := 0) (by decide +kernel) rfl) <|
  fa1 (s_getI (ci := 7) (f := 6) (idx := 65) (C := RX7) (T := TX7) (NF := 10) (by decide +kernel) rfl (by decide) inG_X7 (by decide) w_304 li_X7_6) <|
  fa1 (s_isub (by decide +kernel)) <|
  fa1 (s_iconst (n := 1) (v := 1) (by decide +kernel) (by decide +kernel) (p32 rfl)) <|
  fa1 (s_cmpeq (off := 11) (by decide +kernel) (by decide)) <|
  fa1 (s_aload_n (kf := 0) (j := 0) (by decide +kernel) rfl) <|
  fa1 (s_iconst (n := 1) (v := 1) (by decide +kernel) (by decide +kernel) (p32 rfl)) <|
  fa1 (s_vcallI (n := 1) (ci := 7) (C := RX7) (T := TX7) (NF := 10) (idx := 114) (y := yX7_fails) (by decide +kernel) (gg_X7_fails) rfl (by decide) yv_X7_fails (all5 w_628 w_630 w_4 w_106 w_631) rfl rfl ⟨by decide, by decide⟩) <|
  fa1 (s_ifeq (off := 7) (by decide +kernel) (by decide)) <|
  fa1 (s_iconst (n := 1) (v := 1) (by decide +kernel) (by decide +kernel) (p32 rfl)) <|
  fa1 (s_goto (off := 4) (by decide +kernel) (by decide)) <|
  fa1 (s_iconst (n := 0) (v := 0) (by decide +kernel) (by decide +kernel) (p32 rfl)) <|
  fa1 (s_zret (by decide +kernel) rfl) <| fa0
theorem gg_X7_advance {G : Wp} {l : Launch} : GoodM loC G l yX7_advance cX7_advance 1 (some .boolean) rm_X7_advance f_X7_advance := met_of kt_X7_advance (lkp_snd (ks_X7_advance G l)) (by decide +kernel) rfl (by decide)
noncomputable def k_X7_begin : List (Nat × Ins) := [
  (0, i_aload 1 0),
  (1, i_push 2 (.inl 0)),
  (2, i_putI 5 7 7),
  (5, i_aload 6 0),
  (6, i_push 7 (.inl 0)),
  (7, i_putI 10 7 6),
  (10, i_aload 11 0),
  (11, i_push 12 (.inl 0)),
  (12, i_putI 15 7 9),
  (15, i_vret)]
noncomputable def kc_X7_begin : Nat → Option Ins := lkp k_X7_begin
noncomputable def f_X7_begin : List AV → Mem → Option Rs := den 1 kc_X7_begin
abbrev rm_X7_begin : Room := { frames := 0, cells := 0, slots := 0, locals := 0 }
set_option maxRecDepth 100000 in
theorem kt_X7_begin : TriC kc_X7_begin := lkp_tri (fa1 (tri_aload 1 0) (fa1 (tri_push 2 (.inl 0)) (fa1 (tri_putI 5 7 7) (fa1 (tri_aload 6 0) (fa1 (tri_push 7 (.inl 0)) (fa1 (tri_putI 10 7 6) (fa1 (tri_aload 11 0) (fa1 (tri_push 12 (.inl 0)) (fa1 (tri_putI 15 7 9) (fa1 (tri_vret) (fa0)))))))))))
set_option maxRecDepth 100000 in
set_option maxHeartbeats 4000000 in
theorem ks_X7_begin (G : Wp) (l : Launch) : ∀ e ∈ k_X7_begin, Snd loC G l RX7 cX7_begin 1 none rm_X7_begin e.1 e.2 :=
  fa1 (s_aload_n (kf := 0) (j := 0) (by decide +kernel) rfl) <|
  fa1 (s_iconst (n := 0) (v := 0) (by decide +kernel) (by decide +kernel) (p32 rfl)) <|
  fa1 (s_putI (ci := 7) (f := 7) (idx := 88) (C := RX7) (T := TX7) (NF := 10) (by decide +kernel) rfl (by decide) inG_X7 (by decide) w_305 tyX7 tyX7_ok nmX7 rfl (by decide +kernel) li_X7_7) <|
  fa1 (s_aload_n (kf := 0) (j := 0) (by decide +kernel) rfl) <|
  fa1 (s_iconst (n := 0) (v := 0) (by decide +kernel) (by decide +kernel) (p32 rfl)) <|
  fa1 (s_putI (ci := 7) (f := 6) (idx := 65) (C := RX7) (T := TX7) (NF := 10) (by decide +kernel) rfl (by decide) inG_X7 (by decide) w_304 tyX7 tyX7_ok nmX7 rfl (by decide +kernel) li_X7_6) <|
  fa1 (s_aload_n (kf := 0) (j := 0) (by decide +kernel) rfl) <|
  fa1 (s_iconst (n := 0) (v := 0) (by decide +kernel) (by decide +kernel) (p32 rfl)) <|
  fa1 (s_putI (ci := 7) (f := 9) (idx := 91) (C := RX7) (T := TX7) (NF := 10) (by decide +kernel) rfl (by decide) inG_X7 (by decide) w_309 tyX7 tyX7_ok nmX7 rfl (by decide +kernel) li_X7_9) <|
  fa1 (s_vret (by decide +kernel) rfl) <| fa0
theorem gg_X7_begin {G : Wp} {l : Launch} : GoodM loC G l yX7_begin cX7_begin 1 none rm_X7_begin f_X7_begin := met_of kt_X7_begin (lkp_snd (ks_X7_begin G l)) (by decide +kernel) rfl (by decide)
noncomputable def k_X7_isRow : List (Nat × Ins) := [
  (0, i_aload 1 0),
  (1, i_getI 4 7 5),
  (4, i_push 5 (.inl 1)),
  (5, i_cmpne 8 22),
  (8, i_aload 9 0),
  (9, i_getI 12 7 7),
  (12, i_aload 13 0),
  (13, i_getI 16 7 6),
  (16, i_bin 17 (fun x y => wr (x - y))),
  (17, i_aload 18 1),
  (18, i_alen 19 31 sLn),
  (19, i_cmpeq 22 24),
  (22, i_push 23 (.inl 0)),
  (23, i_zret),
  (24, i_push 25 (.inl 0)),
  (25, i_istore 26 2),
  (26, i_iload 27 2),
  (27, i_aload 28 1),
  (28, i_alen 29 31 sLn),
  (29, i_cmpge 32 56),
  (32, i_aload 33 0),
  (33, i_aload 34 0),
  (34, i_getI 37 7 6),
  (37, i_iload 38 2),
  (38, i_bin 39 (fun x y => wr (x + y))),
  (39, i_callI 42 2 (rcv 7) f_X7_byteAt),
  (42, i_aload 43 1),
  (43, i_iload 44 2),
  (44, i_alds 45 31 sLn sCt),
  (45, i_cmpeq 48 50),
  (48, i_push 49 (.inl 0)),
  (49, i_zret),
  (50, i_iinc 53 2 (1)),
  (53, i_goto 26),
  (56, i_push 57 (.inl 1)),
  (57, i_zret)]
noncomputable def kc_X7_isRow : Nat → Option Ins := lkp k_X7_isRow
noncomputable def f_X7_isRow : List AV → Mem → Option Rs := den 3 kc_X7_isRow
abbrev rm_X7_isRow : Room := { frames := 1, cells := 0, slots := 0, locals := 21 }
set_option maxRecDepth 100000 in
theorem kt_X7_isRow : TriC kc_X7_isRow := lkp_tri (fa1 (tri_aload 1 0) (fa1 (tri_getI 4 7 5) (fa1 (tri_push 5 (.inl 1)) (fa1 (tri_cmpne 8 22) (fa1 (tri_aload 9 0) (fa1 (tri_getI 12 7 7) (fa1 (tri_aload 13 0) (fa1 (tri_getI 16 7 6) (fa1 (tri_bin 17 (fun x y => wr (x - y))) (fa1 (tri_aload 18 1) (fa1 (tri_alen 19 31 sLn) (fa1 (tri_cmpeq 22 24) (fa1 (tri_push 23 (.inl 0)) (fa1 (tri_zret) (fa1 (tri_push 25 (.inl 0)) (fa1 (tri_istore 26 2) (fa1 (tri_iload 27 2) (fa1 (tri_aload 28 1) (fa1 (tri_alen 29 31 sLn) (fa1 (tri_cmpge 32 56) (fa1 (tri_aload 33 0) (fa1 (tri_aload 34 0) (fa1 (tri_getI 37 7 6) (fa1 (tri_iload 38 2) (fa1 (tri_bin 39 (fun x y => wr (x + y))) (fa1 (tri_callI 42 2 (rcv 7) f_X7_byteAt) (fa1 (tri_aload 43 1) (fa1 (tri_iload 44 2) (fa1 (tri_alds 45 31 sLn sCt) (fa1 (tri_cmpeq 48 50) (fa1 (tri_push 49 (.inl 0)) (fa1 (tri_zret) (fa1 (tri_iinc 53 2 (1)) (fa1 (tri_goto 26) (fa1 (tri_push 57 (.inl 1)) (fa1 (tri_zret) (fa0)))))))))))))))))))))))))))))))))))))
set_option maxRecDepth 100000 in
set_option maxHeartbeats 4000000 in
theorem ks_X7_isRow (G : Wp) (l : Launch) : ∀ e ∈ k_X7_isRow, Snd loC G l RX7 cX7_isRow 3 (some .boolean) rm_X7_isRow e.1 e.2 :=
  fa1 (s_aload_n (kf := 0) (j := 0) (by decide +kernel) rfl) <|
  fa1 (s_getI (ci := 7) (f := 5) (idx := 54) (C := RX7) (T := TX7) (NF := 10) (by decide +kernel) rfl (by decide) inG_X7 (by decide) w_303 li_X7_5) <|
  fa1 (s_iconst (n := 1) (v := 1) (by decide +kernel) (by decide +kernel) (p32 rfl)) <|
  fa1 (s_cmpne (off := 17) (by decide +kernel) (by decide)) <|
  fa1 (s_aload_n (kf := 0) (j := 0) (by decide +kernel) rfl) <|
  fa1 (s_getI (ci := 7) (f := 7) (idx := 88) (C := RX7) (T := TX7) (NF := 10) (by decide +kernel) rfl (by decide) inG_X7 (by decide) w_305 li_X7_7) <|
  fa1 (s_aload_n (kf := 0) (j := 0) (by decide +kernel) rfl) <|
  fa1 (s_getI (ci := 7) (f := 6) (idx := 65) (C := RX7) (T := TX7) (NF := 10) (by decide +kernel) rfl (by decide) inG_X7 (by decide) w_304 li_X7_6) <|
  fa1 (s_isub (by decide +kernel)) <|
  fa1 (s_aload_n (kf := 1) (j := 1) (by decide +kernel) rfl) <|
  fa1 (s_alens (t := 31) (by decide +kernel) (by decide)) <|
  fa1 (s_cmpeq (off := 5) (by decide +kernel) (by decide)) <|
  fa1 (s_iconst (n := 0) (v := 0) (by decide +kernel) (by decide +kernel) (p32 rfl)) <|
  fa1 (s_zret (by decide +kernel) rfl) <|
  fa1 (s_iconst (n := 0) (v := 0) (by decide +kernel) (by decide +kernel) (p32 rfl)) <|
  fa1 (s_istore_n (kf := 2) (j := 2) (by decide +kernel) rfl (by decide)) <|
  fa1 (s_iload_n (kf := 2) (j := 2) (by decide +kernel) rfl) <|
  fa1 (s_aload_n (kf := 1) (j := 1) (by decide +kernel) rfl) <|
  fa1 (s_alens (t := 31) (by decide +kernel) (by decide)) <|
  fa1 (s_cmpge (off := 27) (by decide +kernel) (by decide)) <|
  fa1 (s_aload_n (kf := 0) (j := 0) (by decide +kernel) rfl) <|
  fa1 (s_aload_n (kf := 0) (j := 0) (by decide +kernel) rfl) <|
  fa1 (s_getI (ci := 7) (f := 6) (idx := 65) (C := RX7) (T := TX7) (NF := 10) (by decide +kernel) rfl (by decide) inG_X7 (by decide) w_304 li_X7_6) <|
  fa1 (s_iload_n (kf := 2) (j := 2) (by decide +kernel) rfl) <|
  fa1 (s_iadd (by decide +kernel)) <|
  fa1 (s_vcallI (n := 1) (ci := 7) (C := RX7) (T := TX7) (NF := 10) (idx := 117) (y := yX7_byteAt) (by decide +kernel) (gg_X7_byteAt) rfl (by decide) yv_X7_byteAt (all5 w_620 w_622 w_2 w_106 w_623) rfl rfl ⟨by decide, by decide⟩) <|
  fa1 (s_aload_n (kf := 1) (j := 1) (by decide +kernel) rfl) <|
  fa1 (s_iload_n (kf := 2) (j := 2) (by decide +kernel) rfl) <|
  fa1 (s_balds (by decide +kernel)) <|
  fa1 (s_cmpeq (off := 5) (by decide +kernel) (by decide)) <|
  fa1 (s_iconst (n := 0) (v := 0) (by decide +kernel) (by decide +kernel) (p32 rfl)) <|
  fa1 (s_zret (by decide +kernel) rfl) <|
  fa1 (s_iinc (j := 2) (d := 1) (by decide +kernel) (by decide)) <|
  fa1 (s_goto (off := -27) (by decide +kernel) (by decide)) <|
  fa1 (s_iconst (n := 1) (v := 1) (by decide +kernel) (by decide +kernel) (p32 rfl)) <|
  fa1 (s_zret (by decide +kernel) rfl) <| fa0
theorem gg_X7_isRow {G : Wp} {l : Launch} : GoodM loC G l yX7_isRow cX7_isRow 3 (some .boolean) rm_X7_isRow f_X7_isRow := met_of kt_X7_isRow (lkp_snd (ks_X7_isRow G l)) (by decide +kernel) rfl (by decide)
noncomputable def k_X7_want : List (Nat × Ins) := [
  (0, i_aload 1 0),
  (1, i_callI 4 1 (rcv 7) f_X7_advance),
  (4, i_ifeq 7 27),
  (7, i_aload 8 0),
  (8, i_getI 11 7 5),
  (11, i_iload 12 1),
  (12, i_cmpeq 15 23),
  (15, i_aload 16 0),
  (16, i_push 17 (.inl 2)),
  (17, i_callI 20 2 (rcv 7) f_X7_fails),
  (20, i_ifeq 23 27),
  (23, i_push 24 (.inl 1)),
  (24, i_goto 28),
  (27, i_push 28 (.inl 0)),
  (28, i_zret)]
noncomputable def kc_X7_want : Nat → Option Ins := lkp k_X7_want
noncomputable def f_X7_want : List AV → Mem → Option Rs := den 2 kc_X7_want
abbrev rm_X7_want : Room := { frames := 2, cells := 0, slots := 0, locals := 42 }
set_option maxRecDepth 100000 in
theorem kt_X7_want : TriC kc_X7_want := lkp_tri (fa1 (tri_aload 1 0) (fa1 (tri_callI 4 1 (rcv 7) f_X7_advance) (fa1 (tri_ifeq 7 27) (fa1 (tri_aload 8 0) (fa1 (tri_getI 11 7 5) (fa1 (tri_iload 12 1) (fa1 (tri_cmpeq 15 23) (fa1 (tri_aload 16 0) (fa1 (tri_push 17 (.inl 2)) (fa1 (tri_callI 20 2 (rcv 7) f_X7_fails) (fa1 (tri_ifeq 23 27) (fa1 (tri_push 24 (.inl 1)) (fa1 (tri_goto 28) (fa1 (tri_push 28 (.inl 0)) (fa1 (tri_zret) (fa0))))))))))))))))
set_option maxRecDepth 100000 in
set_option maxHeartbeats 4000000 in
theorem ks_X7_want (G : Wp) (l : Launch) : ∀ e ∈ k_X7_want, Snd loC G l RX7 cX7_want 2 (some .boolean) rm_X7_want e.1 e.2 :=
  fa1 (s_aload_n (kf := 0) (j := 0) (by decide +kernel) rfl) <|
  fa1 (s_vcallI (n := 0) (ci := 7) (C := RX7) (T := TX7) (NF := 10) (idx := 50) (y := yX7_advance) (by decide +kernel) (gg_X7_advance) rfl (by decide) yv_X7_advance (all5 w_616 w_618 w_1 w_106 w_619) rfl rfl ⟨by decide, by decide⟩) <|
  fa1 (s_ifeq (off := 23) (by decide +kernel) (by decide)) <|
  fa1 (s_aload_n (kf := 0) (j := 0) (by decide +kernel) rfl) <|
  fa1 (s_getI (ci := 7) (f := 5) (idx := 54) (C := RX7) (T := TX7) (NF := 10) (by decide +kernel) rfl (by decide) inG_X7 (by decide) w_303 li_X7_5) <|
  fa1 (s_iload_n (kf := 1) (j := 1) (by decide +kernel) rfl) <|
  fa1 (s_cmpeq (off := 11) (by decide +kernel) (by decide)) <|
  fa1 (s_aload_n (kf := 0) (j := 0) (by decide +kernel) rfl) <|
  fa1 (s_iconst (n := 2) (v := 2) (by decide +kernel) (by decide +kernel) (p32 rfl)) <|
  fa1 (s_vcallI (n := 1) (ci := 7) (C := RX7) (T := TX7) (NF := 10) (idx := 114) (y := yX7_fails) (by decide +kernel) (gg_X7_fails) rfl (by decide) yv_X7_fails (all5 w_628 w_630 w_4 w_106 w_631) rfl rfl ⟨by decide, by decide⟩) <|
  fa1 (s_ifeq (off := 7) (by decide +kernel) (by decide)) <|
  fa1 (s_iconst (n := 1) (v := 1) (by decide +kernel) (by decide +kernel) (p32 rfl)) <|
  fa1 (s_goto (off := 4) (by decide +kernel) (by decide)) <|
  fa1 (s_iconst (n := 0) (v := 0) (by decide +kernel) (by decide +kernel) (p32 rfl)) <|
  fa1 (s_zret (by decide +kernel) rfl) <| fa0
theorem gg_X7_want {G : Wp} {l : Launch} : GoodM loC G l yX7_want cX7_want 2 (some .boolean) rm_X7_want f_X7_want := met_of kt_X7_want (lkp_snd (ks_X7_want G l)) (by decide +kernel) rfl (by decide)
