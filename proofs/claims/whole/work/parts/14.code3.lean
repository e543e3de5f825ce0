noncomputable def k_X9_mayStand : List (Nat × Ins) := [
  (0, i_iload 1 1),
  (1, i_push 3 (.inl 23)),
  (3, i_cmplt 6 20),
  (6, i_iload 7 1),
  (7, i_push 9 (.inl 23)),
  (9, i_bin 10 (fun x y => wr (x - y))),
  (10, i_iload 11 2),
  (11, i_cmpge 14 18),
  (14, i_push 15 (.inl 1)),
  (15, i_goto 19),
  (18, i_push 19 (.inl 0)),
  (19, i_zret),
  (20, i_iload 21 1),
  (21, i_push 23 (.inl 12)),
  (23, i_cmpeq 26 32),
  (26, i_iload 27 1),
  (27, i_push 29 (.inl 14)),
  (29, i_cmpne 32 34),
  (32, i_push 33 (.inl 1)),
  (33, i_zret),
  (34, i_aload 35 0),
  (35, i_iload 36 1),
  (36, i_callI 39 2 (rcv 9) f_X9_numberOf),
  (39, i_istore 41 4),
  (41, i_iload 43 4),
  (43, i_iflt 46 56),
  (46, i_iload 48 4),
  (48, i_iload 49 3),
  (49, i_cmpge 52 56),
  (52, i_push 53 (.inl 1)),
  (53, i_goto 57),
  (56, i_push 57 (.inl 0)),
  (57, i_zret)]
noncomputable def kc_X9_mayStand : Nat → Option Ins := lkp k_X9_mayStand
noncomputable def f_X9_mayStand : List AV → Mem → Option Rs := den 5 kc_X9_mayStand
abbrev rm_X9_mayStand : Room := { frames := 1, cells := 0, slots := 0, locals := 21 }
set_option maxRecDepth 100000 in
theorem kt_X9_mayStand : TriC kc_X9_mayStand := lkp_tri (fa1 (tri_iload 1 1) (fa1 (tri_push 3 (.inl 23)) (fa1 (tri_cmplt 6 20) (fa1 (tri_iload 7 1) (fa1 (tri_push 9 (.inl 23)) (fa1 (tri_bin 10 (fun x y => wr (x - y))) (fa1 (tri_iload 11 2) (fa1 (tri_cmpge 14 18) (fa1 (tri_push 15 (.inl 1)) (fa1 (tri_goto 19) (fa1 (tri_push 19 (.inl 0)) (fa1 (tri_zret) (fa1 (tri_iload 21 1) (fa1 (tri_push 23 (.inl 12)) (fa1 (tri_cmpeq 26 32) (fa1 (tri_iload 27 1) (fa1 (tri_push 29 (.inl 14)) (fa1 (tri_cmpne 32 34) (fa1 (tri_push 33 (.inl 1)) (fa1 (tri_zret) (fa1 (tri_aload 35 0) (fa1 (tri_iload 36 1) (fa1 (tri_callI 39 2 (rcv 9) f_X9_numberOf) (fa1 (tri_istore 41 4) (fa1 (tri_iload 43 4) (fa1 (tri_iflt 46 56) (fa1 (tri_iload 48 4) (fa1 (tri_iload 49 3) (fa1 (tri_cmpge 52 56) (fa1 (tri_push 53 (.inl 1)) (fa1 (tri_goto 57) (fa1 (tri_push 57 (.inl 0)) (fa1 (tri_zret) (fa0))))))))))))))))))))))))))))))))))
set_option maxRecDepth 100000 in
set_option maxHeartbeats 4000000 in
theorem ks_X9_mayStand (G : Wp) (l : Launch) : ∀ e ∈ k_X9_mayStand, Snd loC G l RX9 cX9_mayStand 5 (some .boolean) rm_X9_mayStand e.1 e.2 :=
  fa1 (s_iload_n (kf := 1) (j := 1) (by decide +kernel) rfl) <|
  fa1 (s_bipush (n := 23) (v := 23) (by decide +kernel) (by decide +kernel) (p32 rfl)) <|
  fa1 (s_cmplt (off := 17) (by decide +kernel) (by decide)) <|
  fa1 (s_iload_n (kf := 1) (j := 1) (by decide +kernel) rfl) <|
  fa1 (s_bipush (n := 23) (v := 23) (by decide +kernel) (by decide +kernel) (p32 rfl)) <|
  fa1 (s_isub (by decide +kernel)) <|
  fa1 (s_iload_n (kf := 2) (j := 2) (by decide +kernel) rfl) <|
  fa1 (s_cmpge (off := 7) (by decide +kernel) (by decide)) <|
  fa1 (s_iconst (n := 1) (v := 1) (by decide +kernel) (by decide +kernel) (p32 rfl)) <|
  fa1 (s_goto (off := 4) (by decide +kernel) (by decide)) <|
  fa1 (s_iconst (n := 0) (v := 0) (by decide +kernel) (by decide +kernel) (p32 rfl)) <|
  fa1 (s_zret (by decide +kernel) rfl) <|
  fa1 (s_iload_n (kf := 1) (j := 1) (by decide +kernel) rfl) <|
  fa1 (s_bipush (n := 12) (v := 12) (by decide +kernel) (by decide +kernel) (p32 rfl)) <|
  fa1 (s_cmpeq (off := 9) (by decide +kernel) (by decide)) <|
  fa1 (s_iload_n (kf := 1) (j := 1) (by decide +kernel) rfl) <|
  fa1 (s_bipush (n := 14) (v := 14) (by decide +kernel) (by decide +kernel) (p32 rfl)) <|
  fa1 (s_cmpne (off := 5) (by decide +kernel) (by decide)) <|
  fa1 (s_iconst (n := 1) (v := 1) (by decide +kernel) (by decide +kernel) (p32 rfl)) <|
  fa1 (s_zret (by decide +kernel) rfl) <|
  fa1 (s_aload_n (kf := 0) (j := 0) (by decide +kernel) rfl) <|
  fa1 (s_iload_n (kf := 1) (j := 1) (by decide +kernel) rfl) <|
  fa1 (s_vcallI (n := 1) (ci := 9) (C := RX9) (T := TX9) (NF := 6) (idx := 66) (y := yX9_numberOf) (by decide +kernel) (gg_X9_numberOf) rfl (by decide) yv_X9_numberOf (all5 w_674 w_651 w_652 w_101 w_653) rfl rfl ⟨by decide, by decide⟩) <|
  fa1 (s_istore (j := 4) (by decide +kernel) (by decide)) <|
  fa1 (s_iload (j := 4) (by decide +kernel)) <|
  fa1 (s_iflt (off := 13) (by decide +kernel) (by decide)) <|
  fa1 (s_iload (j := 4) (by decide +kernel)) <|
  fa1 (s_iload_n (kf := 3) (j := 3) (by decide +kernel) rfl) <|
  fa1 (s_cmpge (off := 7) (by decide +kernel) (by decide)) <|
  fa1 (s_iconst (n := 1) (v := 1) (by decide +kernel) (by decide +kernel) (p32 rfl)) <|
  fa1 (s_goto (off := 4) (by decide +kernel) (by decide)) <|
  fa1 (s_iconst (n := 0) (v := 0) (by decide +kernel) (by decide +kernel) (p32 rfl)) <|
  fa1 (s_zret (by decide +kernel) rfl) <| fa0
theorem gg_X9_mayStand {G : Wp} {l : Launch} : GoodM loC G l yX9_mayStand cX9_mayStand 5 (some .boolean) rm_X9_mayStand f_X9_mayStand := met_of kt_X9_mayStand (lkp_snd (ks_X9_mayStand G l)) (by decide +kernel) rfl (by decide)
noncomputable def k_X9_isTerm : List (Nat × Ins) := [
  (0, i_push 1 (.inl 1)),
  (1, i_istore 3 4),
  (3, i_push 4 (.inl 0)),
  (4, i_istore 6 5),
  (6, i_iload 8 5),
  (8, i_aload 9 1),
  (9, i_getI 12 8 1),
  (12, i_cmpge 15 60),
  (15, i_iload 17 4),
  (17, i_ifeq 20 35),
  (20, i_aload 21 0),
  (21, i_aload 22 1),
  (22, i_iload 24 5),
  (24, i_callI 27 2 (rcv 8) f_X8_at),
  (27, i_iload 28 2),
  (28, i_iload 29 3),
  (29, i_callI 32 4 (rcv 9) f_X9_mayStand),
  (32, i_ifne 35 37),
  (35, i_push 36 (.inl 0)),
  (36, i_zret),
  (37, i_iload 39 4),
  (39, i_aload 40 0),
  (40, i_aload 41 1),
  (41, i_iload 43 5),
  (43, i_callI 46 2 (rcv 8) f_X8_at),
  (46, i_callI 49 2 (rcv 9) f_X9_behind),
  (49, i_push 50 (.inl 1)),
  (50, i_bin 51 (fun x y => wr (x - y))),
  (51, i_bin 52 (fun x y => wr (x + y))),
  (52, i_istore 54 4),
  (54, i_iinc 57 5 (1)),
  (57, i_goto 6),
  (60, i_iload 62 4),
  (62, i_ifne 65 69),
  (65, i_push 66 (.inl 1)),
  (66, i_goto 70),
  (69, i_push 70 (.inl 0)),
  (70, i_zret)]
noncomputable def kc_X9_isTerm : Nat → Option Ins := lkp k_X9_isTerm
noncomputable def f_X9_isTerm : List AV → Mem → Option Rs := den 6 kc_X9_isTerm
abbrev rm_X9_isTerm : Room := { frames := 2, cells := 0, slots := 0, locals := 45 }
set_option maxRecDepth 100000 in
theorem kt_X9_isTerm : TriC kc_X9_isTerm := lkp_tri (fa1 (tri_push 1 (.inl 1)) (fa1 (tri_istore 3 4) (fa1 (tri_push 4 (.inl 0)) (fa1 (tri_istore 6 5) (fa1 (tri_iload 8 5) (fa1 (tri_aload 9 1) (fa1 (tri_getI 12 8 1) (fa1 (tri_cmpge 15 60) (fa1 (tri_iload 17 4) (fa1 (tri_ifeq 20 35) (fa1 (tri_aload 21 0) (fa1 (tri_aload 22 1) (fa1 (tri_iload 24 5) (fa1 (tri_callI 27 2 (rcv 8) f_X8_at) (fa1 (tri_iload 28 2) (fa1 (tri_iload 29 3) (fa1 (tri_callI 32 4 (rcv 9) f_X9_mayStand) (fa1 (tri_ifne 35 37) (fa1 (tri_push 36 (.inl 0)) (fa1 (tri_zret) (fa1 (tri_iload 39 4) (fa1 (tri_aload 40 0) (fa1 (tri_aload 41 1) (fa1 (tri_iload 43 5) (fa1 (tri_callI 46 2 (rcv 8) f_X8_at) (fa1 (tri_callI 49 2 (rcv 9) f_X9_behind) (fa1 (tri_push 50 (.inl 1)) (fa1 (tri_bin 51 (fun x y => wr (x - y))) (fa1 (tri_bin 52 (fun x y => wr (x + y))) (fa1 (tri_istore 54 4) (fa1 (tri_iinc 57 5 (1)) (fa1 (tri_goto 6) (fa1 (tri_iload 62 4) (fa1 (tri_ifne 65 69) (fa1 (tri_push 66 (.inl 1)) (fa1 (tri_goto 70) (fa1 (tri_push 70 (.inl 0)) (fa1 (tri_zret) (fa0)))))))))))))))))))))))))))))))))))))))
set_option maxRecDepth 100000 in
set_option maxHeartbeats 4000000 in
theorem ks_X9_isTerm (G : Wp) (l : Launch) : ∀ e ∈ k_X9_isTerm, Snd loC G l RX9 cX9_isTerm 6 (some .boolean) rm_X9_isTerm e.1 e.2 :=
  fa1 (s_iconst (n := 1) (v := 1) (by decide +kernel) (by decide +kernel) (p32 rfl)) <|
  fa1 (s_istore (j := 4) (by decide +kernel) (by decide)) <|
  fa1 (s_iconst (n := 0) (v := 0) (by decide +kernel) (by decide +kernel) (p32 rfl)) <|
  fa1 (s_istore (j := 5) (by decide +kernel) (by decide)) <|
  fa1 (s_iload (j := 5) (by decide +kernel)) <|
  fa1 (s_aload_n (kf := 1) (j := 1) (by decide +kernel) rfl) <|
  fa1 (s_getI (ci := 8) (f := 1) (idx := 41) (C := RX8) (T := TX8) (NF := 2) (by decide +kernel) rfl (by decide) inG_X8 (by decide) w_142 li_X8_1) <|
  fa1 (s_cmpge (off := 48) (by decide +kernel) (by decide)) <|
  fa1 (s_iload (j := 4) (by decide +kernel)) <|
  fa1 (s_ifeq (off := 18) (by decide +kernel) (by decide)) <|
  fa1 (s_aload_n (kf := 0) (j := 0) (by decide +kernel) rfl) <|
  fa1 (s_aload_n (kf := 1) (j := 1) (by decide +kernel) rfl) <|
  fa1 (s_iload (j := 5) (by decide +kernel)) <|
  fa1 (s_vcallI (n := 1) (ci := 8) (C := RX8) (T := TX8) (NF := 2) (idx := 55) (y := yX8_at) (by decide +kernel) (gg_X8_at) rfl (by decide) yv_X8_at (all5 w_666 w_667 w_668 w_102 w_669) rfl rfl ⟨by decide, by decide⟩) <|
  fa1 (s_iload_n (kf := 2) (j := 2) (by decide +kernel) rfl) <|
  fa1 (s_iload_n (kf := 3) (j := 3) (by decide +kernel) rfl) <|
  fa1 (s_vcallI (n := 3) (ci := 9) (C := RX9) (T := TX9) (NF := 6) (idx := 59) (y := yX9_mayStand) (by decide +kernel) (gg_X9_mayStand) rfl (by decide) yv_X9_mayStand (all5 w_670 w_672 w_10 w_101 w_673) rfl rfl ⟨by decide, by decide⟩) <|
  fa1 (s_ifne (off := 5) (by decide +kernel) (by decide)) <|
  fa1 (s_iconst (n := 0) (v := 0) (by decide +kernel) (by decide +kernel) (p32 rfl)) <|
  fa1 (s_zret (by decide +kernel) rfl) <|
  fa1 (s_iload (j := 4) (by decide +kernel)) <|
  fa1 (s_aload_n (kf := 0) (j := 0) (by decide +kernel) rfl) <|
  fa1 (s_aload_n (kf := 1) (j := 1) (by decide +kernel) rfl) <|
  fa1 (s_iload (j := 5) (by decide +kernel)) <|
  fa1 (s_vcallI (n := 1) (ci := 8) (C := RX8) (T := TX8) (NF := 2) (idx := 55) (y := yX8_at) (by decide +kernel) (gg_X8_at) rfl (by decide) yv_X8_at (all5 w_666 w_667 w_668 w_102 w_669) rfl rfl ⟨by decide, by decide⟩) <|
  fa1 (s_vcallI (n := 1) (ci := 9) (C := RX9) (T := TX9) (NF := 6) (idx := 63) (y := yX9_behind) (by decide +kernel) (gg_X9_behind) rfl (by decide) yv_X9_behind (all5 w_675 w_676 w_677 w_101 w_678) rfl rfl ⟨by decide, by decide⟩) <|
  fa1 (s_iconst (n := 1) (v := 1) (by decide +kernel) (by decide +kernel) (p32 rfl)) <|
  fa1 (s_isub (by decide +kernel)) <|
  fa1 (s_iadd (by decide +kernel)) <|
  fa1 (s_istore (j := 4) (by decide +kernel) (by decide)) <|
  fa1 (s_iinc (j := 5) (d := 1) (by decide +kernel) (by decide)) <|
  fa1 (s_goto (off := -51) (by decide +kernel) (by decide)) <|
  fa1 (s_iload (j := 4) (by decide +kernel)) <|
  fa1 (s_ifne (off := 7) (by decide +kernel) (by decide)) <|
  fa1 (s_iconst (n := 1) (v := 1) (by decide +kernel) (by decide +kernel) (p32 rfl)) <|
  fa1 (s_goto (off := 4) (by decide +kernel) (by decide)) <|
  fa1 (s_iconst (n := 0) (v := 0) (by decide +kernel) (by decide +kernel) (p32 rfl)) <|
  fa1 (s_zret (by decide +kernel) rfl) <| fa0
theorem gg_X9_isTerm {G : Wp} {l : Launch} : GoodM loC G l yX9_isTerm cX9_isTerm 6 (some .boolean) rm_X9_isTerm f_X9_isTerm := met_of kt_X9_isTerm (lkp_snd (ks_X9_isTerm G l)) (by decide +kernel) rfl (by decide)
noncomputable def k_X7_wantTerm : List (Nat × Ins) := [
  (0, i_aload 1 0),
  (1, i_push 2 (.inl 1)),
  (2, i_callI 5 2 (rcv 7) f_X7_want),
  (5, i_ifne 8 10),
  (8, i_push 9 (.inl 0)),
  (9, i_zret),
  (10, i_aload 11 1),
  (11, i_push 12 (.inl 0)),
  (12, i_putI 15 8 1),
  (15, i_aload 16 0),
  (16, i_getI 19 7 6),
  (19, i_istore 21 4),
  (21, i_iload 23 4),
  (23, i_aload 24 0),
  (24, i_getI 27 7 7),
  (27, i_cmpge 30 58),
  (30, i_aload 31 1),
  (31, i_aload 32 0),
  (32, i_iload 34 4),
  (34, i_callI 37 2 (rcv 7) f_X7_byteAt),
  (37, i_push 39 (.inl 97)),
  (39, i_bin 40 (fun x y => wr (x - y))),
  (40, i_callI 43 2 (rcv 8) f_X8_add),
  (43, i_ifne 46 52),
  (46, i_aload 47 0),
  (47, i_push 48 (.inl 5)),
  (48, i_callI 51 2 (rcv 7) f_X7_fails),
  (51, i_zret),
  (52, i_iinc 55 4 (1)),
  (55, i_goto 21),
  (58, i_aload 59 0),
  (59, i_getR 62 7 9 (fun _ => 1)),
  (62, i_aload 63 1),
  (63, i_iload 64 2),
  (64, i_iload 65 3),
  (65, i_callI 68 4 (rcv 9) f_X9_isTerm),
  (68, i_ifne 71 79),
  (71, i_aload 72 0),
  (72, i_push 73 (.inl 5)),
  (73, i_callI 76 2 (rcv 7) f_X7_fails),
  (76, i_ifeq 79 83),
  (79, i_push 80 (.inl 1)),
  (80, i_goto 84),
  (83, i_push 84 (.inl 0)),
  (84, i_zret)]
noncomputable def kc_X7_wantTerm : Nat → Option Ins := lkp k_X7_wantTerm
noncomputable def f_X7_wantTerm : List AV → Mem → Option Rs := den 5 kc_X7_wantTerm
abbrev rm_X7_wantTerm : Room := { frames := 3, cells := 0, slots := 0, locals := 70 }
set_option maxRecDepth 100000 in
theorem kt_X7_wantTerm : TriC kc_X7_wantTerm := lkp_tri (fa1 (tri_aload 1 0) (fa1 (tri_push 2 (.inl 1)) (fa1 (tri_callI 5 2 (rcv 7) f_X7_want) (fa1 (tri_ifne 8 10) (fa1 (tri_push 9 (.inl 0)) (fa1 (tri_zret) (fa1 (tri_aload 11 1) (fa1 (tri_push 12 (.inl 0)) (fa1 (tri_putI 15 8 1) (fa1 (tri_aload 16 0) (fa1 (tri_getI 19 7 6) (fa1 (tri_istore 21 4) (fa1 (tri_iload 23 4) (fa1 (tri_aload 24 0) (fa1 (tri_getI 27 7 7) (fa1 (tri_cmpge 30 58) (fa1 (tri_aload 31 1) (fa1 (tri_aload 32 0) (fa1 (tri_iload 34 4) (fa1 (tri_callI 37 2 (rcv 7) f_X7_byteAt) (fa1 (tri_push 39 (.inl 97)) (fa1 (tri_bin 40 (fun x y => wr (x - y))) (fa1 (tri_callI 43 2 (rcv 8) f_X8_add) (fa1 (tri_ifne 46 52) (fa1 (tri_aload 47 0) (fa1 (tri_push 48 (.inl 5)) (fa1 (tri_callI 51 2 (rcv 7) f_X7_fails) (fa1 (tri_zret) (fa1 (tri_iinc 55 4 (1)) (fa1 (tri_goto 21) (fa1 (tri_aload 59 0) (fa1 (tri_getR 62 7 9 (fun _ => 1)) (fa1 (tri_aload 63 1) (fa1 (tri_iload 64 2) (fa1 (tri_iload 65 3) (fa1 (tri_callI 68 4 (rcv 9) f_X9_isTerm) (fa1 (tri_ifne 71 79) (fa1 (tri_aload 72 0) (fa1 (tri_push 73 (.inl 5)) (fa1 (tri_callI 76 2 (rcv 7) f_X7_fails) (fa1 (tri_ifeq 79 83) (fa1 (tri_push 80 (.inl 1)) (fa1 (tri_goto 84) (fa1 (tri_push 84 (.inl 0)) (fa1 (tri_zret) (fa0))))))))))))))))))))))))))))))))))))))))))))))
set_option maxRecDepth 100000 in
set_option maxHeartbeats 4000000 in
theorem ks_X7_wantTerm (G : Wp) (l : Launch) : ∀ e ∈ k_X7_wantTerm, Snd loC G l RX7 cX7_wantTerm 5 (some .boolean) rm_X7_wantTerm e.1 e.2 :=
  fa1 (s_aload_n (kf := 0) (j := 0) (by decide +kernel) rfl) <|
  fa1 (s_iconst (n := 1) (v := 1) (by decide +kernel) (by decide +kernel) (p32 rfl)) <|
  fa1 (s_vcallI (n := 1) (ci := 7) (C := RX7) (T := TX7) (NF := 10) (idx := 80) (y := yX7_want) (by decide +kernel) (gg_X7_want) rfl (by decide) yv_X7_want (all5 w_646 w_648 w_8 w_106 w_649) rfl rfl ⟨by decide, by decide⟩) <|
  fa1 (s_ifne (off := 5) (by decide +kernel) (by decide)) <|
  fa1 (s_iconst (n := 0) (v := 0) (by decide +kernel) (by decide +kernel) (p32 rfl)) <|
  fa1 (s_zret (by decide +kernel) rfl) <|
  fa1 (s_aload_n (kf := 1) (j := 1) (by decide +kernel) rfl) <|
  fa1 (s_iconst (n := 0) (v := 0) (by decide +kernel) (by decide +kernel) (p32 rfl)) <|
  fa1 (s_putI (ci := 8) (f := 1) (idx := 130) (C := RX8) (T := TX8) (NF := 2) (by decide +kernel) rfl (by decide) inG_X8 (by decide) w_147 tyX8 tyX8_ok nmX8 rfl (by decide +kernel) li_X8_1) <|
  fa1 (s_aload_n (kf := 0) (j := 0) (by decide +kernel) rfl) <|
  fa1 (s_getI (ci := 7) (f := 6) (idx := 65) (C := RX7) (T := TX7) (NF := 10) (by decide +kernel) rfl (by decide) inG_X7 (by decide) w_304 li_X7_6) <|
  fa1 (s_istore (j := 4) (by decide +kernel) (by decide)) <|
  fa1 (s_iload (j := 4) (by decide +kernel)) <|
  fa1 (s_aload_n (kf := 0) (j := 0) (by decide +kernel) rfl) <|
  fa1 (s_getI (ci := 7) (f := 7) (idx := 88) (C := RX7) (T := TX7) (NF := 10) (by decide +kernel) rfl (by decide) inG_X7 (by decide) w_305 li_X7_7) <|
  fa1 (s_cmpge (off := 31) (by decide +kernel) (by decide)) <|
  fa1 (s_aload_n (kf := 1) (j := 1) (by decide +kernel) rfl) <|
  fa1 (s_aload_n (kf := 0) (j := 0) (by decide +kernel) rfl) <|
  fa1 (s_iload (j := 4) (by decide +kernel)) <|
  fa1 (s_vcallI (n := 1) (ci := 7) (C := RX7) (T := TX7) (NF := 10) (idx := 117) (y := yX7_byteAt) (by decide +kernel) (gg_X7_byteAt) rfl (by decide) yv_X7_byteAt (all5 w_620 w_622 w_2 w_106 w_623) rfl rfl ⟨by decide, by decide⟩) <|
  fa1 (s_bipush (n := 97) (v := 97) (by decide +kernel) (by decide +kernel) (p32 rfl)) <|
  fa1 (s_isub (by decide +kernel)) <|
  fa1 (s_vcallI (n := 1) (ci := 8) (C := RX8) (T := TX8) (NF := 2) (idx := 131) (y := yX8_add) (by decide +kernel) (gg_X8_add) rfl (by decide) yv_X8_add (all5 w_658 w_659 w_660 w_102 w_661) rfl rfl ⟨by decide, by decide⟩) <|
  fa1 (s_ifne (off := 9) (by decide +kernel) (by decide)) <|
  fa1 (s_aload_n (kf := 0) (j := 0) (by decide +kernel) rfl) <|
  fa1 (s_iconst (n := 5) (v := 5) (by decide +kernel) (by decide +kernel) (p32 rfl)) <|
  fa1 (s_vcallI (n := 1) (ci := 7) (C := RX7) (T := TX7) (NF := 10) (idx := 114) (y := yX7_fails) (by decide +kernel) (gg_X7_fails) rfl (by decide) yv_X7_fails (all5 w_628 w_630 w_4 w_106 w_631) rfl rfl ⟨by decide, by decide⟩) <|
  fa1 (s_zret (by decide +kernel) rfl) <|
  fa1 (s_iinc (j := 4) (d := 1) (by decide +kernel) (by decide)) <|
  fa1 (s_goto (off := -34) (by decide +kernel) (by decide)) <|
  fa1 (s_aload_n (kf := 0) (j := 0) (by decide +kernel) rfl) <|
  fa1 (s_getR (t2 := 9) (g := (fun _ => 1)) (ci := 7) (f := 0) (idx := 27) (C := RX7) (T := TX7) (NF := 10) (by decide +kernel) rfl (by decide) inG_X7 (by decide) w_298 lr_X7_0 (by decide)) <|
  fa1 (s_aload_n (kf := 1) (j := 1) (by decide +kernel) rfl) <|
  fa1 (s_iload_n (kf := 2) (j := 2) (by decide +kernel) rfl) <|
  fa1 (s_iload_n (kf := 3) (j := 3) (by decide +kernel) rfl) <|
  fa1 (s_vcallI (n := 3) (ci := 9) (C := RX9) (T := TX9) (NF := 6) (idx := 133) (y := yX9_isTerm) (by decide +kernel) (gg_X9_isTerm) rfl (by decide) yv_X9_isTerm (all5 w_662 w_663 w_664 w_101 w_665) rfl rfl ⟨by decide, by decide⟩) <|
  fa1 (s_ifne (off := 11) (by decide +kernel) (by decide)) <|
  fa1 (s_aload_n (kf := 0) (j := 0) (by decide +kernel) rfl) <|
  fa1 (s_iconst (n := 5) (v := 5) (by decide +kernel) (by decide +kernel) (p32 rfl)) <|
  fa1 (s_vcallI (n := 1) (ci := 7) (C := RX7) (T := TX7) (NF := 10) (idx := 114) (y := yX7_fails) (by decide +kernel) (gg_X7_fails) rfl (by decide) yv_X7_fails (all5 w_628 w_630 w_4 w_106 w_631) rfl rfl ⟨by decide, by decide⟩) <|
  fa1 (s_ifeq (off := 7) (by decide +kernel) (by decide)) <|
  fa1 (s_iconst (n := 1) (v := 1) (by decide +kernel) (by decide +kernel) (p32 rfl)) <|
  fa1 (s_goto (off := 4) (by decide +kernel) (by decide)) <|
  fa1 (s_iconst (n := 0) (v := 0) (by decide +kernel) (by decide +kernel) (p32 rfl)) <|
  fa1 (s_zret (by decide +kernel) rfl) <| fa0
theorem gg_X7_wantTerm {G : Wp} {l : Launch} : GoodM loC G l yX7_wantTerm cX7_wantTerm 5 (some .boolean) rm_X7_wantTerm f_X7_wantTerm := met_of kt_X7_wantTerm (lkp_snd (ks_X7_wantTerm G l)) (by decide +kernel) rfl (by decide)
noncomputable def k_X7_tellSaying : List (Nat × Ins) := [
  (0, i_aload 1 0),
  (1, i_getR 4 7 3 (fun _ => 23)),
  (4, i_getI 7 3 9),
  (7, i_push 9 (.inl 24)),
  (9, i_cmplt 12 19),
  (12, i_aload 13 0),
  (13, i_push 15 (.inl 6)),
  (15, i_callI 18 2 (rcv 7) f_X7_fails),
  (18, i_zret),
  (19, i_aload 20 0),
  (20, i_aload 21 0),
  (21, i_getR 24 7 8 (fun _ => 153)),
  (24, i_push 25 (.inl 3)),
  (25, i_aload 26 0),
  (26, i_getR 29 7 9 (fun _ => 1)),
  (29, i_getI 32 9 5),
  (32, i_callI 35 4 (rcv 7) f_X7_wantTerm),
  (35, i_ifeq 38 77),
  (38, i_aload 39 0),
  (39, i_push 40 (.inl 3)),
  (40, i_callI 43 2 (rcv 7) f_X7_want),
  (43, i_ifeq 46 77),
  (46, i_aload 47 0),
  (47, i_aload 48 0),
  (48, i_getR 51 7 8 (fun _ => 155)),
  (51, i_push 52 (.inl 3)),
  (52, i_aload 53 0),
  (53, i_getR 56 7 9 (fun _ => 1)),
  (56, i_getI 59 9 5),
  (59, i_callI 62 4 (rcv 7) f_X7_wantTerm),
  (62, i_ifeq 65 77),
  (65, i_aload 66 0),
  (66, i_push 67 (.inl 4)),
  (67, i_callI 70 2 (rcv 7) f_X7_want),
  (70, i_ifeq 73 77),
  (73, i_push 74 (.inl 1)),
  (74, i_goto 78),
  (77, i_push 78 (.inl 0)),
  (78, i_istore 80 4),
  (80, i_iload 82 4),
  (82, i_ifeq 85 103),
  (85, i_aload 86 0),
  (86, i_getR 89 7 3 (fun _ => 23)),
  (89, i_aload 90 0),
  (90, i_getR 93 7 8 (fun _ => 153)),
  (93, i_aload 94 0),
  (94, i_getR 97 7 8 (fun _ => 155)),
  (97, i_iload 98 1),
  (98, i_iload 99 2),
  (99, i_iload 100 3),
  (100, i_callV 103 6 (rcv 3) f_X3_add),
  (103, i_iload 105 4),
  (105, i_zret)]
noncomputable def kc_X7_tellSaying : Nat → Option Ins := lkp k_X7_tellSaying
noncomputable def f_X7_tellSaying : List AV → Mem → Option Rs := den 5 kc_X7_tellSaying
abbrev rm_X7_tellSaying : Room := { frames := 4, cells := 0, slots := 0, locals := 94 }
set_option maxRecDepth 100000 in
theorem kt_X7_tellSaying : TriC kc_X7_tellSaying := lkp_tri (fa1 (tri_aload 1 0) (fa1 (tri_getR 4 7 3 (fun _ => 23)) (fa1 (tri_getI 7 3 9) (fa1 (tri_push 9 (.inl 24)) (fa1 (tri_cmplt 12 19) (fa1 (tri_aload 13 0) (fa1 (tri_push 15 (.inl 6)) (fa1 (tri_callI 18 2 (rcv 7) f_X7_fails) (fa1 (tri_zret) (fa1 (tri_aload 20 0) (fa1 (tri_aload 21 0) (fa1 (tri_getR 24 7 8 (fun _ => 153)) (fa1 (tri_push 25 (.inl 3)) (fa1 (tri_aload 26 0) (fa1 (tri_getR 29 7 9 (fun _ => 1)) (fa1 (tri_getI 32 9 5) (fa1 (tri_callI 35 4 (rcv 7) f_X7_wantTerm) (fa1 (tri_ifeq 38 77) (fa1 (tri_aload 39 0) (fa1 (tri_push 40 (.inl 3)) (fa1 (tri_callI 43 2 (rcv 7) f_X7_want) (fa1 (tri_ifeq 46 77) (fa1 (tri_aload 47 0) (fa1 (tri_aload 48 0) (fa1 (tri_getR 51 7 8 (fun _ => 155)) (fa1 (tri_push 52 (.inl 3)) (fa1 (tri_aload 53 0) (fa1 (tri_getR 56 7 9 (fun _ => 1)) (fa1 (tri_getI 59 9 5) (fa1 (tri_callI 62 4 (rcv 7) f_X7_wantTerm) (fa1 (tri_ifeq 65 77) (fa1 (tri_aload 66 0) (fa1 (tri_push 67 (.inl 4)) (fa1 (tri_callI 70 2 (rcv 7) f_X7_want) (fa1 (tri_ifeq 73 77) (fa1 (tri_push 74 (.inl 1)) (fa1 (tri_goto 78) (fa1 (tri_push 78 (.inl 0)) (fa1 (tri_istore 80 4) (fa1 (tri_iload 82 4) (fa1 (tri_ifeq 85 103) (fa1 (tri_aload 86 0) (fa1 (tri_getR 89 7 3 (fun _ => 23)) (fa1 (tri_aload 90 0) (fa1 (tri_getR 93 7 8 (fun _ => 153)) (fa1 (tri_aload 94 0) (fa1 (tri_getR 97 7 8 (fun _ => 155)) (fa1 (tri_iload 98 1) (fa1 (tri_iload 99 2) (fa1 (tri_iload 100 3) (fa1 (tri_callV 103 6 (rcv 3) f_X3_add) (fa1 (tri_iload 105 4) (fa1 (tri_zret) (fa0))))))))))))))))))))))))))))))))))))))))))))))))))))))
set_option maxRecDepth 100000 in
set_option maxHeartbeats 4000000 in
theorem ks_X7_tellSaying (G : Wp) (l : Launch) : ∀ e ∈ k_X7_tellSaying, Snd loC G l RX7 cX7_tellSaying 5 (some .boolean) rm_X7_tellSaying e.1 e.2 :=
  fa1 (s_aload_n (kf := 0) (j := 0) (by decide +kernel) rfl) <|
  fa1 (s_getR (t2 := 3) (g := (fun _ => 23)) (ci := 7) (f := 1) (idx := 31) (C := RX7) (T := TX7) (NF := 10) (by decide +kernel) rfl (by decide) inG_X7 (by decide) w_299 lr_X7_1 (by decide)) <|
  fa1 (s_getI (ci := 3) (f := 9) (idx := 44) (C := RX3) (T := TX3) (NF := 11) (by decide +kernel) rfl (by decide) inG_X3 (by decide) w_260 li_X3_9) <|
  fa1 (s_bipush (n := 24) (v := 24) (by decide +kernel) (by decide +kernel) (p32 rfl)) <|
  fa1 (s_cmplt (off := 10) (by decide +kernel) (by decide)) <|
  fa1 (s_aload_n (kf := 0) (j := 0) (by decide +kernel) rfl) <|
  fa1 (s_bipush (n := 6) (v := 6) (by decide +kernel) (by decide +kernel) (p32 rfl)) <|
  fa1 (s_vcallI (n := 1) (ci := 7) (C := RX7) (T := TX7) (NF := 10) (idx := 114) (y := yX7_fails) (by decide +kernel) (gg_X7_fails) rfl (by decide) yv_X7_fails (all5 w_628 w_630 w_4 w_106 w_631) rfl rfl ⟨by decide, by decide⟩) <|
  fa1 (s_zret (by decide +kernel) rfl) <|
  fa1 (s_aload_n (kf := 0) (j := 0) (by decide +kernel) rfl) <|
  fa1 (s_aload_n (kf := 0) (j := 0) (by decide +kernel) rfl) <|
  fa1 (s_getR (t2 := 8) (g := (fun _ => 153)) (ci := 7) (f := 3) (idx := 20) (C := RX7) (T := TX7) (NF := 10) (by decide +kernel) rfl (by decide) inG_X7 (by decide) w_301 lr_X7_3 (by decide)) <|
  fa1 (s_iconst (n := 3) (v := 3) (by decide +kernel) (by decide +kernel) (p32 rfl)) <|
  fa1 (s_aload_n (kf := 0) (j := 0) (by decide +kernel) rfl) <|
  fa1 (s_getR (t2 := 9) (g := (fun _ => 1)) (ci := 7) (f := 0) (idx := 27) (C := RX7) (T := TX7) (NF := 10) (by decide +kernel) rfl (by decide) inG_X7 (by decide) w_298 lr_X7_0 (by decide)) <|
  fa1 (s_getI (ci := 9) (f := 5) (idx := 39) (C := RX9) (T := TX9) (NF := 6) (by decide +kernel) rfl (by decide) inG_X9 (by decide) w_161 li_X9_5) <|
  fa1 (s_vcallI (n := 3) (ci := 7) (C := RX7) (T := TX7) (NF := 10) (idx := 76) (y := yX7_wantTerm) (by decide +kernel) (gg_X7_wantTerm) rfl (by decide) yv_X7_wantTerm (all5 w_654 w_656 w_9 w_106 w_657) rfl rfl ⟨by decide, by decide⟩) <|
  fa1 (s_ifeq (off := 42) (by decide +kernel) (by decide)) <|
  fa1 (s_aload_n (kf := 0) (j := 0) (by decide +kernel) rfl) <|
  fa1 (s_iconst (n := 3) (v := 3) (by decide +kernel) (by decide +kernel) (p32 rfl)) <|
  fa1 (s_vcallI (n := 1) (ci := 7) (C := RX7) (T := TX7) (NF := 10) (idx := 80) (y := yX7_want) (by decide +kernel) (gg_X7_want) rfl (by decide) yv_X7_want (all5 w_646 w_648 w_8 w_106 w_649) rfl rfl ⟨by decide, by decide⟩) <|
  fa1 (s_ifeq (off := 34) (by decide +kernel) (by decide)) <|
  fa1 (s_aload_n (kf := 0) (j := 0) (by decide +kernel) rfl) <|
  fa1 (s_aload_n (kf := 0) (j := 0) (by decide +kernel) rfl) <|
  fa1 (s_getR (t2 := 8) (g := (fun _ => 155)) (ci := 7) (f := 4) (idx := 24) (C := RX7) (T := TX7) (NF := 10) (by decide +kernel) rfl (by decide) inG_X7 (by decide) w_302 lr_X7_4 (by decide)) <|
  fa1 (s_iconst (n := 3) (v := 3) (by decide +kernel) (by decide +kernel) (p32 rfl)) <|
  fa1 (s_aload_n (kf := 0) (j := 0) (by decide +kernel) rfl) <|
  fa1 (s_getR (t2 := 9) (g := (fun _ => 1)) (ci := 7) (f := 0) (idx := 27) (C := RX7) (T := TX7) (NF := 10) (by decide +kernel) rfl (by decide) inG_X7 (by decide) w_298 lr_X7_0 (by decide)) <|
  fa1 (s_getI (ci := 9) (f := 5) (idx := 39) (C := RX9) (T := TX9) (NF := 6) (by decide +kernel) rfl (by decide) inG_X9 (by decide) w_161 li_X9_5) <|
  fa1 (s_vcallI (n := 3) (ci := 7) (C := RX7) (T := TX7) (NF := 10) (idx := 76) (y := yX7_wantTerm) (by decide +kernel) (gg_X7_wantTerm) rfl (by decide) yv_X7_wantTerm (all5 w_654 w_656 w_9 w_106 w_657) rfl rfl ⟨by decide, by decide⟩) <|
  fa1 (s_ifeq (off := 15) (by decide +kernel) (by decide)) <|
  fa1 (s_aload_n (kf := 0) (j := 0) (by decide +kernel) rfl) <|
  fa1 (s_iconst (n := 4) (v := 4) (by decide +kernel) (by decide +kernel) (p32 rfl)) <|
  fa1 (s_vcallI (n := 1) (ci := 7) (C := RX7) (T := TX7) (NF := 10) (idx := 80) (y := yX7_want) (by decide +kernel) (gg_X7_want) rfl (by decide) yv_X7_want (all5 w_646 w_648 w_8 w_106 w_649) rfl rfl ⟨by decide, by decide⟩) <|
  fa1 (s_ifeq (off := 7) (by decide +kernel) (by decide)) <|
  fa1 (s_iconst (n := 1) (v := 1) (by decide +kernel) (by decide +kernel) (p32 rfl)) <|
  fa1 (s_goto (off := 4) (by decide +kernel) (by decide)) <|
  fa1 (s_iconst (n := 0) (v := 0) (by decide +kernel) (by decide +kernel) (p32 rfl)) <|
  fa1 (s_istore (j := 4) (by decide +kernel) (by decide)) <|
  fa1 (s_iload (j := 4) (by decide +kernel)) <|
  fa1 (s_ifeq (off := 21) (by decide +kernel) (by decide)) <|
  fa1 (s_aload_n (kf := 0) (j := 0) (by decide +kernel) rfl) <|
  fa1 (s_getR (t2 := 3) (g := (fun _ => 23)) (ci := 7) (f := 1) (idx := 31) (C := RX7) (T := TX7) (NF := 10) (by decide +kernel) rfl (by decide) inG_X7 (by decide) w_299 lr_X7_1 (by decide)) <|
  fa1 (s_aload_n (kf := 0) (j := 0) (by decide +kernel) rfl) <|
  fa1 (s_getR (t2 := 8) (g := (fun _ => 153)) (ci := 7) (f := 3) (idx := 20) (C := RX7) (T := TX7) (NF := 10) (by decide +kernel) rfl (by decide) inG_X7 (by decide) w_301 lr_X7_3 (by decide)) <|
  fa1 (s_aload_n (kf := 0) (j := 0) (by decide +kernel) rfl) <|
  fa1 (s_getR (t2 := 8) (g := (fun _ => 155)) (ci := 7) (f := 4) (idx := 24) (C := RX7) (T := TX7) (NF := 10) (by decide +kernel) rfl (by decide) inG_X7 (by decide) w_302 lr_X7_4 (by decide)) <|
  fa1 (s_iload_n (kf := 1) (j := 1) (by decide +kernel) rfl) <|
  fa1 (s_iload_n (kf := 2) (j := 2) (by decide +kernel) rfl) <|
  fa1 (s_iload_n (kf := 3) (j := 3) (by decide +kernel) rfl) <|
  fa1 (s_vcallV (n := 5) (ci := 3) (C := RX3) (T := TX3) (NF := 11) (idx := 127) (y := yX3_add) (by decide +kernel) (gg_X3_add) rfl (by decide) yv_X3_add (all5 w_698 w_699 w_700 w_104 w_701) rfl rfl ⟨by decide, by decide⟩) <|
  fa1 (s_iload (j := 4) (by decide +kernel)) <|
  fa1 (s_zret (by decide +kernel) rfl) <| fa0
theorem gg_X7_tellSaying {G : Wp} {l : Launch} : GoodM loC G l yX7_tellSaying cX7_tellSaying 5 (some .boolean) rm_X7_tellSaying f_X7_tellSaying := met_of kt_X7_tellSaying (lkp_snd (ks_X7_tellSaying G l)) (by decide +kernel) rfl (by decide)
noncomputable def k_X9_add : List (Nat × Ins) := [
  (0, i_aload 1 0),
  (1, i_getI 4 9 5),
  (4, i_push 5 (.inl 4)),
  (5, i_cmpge 8 17),
  (8, i_iload 9 1),
  (9, i_iflt 12 17),
  (12, i_iload 13 1),
  (13, i_push 14 (.inl 4)),
  (14, i_cmplt 17 18),
  (17, i_vret),
  (18, i_aload 19 0),
  (19, i_getR 22 9 20 (fun _ => 2)),
  (22, i_aload 23 0),
  (23, i_getI 26 9 5),
  (26, i_iload 27 1),
  (27, i_ast 28 20 lnC id),
  (28, i_aload 29 0),
  (29, i_getR 32 9 20 (fun _ => 3)),
  (32, i_aload 33 0),
  (33, i_getI 36 9 5),
  (36, i_iload 37 2),
  (37, i_ast 38 20 lnC id),
  (38, i_aload 39 0),
  (39, i_getR 42 9 20 (fun _ => 4)),
  (42, i_iload 43 1),
  (43, i_aload 44 0),
  (44, i_getI 47 9 5),
  (47, i_ast 48 20 lnC id),
  (48, i_aload 49 0),
  (49, i_getR 52 9 28 (fun _ => 6)),
  (52, i_aload 53 0),
  (53, i_getI 56 9 5),
  (56, i_aldR 57 28 8 lnC (fun _ i => 9 + 4 * i)),
  (57, i_aload 58 3),
  (58, i_callV 61 2 (rcv 8) f_X8_copy),
  (61, i_aload 62 0),
  (62, i_getR 65 9 27 (fun _ => 5)),
  (65, i_aload 66 0),
  (66, i_getI 69 9 5),
  (69, i_aldR 70 27 8 lnC (fun _ i => 7 + 4 * i)),
  (70, i_astore 72 4),
  (72, i_aload 74 4),
  (74, i_push 75 (.inl 0)),
  (75, i_putI 78 8 1),
  (78, i_aload 80 4),
  (80, i_iload 81 1),
  (81, i_callI 84 2 (rcv 8) f_X8_add),
  (84, i_pop 85),
  (85, i_push 86 (.inl 0)),
  (86, i_istore 88 5),
  (88, i_iload 90 5),
  (90, i_iload 91 2),
  (91, i_cmpge 94 117),
  (94, i_iload 96 5),
  (96, i_push 97 (.inl 3)),
  (97, i_cmpge 100 117),
  (100, i_aload 102 4),
  (102, i_push 104 (.inl 23)),
  (104, i_iload 106 5),
  (106, i_bin 107 (fun x y => wr (x + y))),
  (107, i_callI 110 2 (rcv 8) f_X8_add),
  (110, i_pop 111),
  (111, i_iinc 114 5 (1)),
  (114, i_goto 88),
  (117, i_aload 118 0),
  (118, i_dup 119),
  (119, i_getI 122 9 5),
  (122, i_push 123 (.inl 1)),
  (123, i_bin 124 (fun x y => wr (x + y))),
  (124, i_putI 127 9 5),
  (127, i_vret)]
noncomputable def kc_X9_add : Nat → Option Ins := lkp k_X9_add
noncomputable def f_X9_add : List AV → Mem → Option Rs := den 6 kc_X9_add
abbrev rm_X9_add : Room := { frames := 2, cells := 0, slots := 0, locals := 45 }
set_option maxRecDepth 100000 in
theorem kt_X9_add : TriC kc_X9_add := lkp_tri (fa1 (tri_aload 1 0) (fa1 (tri_getI 4 9 5) (fa1 (tri_push 5 (.inl 4)) (fa1 (tri_cmpge 8 17) (fa1 (tri_iload 9 1) (fa1 (tri_iflt 12 17) (fa1 (tri_iload 13 1) (fa1 (tri_push 14 (.inl 4)) (fa1 (tri_cmplt 17 18) (fa1 (tri_vret) (fa1 (tri_aload 19 0) (fa1 (tri_getR 22 9 20 (fun _ => 2)) (fa1 (tri_aload 23 0) (fa1 (tri_getI 26 9 5) (fa1 (tri_iload 27 1) (fa1 (tri_ast 28 20 lnC id) (fa1 (tri_aload 29 0) (fa1 (tri_getR 32 9 20 (fun _ => 3)) (fa1 (tri_aload 33 0) (fa1 (tri_getI 36 9 5) (fa1 (tri_iload 37 2) (fa1 (tri_ast 38 20 lnC id) (fa1 (tri_aload 39 0) (fa1 (tri_getR 42 9 20 (fun _ => 4)) (fa1 (tri_iload 43 1) (fa1 (tri_aload 44 0) (fa1 (tri_getI 47 9 5) (fa1 (tri_ast 48 20 lnC id) (fa1 (tri_aload 49 0) (fa1 (tri_getR 52 9 28 (fun _ => 6)) (fa1 (tri_aload 53 0) (fa1 (tri_getI 56 9 5) (fa1 (tri_aldR 57 28 8 lnC (fun _ i => 9 + 4 * i)) (fa1 (tri_aload 58 3) (fa1 (tri_callV 61 2 (rcv 8) f_X8_copy) (fa1 (tri_aload 62 0) (fa1 (tri_getR 65 9 27 (fun _ => 5)) (fa1 (tri_aload 66 0) (fa1 (tri_getI 69 9 5) (fa1 (tri_aldR 70 27 8 lnC (fun _ i => 7 + 4 * i)) (fa1 (tri_astore 72 4) (fa1 (tri_aload 74 4) (fa1 (tri_push 75 (.inl 0)) (fa1 (tri_putI 78 8 1) (fa1 (tri_aload 80 4) (fa1 (tri_iload 81 1) (fa1 (tri_callI 84 2 (rcv 8) f_X8_add) (fa1 (tri_pop 85) (fa1 (tri_push 86 (.inl 0)) (fa1 (tri_istore 88 5) (fa1 (tri_iload 90 5) (fa1 (tri_iload 91 2) (fa1 (tri_cmpge 94 117) (fa1 (tri_iload 96 5) (fa1 (tri_push 97 (.inl 3)) (fa1 (tri_cmpge 100 117) (fa1 (tri_aload 102 4) (fa1 (tri_push 104 (.inl 23)) (fa1 (tri_iload 106 5) (fa1 (tri_bin 107 (fun x y => wr (x + y))) (fa1 (tri_callI 110 2 (rcv 8) f_X8_add) (fa1 (tri_pop 111) (fa1 (tri_iinc 114 5 (1)) (fa1 (tri_goto 88) (fa1 (tri_aload 118 0) (fa1 (tri_dup 119) (fa1 (tri_getI 122 9 5) (fa1 (tri_push 123 (.inl 1)) (fa1 (tri_bin 124 (fun x y => wr (x + y))) (fa1 (tri_putI 127 9 5) (fa1 (tri_vret) (fa0))))))))))))))))))))))))))))))))))))))))))))))))))))))))))))))))))))))))
set_option maxRecDepth 100000 in
set_option maxHeartbeats 4000000 in
theorem ks_X9_add (G : Wp) (l : Launch) : ∀ e ∈ k_X9_add, Snd loC G l RX9 cX9_add 6 none rm_X9_add e.1 e.2 :=
  fa1 (s_aload_n (kf := 0) (j := 0) (by decide +kernel) rfl) <|
  fa1 (s_getI (ci := 9) (f := 5) (idx := 33) (C := RX9) (T := TX9) (NF := 6) (by decide +kernel) rfl (by decide) inG_X9 (by decide) w_160 li_X9_5) <|
  fa1 (s_iconst (n := 4) (v := 4) (by decide +kernel) (by decide +kernel) (p32 rfl)) <|
  fa1 (s_cmpge (off := 12) (by decide +kernel) (by decide)) <|
  fa1 (s_iload_n (kf := 1) (j := 1) (by decide +kernel) rfl) <|
  fa1 (s_iflt (off := 8) (by decide +kernel) (by decide)) <|
  fa1 (s_iload_n (kf := 1) (j := 1) (by decide +kernel) rfl) <|
  fa1 (s_iconst (n := 4) (v := 4) (by decide +kernel) (by decide +kernel) (p32 rfl)) <|
  fa1 (s_cmplt (off := 4) (by decide +kernel) (by decide)) <|
  fa1 (s_vret (by decide +kernel) rfl) <|
  fa1 (s_aload_n (kf := 0) (j := 0) (by decide +kernel) rfl) <|
  fa1 (s_getR (t2 := 20) (g := (fun _ => 2)) (ci := 9) (f := 0) (idx := 9) (C := RX9) (T := TX9) (NF := 6) (by decide +kernel) rfl (by decide) inG_X9 (by decide) w_155 lr_X9_0 (by decide)) <|
  fa1 (s_aload_n (kf := 0) (j := 0) (by decide +kernel) rfl) <|
  fa1 (s_getI (ci := 9) (f := 5) (idx := 33) (C := RX9) (T := TX9) (NF := 6) (by decide +kernel) rfl (by decide) inG_X9 (by decide) w_160 li_X9_5) <|
  fa1 (s_iload_n (kf := 1) (j := 1) (by decide +kernel) rfl) <|
  fa1 (s_iast (by decide +kernel) lt_loC_20) <|
  fa1 (s_aload_n (kf := 0) (j := 0) (by decide +kernel) rfl) <|
  fa1 (s_getR (t2 := 20) (g := (fun _ => 3)) (ci := 9) (f := 1) (idx := 15) (C := RX9) (T := TX9) (NF := 6) (by decide +kernel) rfl (by decide) inG_X9 (by decide) w_156 lr_X9_1 (by decide)) <|
  fa1 (s_aload_n (kf := 0) (j := 0) (by decide +kernel) rfl) <|
  fa1 (s_getI (ci := 9) (f := 5) (idx := 33) (C := RX9) (T := TX9) (NF := 6) (by decide +kernel) rfl (by decide) inG_X9 (by decide) w_160 li_X9_5) <|
  fa1 (s_iload_n (kf := 2) (j := 2) (by decide +kernel) rfl) <|
  fa1 (s_iast (by decide +kernel) lt_loC_20) <|
  fa1 (s_aload_n (kf := 0) (j := 0) (by decide +kernel) rfl) <|
  fa1 (s_getR (t2 := 20) (g := (fun _ => 4)) (ci := 9) (f := 2) (idx := 18) (C := RX9) (T := TX9) (NF := 6) (by decide +kernel) rfl (by decide) inG_X9 (by decide) w_157 lr_X9_2 (by decide)) <|
  fa1 (s_iload_n (kf := 1) (j := 1) (by decide +kernel) rfl) <|
  fa1 (s_aload_n (kf := 0) (j := 0) (by decide +kernel) rfl) <|
  fa1 (s_getI (ci := 9) (f := 5) (idx := 33) (C := RX9) (T := TX9) (NF := 6) (by decide +kernel) rfl (by decide) inG_X9 (by decide) w_160 li_X9_5) <|
  fa1 (s_iast (by decide +kernel) lt_loC_20) <|
  fa1 (s_aload_n (kf := 0) (j := 0) (by decide +kernel) rfl) <|
  fa1 (s_getR (t2 := 28) (g := (fun _ => 6)) (ci := 9) (f := 4) (idx := 27) (C := RX9) (T := TX9) (NF := 6) (by decide +kernel) rfl (by decide) inG_X9 (by decide) w_159 lr_X9_4 (by decide)) <|
  fa1 (s_aload_n (kf := 0) (j := 0) (by decide +kernel) rfl) <|
  fa1 (s_getI (ci := 9) (f := 5) (idx := 33) (C := RX9) (T := TX9) (NF := 6) (by decide +kernel) rfl (by decide) inG_X9 (by decide) w_160 li_X9_5) <|
  fa1 (s_aldR (t := 28) (t2 := 8) (g := (fun _ i => 9 + 4 * i)) (by decide +kernel) (by decide) (by decide) rfl (by decide) le_28) <|
  fa1 (s_aload_n (kf := 3) (j := 3) (by decide +kernel) rfl) <|
  fa1 (s_vcallV (n := 1) (ci := 8) (C := RX8) (T := TX8) (NF := 2) (idx := 37) (y := yX8_copy) (by decide +kernel) (gg_X8_copy) rfl (by decide) yv_X8_copy (all5 w_683 w_684 w_685 w_102 w_686) rfl rfl ⟨by decide, by decide⟩) <|
  fa1 (s_aload_n (kf := 0) (j := 0) (by decide +kernel) rfl) <|
  fa1 (s_getR (t2 := 27) (g := (fun _ => 5)) (ci := 9) (f := 3) (idx := 23) (C := RX9) (T := TX9) (NF := 6) (by decide +kernel) rfl (by decide) inG_X9 (by decide) w_158 lr_X9_3 (by decide)) <|
  fa1 (s_aload_n (kf := 0) (j := 0) (by decide +kernel) rfl) <|
  fa1 (s_getI (ci := 9) (f := 5) (idx := 33) (C := RX9) (T := TX9) (NF := 6) (by decide +kernel) rfl (by decide) inG_X9 (by decide) w_160 li_X9_5) <|
  fa1 (s_aldR (t := 27) (t2 := 8) (g := (fun _ i => 7 + 4 * i)) (by decide +kernel) (by decide) (by decide) rfl (by decide) le_27) <|
  fa1 (s_astore (j := 4) (by decide +kernel) (by decide)) <|
  fa1 (s_aload (j := 4) (by decide +kernel)) <|
  fa1 (s_iconst (n := 0) (v := 0) (by decide +kernel) (by decide +kernel) (p32 rfl)) <|
  fa1 (s_putI (ci := 8) (f := 1) (idx := 41) (C := RX8) (T := TX8) (NF := 2) (by decide +kernel) rfl (by decide) inG_X8 (by decide) w_142 tyX8 tyX8_ok nmX8 rfl (by decide +kernel) li_X8_1) <|
  fa1 (s_aload (j := 4) (by decide +kernel)) <|
  fa1 (s_iload_n (kf := 1) (j := 1) (by decide +kernel) rfl) <|
  fa1 (s_vcallI (n := 1) (ci := 8) (C := RX8) (T := TX8) (NF := 2) (idx := 42) (y := yX8_add) (by decide +kernel) (gg_X8_add) rfl (by decide) yv_X8_add (all5 w_691 w_659 w_660 w_102 w_661) rfl rfl ⟨by decide, by decide⟩) <|
  fa1 (s_pop (by decide +kernel)) <|
  fa1 (s_iconst (n := 0) (v := 0) (by decide +kernel) (by decide +kernel) (p32 rfl)) <|
  fa1 (s_istore (j := 5) (by decide +kernel) (by decide)) <|
  fa1 (s_iload (j := 5) (by decide +kernel)) <|
  fa1 (s_iload_n (kf := 2) (j := 2) (by decide +kernel) rfl) <|
  fa1 (s_cmpge (off := 26) (by decide +kernel) (by decide)) <|
  fa1 (s_iload (j := 5) (by decide +kernel)) <|
  fa1 (s_iconst (n := 3) (v := 3) (by decide +kernel) (by decide +kernel) (p32 rfl)) <|
  fa1 (s_cmpge (off := 20) (by decide +kernel) (by decide)) <|
  fa1 (s_aload (j := 4) (by decide +kernel)) <|
  fa1 (s_bipush (n := 23) (v := 23) (by decide +kernel) (by decide +kernel) (p32 rfl)) <|
  fa1 (s_iload (j := 5) (by decide +kernel)) <|
  fa1 (s_iadd (by decide +kernel)) <|
  fa1 (s_vcallI (n := 1) (ci := 8) (C := RX8) (T := TX8) (NF := 2) (idx := 42) (y := yX8_add) (by decide +kernel) (gg_X8_add) rfl (by decide) yv_X8_add (all5 w_691 w_659 w_660 w_102 w_661) rfl rfl ⟨by decide, by decide⟩) <|
  fa1 (s_pop (by decide +kernel)) <|
  fa1 (s_iinc (j := 5) (d := 1) (by decide +kernel) (by decide)) <|
  fa1 (s_goto (off := -26) (by decide +kernel) (by decide)) <|
  fa1 (s_aload_n (kf := 0) (j := 0) (by decide +kernel) rfl) <|
  fa1 (s_dup (by decide +kernel)) <|
  fa1 (s_getI (ci := 9) (f := 5) (idx := 33) (C := RX9) (T := TX9) (NF := 6) (by decide +kernel) rfl (by decide) inG_X9 (by decide) w_160 li_X9_5) <|
  fa1 (s_iconst (n := 1) (v := 1) (by decide +kernel) (by decide +kernel) (p32 rfl)) <|
  fa1 (s_iadd (by decide +kernel)) <|
  fa1 (s_putI (ci := 9) (f := 5) (idx := 33) (C := RX9) (T := TX9) (NF := 6) (by decide +kernel) rfl (by decide) inG_X9 (by decide) w_160 tyX9 tyX9_ok nmX9 rfl (by decide +kernel) li_X9_5) <|
  fa1 (s_vret (by decide +kernel) rfl) <| fa0
theorem gg_X9_add {G : Wp} {l : Launch} : GoodM loC G l yX9_add cX9_add 6 none rm_X9_add f_X9_add := met_of kt_X9_add (lkp_snd (ks_X9_add G l)) (by decide +kernel) rfl (by decide)
noncomputable def k_X7_tellWord : List (Nat × Ins) := [
  (0, i_aload 1 0),
  (1, i_push 2 (.inl 1)),
  (2, i_callI 5 2 (rcv 7) f_X7_want),
  (5, i_ifne 8 10),
  (8, i_push 9 (.inl 0)),
  (9, i_zret),
  (10, i_aload 11 0),
  (11, i_aload 12 0),
  (12, i_getI 15 7 6),
  (15, i_callI 18 2 (rcv 7) f_X7_byteAt),
  (18, i_push 20 (.inl 97)),
  (20, i_bin 21 (fun x y => wr (x - y))),
  (21, i_istore 22 1),
  (22, i_aload 23 0),
  (23, i_getI 26 7 7),
  (26, i_aload 27 0),
  (27, i_getI 30 7 6),
  (30, i_bin 31 (fun x y => wr (x - y))),
  (31, i_push 32 (.inl 1)),
  (32, i_cmpne 35 40),
  (35, i_iload 36 1),
  (36, i_push 37 (.inl 4)),
  (37, i_cmplt 40 46),
  (40, i_aload 41 0),
  (41, i_push 42 (.inl 2)),
  (42, i_callI 45 2 (rcv 7) f_X7_fails),
  (45, i_zret),
  (46, i_aload 47 0),
  (47, i_getR 50 7 9 (fun _ => 1)),
  (50, i_iload 51 1),
  (51, i_callI 54 2 (rcv 9) f_X9_numberOf),
  (54, i_iflt 57 63),
  (57, i_aload 58 0),
  (58, i_push 59 (.inl 4)),
  (59, i_callI 62 2 (rcv 7) f_X7_fails),
  (62, i_zret),
  (63, i_aload 64 0),
  (64, i_push 65 (.inl 2)),
  (65, i_callI 68 2 (rcv 7) f_X7_want),
  (68, i_ifne 71 73),
  (71, i_push 72 (.inl 0)),
  (72, i_zret),
  (73, i_aload 74 0),
  (74, i_aload 75 0),
  (75, i_getI 78 7 6),
  (78, i_callI 81 2 (rcv 7) f_X7_byteAt),
  (81, i_push 83 (.inl 48)),
  (83, i_bin 84 (fun x y => wr (x - y))),
  (84, i_istore 85 2),
  (85, i_iload 86 2),
  (86, i_push 87 (.inl 1)),
  (87, i_cmplt 90 95),
  (90, i_iload 91 2),
  (91, i_push 92 (.inl 2)),
  (92, i_cmple 95 101),
  (95, i_aload 96 0),
  (96, i_push 97 (.inl 3)),
  (97, i_callI 100 2 (rcv 7) f_X7_fails),
  (100, i_zret),
  (101, i_aload 102 0),
  (102, i_aload 103 0),
  (103, i_getR 106 7 8 (fun _ => 153)),
  (106, i_iload 107 2),
  (107, i_aload 108 0),
  (108, i_getR 111 7 9 (fun _ => 1)),
  (111, i_getI 114 9 5),
  (114, i_callI 117 4 (rcv 7) f_X7_wantTerm),
  (117, i_ifeq 120 128),
  (120, i_aload 121 0),
  (121, i_push 122 (.inl 4)),
  (122, i_callI 125 2 (rcv 7) f_X7_want),
  (125, i_ifne 128 130),
  (128, i_push 129 (.inl 0)),
  (129, i_zret),
  (130, i_aload 131 0),
  (131, i_getR 134 7 9 (fun _ => 1)),
  (134, i_iload 135 1),
  (135, i_iload 136 2),
  (136, i_aload 137 0),
  (137, i_getR 140 7 8 (fun _ => 153)),
  (140, i_callV 143 4 (rcv 9) f_X9_add),
  (143, i_push 144 (.inl 1)),
  (144, i_zret)]
noncomputable def kc_X7_tellWord : Nat → Option Ins := lkp k_X7_tellWord
noncomputable def f_X7_tellWord : List AV → Mem → Option Rs := den 3 kc_X7_tellWord
abbrev rm_X7_tellWord : Room := { frames := 4, cells := 0, slots := 0, locals := 94 }
set_option maxRecDepth 100000 in
theorem kt_X7_tellWord : TriC kc_X7_tellWord := lkp_tri (fa1 (tri_aload 1 0) (fa1 (tri_push 2 (.inl 1)) (fa1 (tri_callI 5 2 (rcv 7) f_X7_want) (fa1 (tri_ifne 8 10) (fa1 (tri_push 9 (.inl 0)) (fa1 (tri_zret) (fa1 (tri_aload 11 0) (fa1 (tri_aload 12 0) (fa1 (tri_getI 15 7 6) (fa1 (tri_callI 18 2 (rcv 7) f_X7_byteAt) (fa1 (tri_push 20 (.inl 97)) (fa1 (tri_bin 21 (fun x y => wr (x - y))) (fa1 (tri_istore 22 1) (fa1 (tri_aload 23 0) (fa1 (tri_getI 26 7 7) (fa1 (tri_aload 27 0) (fa1 (tri_getI 30 7 6) (fa1 (tri_bin 31 (fun x y => wr (x - y))) (fa1 (tri_push 32 (.inl 1)) (fa1 (tri_cmpne 35 40) (fa1 (tri_iload 36 1) (fa1 (tri_push 37 (.inl 4)) (fa1 (tri_cmplt 40 46) (fa1 (tri_aload 41 0) (fa1 (tri_push 42 (.inl 2)) (fa1 (tri_callI 45 2 (rcv 7) f_X7_fails) (fa1 (tri_zret) (fa1 (tri_aload 47 0) (fa1 (tri_getR 50 7 9 (fun _ => 1)) (fa1 (tri_iload 51 1) (fa1 (tri_callI 54 2 (rcv 9) f_X9_numberOf) (fa1 (tri_iflt 57 63) (fa1 (tri_aload 58 0) (fa1 (tri_push 59 (.inl 4)) (fa1 (tri_callI 62 2 (rcv 7) f_X7_fails) (fa1 (tri_zret) (fa1 (tri_aload 64 0) (fa1 (tri_push 65 (.inl 2)) (fa1 (tri_callI 68 2 (rcv 7) f_X7_want) (fa1 (tri_ifne 71 73) (fa1 (tri_push 72 (.inl 0)) (fa1 (tri_zret) (fa1 (tri_aload 74 0) (fa1 (tri_aload 75 0) (fa1 (tri_getI 78 7 6) (fa1 (tri_callI 81 2 (rcv 7) f_X7_byteAt) (fa1 (tri_push 83 (.inl 48)) (fa1 (tri_bin 84 (fun x y => wr (x - y))) (fa1 (tri_istore 85 2) (fa1 (tri_iload 86 2) (fa1 (tri_push 87 (.inl 1)) (fa1 (tri_cmplt 90 95) (fa1 (tri_iload 91 2) (fa1 (tri_push 92 (.inl 2)) (fa1 (tri_cmple 95 101) (fa1 (tri_aload 96 0) (fa1 (tri_push 97 (.inl 3)) (fa1 (tri_callI 100 2 (rcv 7) f_X7_fails) (fa1 (tri_zret) (fa1 (tri_aload 102 0) (fa1 (tri_aload 103 0) (fa1 (tri_getR 106 7 8 (fun _ => 153)) (fa1 (tri_iload 107 2) (fa1 (tri_aload 108 0) (fa1 (tri_getR 111 7 9 (fun _ => 1)) (fa1 (tri_getI 114 9 5) (fa1 (tri_callI 117 4 (rcv 7) f_X7_wantTerm) (fa1 (tri_ifeq 120 128) (fa1 (tri_aload 121 0) (fa1 (tri_push 122 (.inl 4)) (fa1 (tri_callI 125 2 (rcv 7) f_X7_want) (fa1 (tri_ifne 128 130) (fa1 (tri_push 129 (.inl 0)) (fa1 (tri_zret) (fa1 (tri_aload 131 0) (fa1 (tri_getR 134 7 9 (fun _ => 1)) (fa1 (tri_iload 135 1) (fa1 (tri_iload 136 2) (fa1 (tri_aload 137 0) (fa1 (tri_getR 140 7 8 (fun _ => 153)) (fa1 (tri_callV 143 4 (rcv 9) f_X9_add) (fa1 (tri_push 144 (.inl 1)) (fa1 (tri_zret) (fa0))))))))))))))))))))))))))))))))))))))))))))))))))))))))))))))))))))))))))))))))))))
set_option maxRecDepth 100000 in
set_option maxHeartbeats 4000000 in
theorem ks_X7_tellWord (G : Wp) (l : Launch) : ∀ e ∈ k_X7_tellWord, Snd loC G l RX7 cX7_tellWord 3 (some .boolean) rm_X7_tellWord e.1 e.2 :=
  fa1 (s_aload_n (kf := 0) (j := 0) (by decide +kernel) rfl) <|
  fa1 (s_iconst (n := 1) (v := 1) (by decide +kernel) (by decide +kernel) (p32 rfl)) <|
  fa1 (s_vcallI (n := 1) (ci := 7) (C := RX7) (T := TX7) (NF := 10) (idx := 80) (y := yX7_want) (by decide +kernel) (gg_X7_want) rfl (by decide) yv_X7_want (all5 w_646 w_648 w_8 w_106 w_649) rfl rfl ⟨by decide, by decide⟩) <|
  fa1 (s_ifne (off := 5) (by decide +kernel) (by decide)) <|
  fa1 (s_iconst (n := 0) (v := 0) (by decide +kernel) (by decide +kernel) (p32 rfl)) <|
  fa1 (s_zret (by decide +kernel) rfl) <|
  fa1 (s_aload_n (kf := 0) (j := 0) (by decide +kernel) rfl) <|
  fa1 (s_aload_n (kf := 0) (j := 0) (by decide +kernel) rfl) <|
  fa1 (s_getI (ci := 7) (f := 6) (idx := 65) (C := RX7) (T := TX7) (NF := 10) (by decide +kernel) rfl (by decide) inG_X7 (by decide) w_304 li_X7_6) <|
  fa1 (s_vcallI (n := 1) (ci := 7) (C := RX7) (T := TX7) (NF := 10) (idx := 117) (y := yX7_byteAt) (by decide +kernel) (gg_X7_byteAt) rfl (by decide) yv_X7_byteAt (all5 w_620 w_622 w_2 w_106 w_623) rfl rfl ⟨by decide, by decide⟩) <|
  fa1 (s_bipush (n := 97) (v := 97) (by decide +kernel) (by decide +kernel) (p32 rfl)) <|
  fa1 (s_isub (by decide +kernel)) <|
  fa1 (s_istore_n (kf := 1) (j := 1) (by decide +kernel) rfl (by decide)) <|
  fa1 (s_aload_n (kf := 0) (j := 0) (by decide +kernel) rfl) <|
  fa1 (s_getI (ci := 7) (f := 7) (idx := 88) (C := RX7) (T := TX7) (NF := 10) (by decide +kernel) rfl (by decide) inG_X7 (by decide) w_305 li_X7_7) <|
  fa1 (s_aload_n (kf := 0) (j := 0) (by decide +kernel) rfl) <|
  fa1 (s_getI (ci := 7) (f := 6) (idx := 65) (C := RX7) (T := TX7) (NF := 10) (by decide +kernel) rfl (by decide) inG_X7 (by decide) w_304 li_X7_6) <|
  fa1 (s_isub (by decide +kernel)) <|
  fa1 (s_iconst (n := 1) (v := 1) (by decide +kernel) (by decide +kernel) (p32 rfl)) <|
  fa1 (s_cmpne (off := 8) (by decide +kernel) (by decide)) <|
  fa1 (s_iload_n (kf := 1) (j := 1) (by decide +kernel) rfl) <|
  fa1 (s_iconst (n := 4) (v := 4) (by decide +kernel) (by decide +kernel) (p32 rfl)) <|
  fa1 (s_cmplt (off := 9) (by decide +kernel) (by decide)) <|
  fa1 (s_aload_n (kf := 0) (j := 0) (by decide +kernel) rfl) <|
  fa1 (s_iconst (n := 2) (v := 2) (by decide +kernel) (by decide +kernel) (p32 rfl)) <|
  fa1 (s_vcallI (n := 1) (ci := 7) (C := RX7) (T := TX7) (NF := 10) (idx := 114) (y := yX7_fails) (by decide +kernel) (gg_X7_fails) rfl (by decide) yv_X7_fails (all5 w_628 w_630 w_4 w_106 w_631) rfl rfl ⟨by decide, by decide⟩) <|
  fa1 (s_zret (by decide +kernel) rfl) <|
  fa1 (s_aload_n (kf := 0) (j := 0) (by decide +kernel) rfl) <|
  fa1 (s_getR (t2 := 9) (g := (fun _ => 1)) (ci := 7) (f := 0) (idx := 27) (C := RX7) (T := TX7) (NF := 10) (by decide +kernel) rfl (by decide) inG_X7 (by decide) w_298 lr_X7_0 (by decide)) <|
  fa1 (s_iload_n (kf := 1) (j := 1) (by decide +kernel) rfl) <|
  fa1 (s_vcallI (n := 1) (ci := 9) (C := RX9) (T := TX9) (NF := 6) (idx := 120) (y := yX9_numberOf) (by decide +kernel) (gg_X9_numberOf) rfl (by decide) yv_X9_numberOf (all5 w_650 w_651 w_652 w_101 w_653) rfl rfl ⟨by decide, by decide⟩) <|
  fa1 (s_iflt (off := 9) (by decide +kernel) (by decide)) <|
  fa1 (s_aload_n (kf := 0) (j := 0) (by decide +kernel) rfl) <|
  fa1 (s_iconst (n := 4) (v := 4) (by decide +kernel) (by decide +kernel) (p32 rfl)) <|
  fa1 (s_vcallI (n := 1) (ci := 7) (C := RX7) (T := TX7) (NF := 10) (idx := 114) (y := yX7_fails) (by decide +kernel) (gg_X7_fails) rfl (by decide) yv_X7_fails (all5 w_628 w_630 w_4 w_106 w_631) rfl rfl ⟨by decide, by decide⟩) <|
  fa1 (s_zret (by decide +kernel) rfl) <|
  fa1 (s_aload_n (kf := 0) (j := 0) (by decide +kernel) rfl) <|
  fa1 (s_iconst (n := 2) (v := 2) (by decide +kernel) (by decide +kernel) (p32 rfl)) <|
  fa1 (s_vcallI (n := 1) (ci := 7) (C := RX7) (T := TX7) (NF := 10) (idx := 80) (y := yX7_want) (by decide +kernel) (gg_X7_want) rfl (by decide) yv_X7_want (all5 w_646 w_648 w_8 w_106 w_649) rfl rfl ⟨by decide, by decide⟩) <|
  fa1 (s_ifne (off := 5) (by decide +kernel) (by decide)) <|
  fa1 (s_iconst (n := 0) (v := 0) (by decide +kernel) (by decide +kernel) (p32 rfl)) <|
  fa1 (s_zret (by decide +kernel) rfl) <|
  fa1 (s_aload_n (kf := 0) (j := 0) (by decide +kernel) rfl) <|
  fa1 (s_aload_n (kf := 0) (j := 0) (by decide +kernel) rfl) <|
  fa1 (s_getI (ci := 7) (f := 6) (idx := 65) (C := RX7) (T := TX7) (NF := 10) (by decide +kernel) rfl (by decide) inG_X7 (by decide) w_304 li_X7_6) <|
  fa1 (s_vcallI (n := 1) (ci := 7) (C := RX7) (T := TX7) (NF := 10) (idx := 117) (y := yX7_byteAt) (by decide +kernel) (gg_X7_byteAt) rfl (by decide) yv_X7_byteAt (all5 w_620 w_622 w_2 w_106 w_623) rfl rfl ⟨by decide, by decide⟩) <|
  fa1 (s_bipush (n := 48) (v := 48) (by decide +kernel) (by decide +kernel) (p32 rfl)) <|
  fa1 (s_isub (by decide +kernel)) <|
  fa1 (s_istore_n (kf := 2) (j := 2) (by decide +kernel) rfl (by decide)) <|
  fa1 (s_iload_n (kf := 2) (j := 2) (by decide +kernel) rfl) <|
  fa1 (s_iconst (n := 1) (v := 1) (by decide +kernel) (by decide +kernel) (p32 rfl)) <|
  fa1 (s_cmplt (off := 8) (by decide +kernel) (by decide)) <|
  fa1 (s_iload_n (kf := 2) (j := 2) (by decide +kernel) rfl) <|
  fa1 (s_iconst (n := 2) (v := 2) (by decide +kernel) (by decide +kernel) (p32 rfl)) <|
  fa1 (s_cmple (off := 9) (by decide +kernel) (by decide)) <|
  fa1 (s_aload_n (kf := 0) (j := 0) (by decide +kernel) rfl) <|
  fa1 (s_iconst (n := 3) (v := 3) (by decide +kernel) (by decide +kernel) (p32 rfl)) <|
  fa1 (s_vcallI (n := 1) (ci := 7) (C := RX7) (T := TX7) (NF := 10) (idx := 114) (y := yX7_fails) (by decide +kernel) (gg_X7_fails) rfl (by decide) yv_X7_fails (all5 w_628 w_630 w_4 w_106 w_631) rfl rfl ⟨by decide, by decide⟩) <|
  fa1 (s_zret (by decide +kernel) rfl) <|
  fa1 (s_aload_n (kf := 0) (j := 0) (by decide +kernel) rfl) <|
  fa1 (s_aload_n (kf := 0) (j := 0) (by decide +kernel) rfl) <|
  fa1 (s_getR (t2 := 8) (g := (fun _ => 153)) (ci := 7) (f := 3) (idx := 20) (C := RX7) (T := TX7) (NF := 10) (by decide +kernel) rfl (by decide) inG_X7 (by decide) w_301 lr_X7_3 (by decide)) <|
  fa1 (s_iload_n (kf := 2) (j := 2) (by decide +kernel) rfl) <|
  fa1 (s_aload_n (kf := 0) (j := 0) (by decide +kernel) rfl) <|
  fa1 (s_getR (t2 := 9) (g := (fun _ => 1)) (ci := 7) (f := 0) (idx := 27) (C := RX7) (T := TX7) (NF := 10) (by decide +kernel) rfl (by decide) inG_X7 (by decide) w_298 lr_X7_0 (by decide)) <|
  fa1 (s_getI (ci := 9) (f := 5) (idx := 39) (C := RX9) (T := TX9) (NF := 6) (by decide +kernel) rfl (by decide) inG_X9 (by decide) w_161 li_X9_5) <|
  fa1 (s_vcallI (n := 3) (ci := 7) (C := RX7) (T := TX7) (NF := 10) (idx := 76) (y := yX7_wantTerm) (by decide +kernel) (gg_X7_wantTerm) rfl (by decide) yv_X7_wantTerm (all5 w_654 w_656 w_9 w_106 w_657) rfl rfl ⟨by decide, by decide⟩) <|
  fa1 (s_ifeq (off := 11) (by decide +kernel) (by decide)) <|
  fa1 (s_aload_n (kf := 0) (j := 0) (by decide +kernel) rfl) <|
  fa1 (s_iconst (n := 4) (v := 4) (by decide +kernel) (by decide +kernel) (p32 rfl)) <|
  fa1 (s_vcallI (n := 1) (ci := 7) (C := RX7) (T := TX7) (NF := 10) (idx := 80) (y := yX7_want) (by decide +kernel) (gg_X7_want) rfl (by decide) yv_X7_want (all5 w_646 w_648 w_8 w_106 w_649) rfl rfl ⟨by decide, by decide⟩) <|
  fa1 (s_ifne (off := 5) (by decide +kernel) (by decide)) <|
  fa1 (s_iconst (n := 0) (v := 0) (by decide +kernel) (by decide +kernel) (p32 rfl)) <|
  fa1 (s_zret (by decide +kernel) rfl) <|
  fa1 (s_aload_n (kf := 0) (j := 0) (by decide +kernel) rfl) <|
  fa1 (s_getR (t2 := 9) (g := (fun _ => 1)) (ci := 7) (f := 0) (idx := 27) (C := RX7) (T := TX7) (NF := 10) (by decide +kernel) rfl (by decide) inG_X7 (by decide) w_298 lr_X7_0 (by decide)) <|
  fa1 (s_iload_n (kf := 1) (j := 1) (by decide +kernel) rfl) <|
  fa1 (s_iload_n (kf := 2) (j := 2) (by decide +kernel) rfl) <|
  fa1 (s_aload_n (kf := 0) (j := 0) (by decide +kernel) rfl) <|
  fa1 (s_getR (t2 := 8) (g := (fun _ => 153)) (ci := 7) (f := 3) (idx := 20) (C := RX7) (T := TX7) (NF := 10) (by decide +kernel) rfl (by decide) inG_X7 (by decide) w_301 lr_X7_3 (by decide)) <|
  fa1 (s_vcallV (n := 3) (ci := 9) (C := RX9) (T := TX9) (NF := 6) (idx := 123) (y := yX9_add) (by decide +kernel) (gg_X9_add) rfl (by decide) yv_X9_add (all5 w_679 w_680 w_681 w_101 w_682) rfl rfl ⟨by decide, by decide⟩) <|
  fa1 (s_iconst (n := 1) (v := 1) (by decide +kernel) (by decide +kernel) (p32 rfl)) <|
  fa1 (s_zret (by decide +kernel) rfl) <| fa0
theorem gg_X7_tellWord {G : Wp} {l : Launch} : GoodM loC G l yX7_tellWord cX7_tellWord 3 (some .boolean) rm_X7_tellWord f_X7_tellWord := met_of kt_X7_tellWord (lkp_snd (ks_X7_tellWord G l)) (by decide +kernel) rfl (by decide)
noncomputable def k_X7_tellLine : List (Nat × Ins) := [
  (0, i_aload 1 0),
  (1, i_push 4 (.inr (.inr (some (31, 0))))),
  (4, i_callI 7 2 (rcv 7) f_X7_isRow),
  (7, i_ifeq 10 15),
  (10, i_aload 11 0),
  (11, i_callI 14 1 (rcv 7) f_X7_tellWord),
  (14, i_zret),
  (15, i_aload 16 0),
  (16, i_push 19 (.inr (.inr (some (31, 1))))),
  (19, i_callI 22 2 (rcv 7) f_X7_isRow),
  (22, i_ifeq 25 33),
  (25, i_aload 26 0),
  (26, i_push 27 (.inl 0)),
  (27, i_iload 28 1),
  (28, i_iload 29 2),
  (29, i_callI 32 4 (rcv 7) f_X7_tellSaying),
  (32, i_zret),
  (33, i_aload 34 0),
  (34, i_push 37 (.inr (.inr (some (31, 2))))),
  (37, i_callI 40 2 (rcv 7) f_X7_isRow),
  (40, i_ifeq 43 51),
  (43, i_aload 44 0),
  (44, i_push 45 (.inl 1)),
  (45, i_iload 46 1),
  (46, i_iload 47 2),
  (47, i_callI 50 4 (rcv 7) f_X7_tellSaying),
  (50, i_zret),
  (51, i_aload 52 0),
  (52, i_push 53 (.inl 2)),
  (53, i_callI 56 2 (rcv 7) f_X7_fails),
  (56, i_zret)]
noncomputable def kc_X7_tellLine : Nat → Option Ins := lkp k_X7_tellLine
noncomputable def f_X7_tellLine : List AV → Mem → Option Rs := den 3 kc_X7_tellLine
abbrev rm_X7_tellLine : Room := { frames := 5, cells := 0, slots := 0, locals := 118 }
set_option maxRecDepth 100000 in
theorem kt_X7_tellLine : TriC kc_X7_tellLine := lkp_tri (fa1 (tri_aload 1 0) (fa1 (tri_push 4 (.inr (.inr (some (31, 0))))) (fa1 (tri_callI 7 2 (rcv 7) f_X7_isRow) (fa1 (tri_ifeq 10 15) (fa1 (tri_aload 11 0) (fa1 (tri_callI 14 1 (rcv 7) f_X7_tellWord) (fa1 (tri_zret) (fa1 (tri_aload 16 0) (fa1 (tri_push 19 (.inr (.inr (some (31, 1))))) (fa1 (tri_callI 22 2 (rcv 7) f_X7_isRow) (fa1 (tri_ifeq 25 33) (fa1 (tri_aload 26 0) (fa1 (tri_push 27 (.inl 0)) (fa1 (tri_iload 28 1) (fa1 (tri_iload 29 2) (fa1 (tri_callI 32 4 (rcv 7) f_X7_tellSaying) (fa1 (tri_zret) (fa1 (tri_aload 34 0) (fa1 (tri_push 37 (.inr (.inr (some (31, 2))))) (fa1 (tri_callI 40 2 (rcv 7) f_X7_isRow) (fa1 (tri_ifeq 43 51) (fa1 (tri_aload 44 0) (fa1 (tri_push 45 (.inl 1)) (fa1 (tri_iload 46 1) (fa1 (tri_iload 47 2) (fa1 (tri_callI 50 4 (rcv 7) f_X7_tellSaying) (fa1 (tri_zret) (fa1 (tri_aload 52 0) (fa1 (tri_push 53 (.inl 2)) (fa1 (tri_callI 56 2 (rcv 7) f_X7_fails) (fa1 (tri_zret) (fa0))))))))))))))))))))))))))))))))
set_option maxRecDepth 100000 in
set_option maxHeartbeats 4000000 in
theorem ks_X7_tellLine (G : Wp) (l : Launch) : ∀ e ∈ k_X7_tellLine, Snd loC G l RX7 cX7_tellLine 3 (some .boolean) rm_X7_tellLine e.1 e.2 :=
  fa1 (s_aload_n (kf := 0) (j := 0) (by decide +kernel) rfl) <|
  fa1 (s_gets (j := 0) (idx := 94) (by decide +kernel) rfl w_636) <|
  fa1 (s_vcallI (n := 1) (ci := 7) (C := RX7) (T := TX7) (NF := 10) (idx := 97) (y := yX7_isRow) (by decide +kernel) (gg_X7_isRow) rfl (by decide) yv_X7_isRow (all5 w_638 w_640 w_6 w_106 w_641) rfl rfl ⟨by decide, by decide⟩) <|
  fa1 (s_ifeq (off := 8) (by decide +kernel) (by decide)) <|
  fa1 (s_aload_n (kf := 0) (j := 0) (by decide +kernel) rfl) <|
  fa1 (s_vcallI (n := 0) (ci := 7) (C := RX7) (T := TX7) (NF := 10) (idx := 101) (y := yX7_tellWord) (by decide +kernel) (gg_X7_tellWord) rfl (by decide) yv_X7_tellWord (all5 w_642 w_644 w_7 w_106 w_645) rfl rfl ⟨by decide, by decide⟩) <|
  fa1 (s_zret (by decide +kernel) rfl) <|
  fa1 (s_aload_n (kf := 0) (j := 0) (by decide +kernel) rfl) <|
  fa1 (s_gets (j := 1) (idx := 104) (by decide +kernel) rfl w_692) <|
  fa1 (s_vcallI (n := 1) (ci := 7) (C := RX7) (T := TX7) (NF := 10) (idx := 97) (y := yX7_isRow) (by decide +kernel) (gg_X7_isRow) rfl (by decide) yv_X7_isRow (all5 w_638 w_640 w_6 w_106 w_641) rfl rfl ⟨by decide, by decide⟩) <|
  fa1 (s_ifeq (off := 11) (by decide +kernel) (by decide)) <|
  fa1 (s_aload_n (kf := 0) (j := 0) (by decide +kernel) rfl) <|
  fa1 (s_iconst (n := 0) (v := 0) (by decide +kernel) (by decide +kernel) (p32 rfl)) <|
  fa1 (s_iload_n (kf := 1) (j := 1) (by decide +kernel) rfl) <|
  fa1 (s_iload_n (kf := 2) (j := 2) (by decide +kernel) rfl) <|
  fa1 (s_vcallI (n := 3) (ci := 7) (C := RX7) (T := TX7) (NF := 10) (idx := 107) (y := yX7_tellSaying) (by decide +kernel) (gg_X7_tellSaying) rfl (by decide) yv_X7_tellSaying (all5 w_694 w_696 w_11 w_106 w_697) rfl rfl ⟨by decide, by decide⟩) <|
  fa1 (s_zret (by decide +kernel) rfl) <|
  fa1 (s_aload_n (kf := 0) (j := 0) (by decide +kernel) rfl) <|
  fa1 (s_gets (j := 2) (idx := 111) (by decide +kernel) rfl w_703) <|
  fa1 (s_vcallI (n := 1) (ci := 7) (C := RX7) (T := TX7) (NF := 10) (idx := 97) (y := yX7_isRow) (by decide +kernel) (gg_X7_isRow) rfl (by decide) yv_X7_isRow (all5 w_638 w_640 w_6 w_106 w_641) rfl rfl ⟨by decide, by decide⟩) <|
  fa1 (s_ifeq (off := 11) (by decide +kernel) (by decide)) <|
  fa1 (s_aload_n (kf := 0) (j := 0) (by decide +kernel) rfl) <|
  fa1 (s_iconst (n := 1) (v := 1) (by decide +kernel) (by decide +kernel) (p32 rfl)) <|
  fa1 (s_iload_n (kf := 1) (j := 1) (by decide +kernel) rfl) <|
  fa1 (s_iload_n (kf := 2) (j := 2) (by decide +kernel) rfl) <|
  fa1 (s_vcallI (n := 3) (ci := 7) (C := RX7) (T := TX7) (NF := 10) (idx := 107) (y := yX7_tellSaying) (by decide +kernel) (gg_X7_tellSaying) rfl (by decide) yv_X7_tellSaying (all5 w_694 w_696 w_11 w_106 w_697) rfl rfl ⟨by decide, by decide⟩) <|
  fa1 (s_zret (by decide +kernel) rfl) <|
  fa1 (s_aload_n (kf := 0) (j := 0) (by decide +kernel) rfl) <|
  fa1 (s_iconst (n := 2) (v := 2) (by decide +kernel) (by decide +kernel) (p32 rfl)) <|
  fa1 (s_vcallI (n := 1) (ci := 7) (C := RX7) (T := TX7) (NF := 10) (idx := 114) (y := yX7_fails) (by decide +kernel) (gg_X7_fails) rfl (by decide) yv_X7_fails (all5 w_628 w_630 w_4 w_106 w_631) rfl rfl ⟨by decide, by decide⟩) <|
  fa1 (s_zret (by decide +kernel) rfl) <| fa0
theorem gg_X7_tellLine {G : Wp} {l : Launch} : GoodM loC G l yX7_tellLine cX7_tellLine 3 (some .boolean) rm_X7_tellLine f_X7_tellLine := met_of kt_X7_tellLine (lkp_snd (ks_X7_tellLine G l)) (by decide +kernel) rfl (by decide)
noncomputable def k_X9_keep : List (Nat × Ins) := [
  (0, i_iload 1 1),
  (1, i_push 2 (.inl 0)),
  (2, i_mm 5 mMax),
  (5, i_istore 6 2),
  (6, i_iload 7 2),
  (7, i_aload 8 0),
  (8, i_getI 11 9 5),
  (11, i_cmpge 14 33),
  (14, i_aload 15 0),
  (15, i_getR 18 9 20 (fun _ => 4)),
  (18, i_aload 19 0),
  (19, i_getR 22 9 20 (fun _ => 2)),
  (22, i_iload 23 2),
  (23, i_ald 24 20 lnC),
  (24, i_push 26 (.inl (-4))),
  (26, i_ast 27 20 lnC id),
  (27, i_iinc 30 2 (1)),
  (30, i_goto 6),
  (33, i_aload 34 0),
  (34, i_aload 35 0),
  (35, i_getI 38 9 5),
  (38, i_iload 39 1),
  (39, i_push 40 (.inl 0)),
  (40, i_mm 43 mMax),
  (43, i_mm 46 mMin),
  (46, i_putI 49 9 5),
  (49, i_vret)]
noncomputable def kc_X9_keep : Nat → Option Ins := lkp k_X9_keep
noncomputable def f_X9_keep : List AV → Mem → Option Rs := den 3 kc_X9_keep
abbrev rm_X9_keep : Room := { frames := 1, cells := 0, slots := 0, locals := 21 }
set_option maxRecDepth 100000 in
theorem kt_X9_keep : TriC kc_X9_keep := lkp_tri (fa1 (tri_iload 1 1) (fa1 (tri_push 2 (.inl 0)) (fa1 (tri_mm 5 mMax) (fa1 (tri_istore 6 2) (fa1 (tri_iload 7 2) (fa1 (tri_aload 8 0) (fa1 (tri_getI 11 9 5) (fa1 (tri_cmpge 14 33) (fa1 (tri_aload 15 0) (fa1 (tri_getR 18 9 20 (fun _ => 4)) (fa1 (tri_aload 19 0) (fa1 (tri_getR 22 9 20 (fun _ => 2)) (fa1 (tri_iload 23 2) (fa1 (tri_ald 24 20 lnC) (fa1 (tri_push 26 (.inl (-4))) (fa1 (tri_ast 27 20 lnC id) (fa1 (tri_iinc 30 2 (1)) (fa1 (tri_goto 6) (fa1 (tri_aload 34 0) (fa1 (tri_aload 35 0) (fa1 (tri_getI 38 9 5) (fa1 (tri_iload 39 1) (fa1 (tri_push 40 (.inl 0)) (fa1 (tri_mm 43 mMax) (fa1 (tri_mm 46 mMin) (fa1 (tri_putI 49 9 5) (fa1 (tri_vret) (fa0))))))))))))))))))))))))))))
set_option maxRecDepth 100000 in
set_option maxHeartbeats 4000000 in
theorem ks_X9_keep (G : Wp) (l : Launch) : ∀ e ∈ k_X9_keep, Snd loC G l RX9 cX9_keep 3 none rm_X9_keep e.1 e.2 :=
  fa1 (s_iload_n (kf := 1) (j := 1) (by decide +kernel) rfl) <|
  fa1 (s_iconst (n := 0) (v := 0) (by decide +kernel) (by decide +kernel) (p32 rfl)) <|
  fa1 (s_mmax (idx := 46) (by decide +kernel) w_709 w_137 w_103 w_138 (by decide) (by decide)) <|
  fa1 (s_istore_n (kf := 2) (j := 2) (by decide +kernel) rfl (by decide)) <|
  fa1 (s_iload_n (kf := 2) (j := 2) (by decide +kernel) rfl) <|
  fa1 (s_aload_n (kf := 0) (j := 0) (by decide +kernel) rfl) <|
  fa1 (s_getI (ci := 9) (f := 5) (idx := 33) (C := RX9) (T := TX9) (NF := 6) (by decide +kernel) rfl (by decide) inG_X9 (by decide) w_160 li_X9_5) <|
  fa1 (s_cmpge (off := 22) (by decide +kernel) (by decide)) <|
  fa1 (s_aload_n (kf := 0) (j := 0) (by decide +kernel) rfl) <|
  fa1 (s_getR (t2 := 20) (g := (fun _ => 4)) (ci := 9) (f := 2) (idx := 18) (C := RX9) (T := TX9) (NF := 6) (by decide +kernel) rfl (by decide) inG_X9 (by decide) w_157 lr_X9_2 (by decide)) <|
  fa1 (s_aload_n (kf := 0) (j := 0) (by decide +kernel) rfl) <|
  fa1 (s_getR (t2 := 20) (g := (fun _ => 2)) (ci := 9) (f := 0) (idx := 9) (C := RX9) (T := TX9) (NF := 6) (by decide +kernel) rfl (by decide) inG_X9 (by decide) w_155 lr_X9_0 (by decide)) <|
  fa1 (s_iload_n (kf := 2) (j := 2) (by decide +kernel) rfl) <|
  fa1 (s_iald (by decide +kernel)) <|
  fa1 (s_bipush (n := -4) (v := -4) (by decide +kernel) (by decide +kernel) (p32 rfl)) <|
  fa1 (s_iast (by decide +kernel) lt_loC_20) <|
  fa1 (s_iinc (j := 2) (d := 1) (by decide +kernel) (by decide)) <|
  fa1 (s_goto (off := -24) (by decide +kernel) (by decide)) <|
  fa1 (s_aload_n (kf := 0) (j := 0) (by decide +kernel) rfl) <|
  fa1 (s_aload_n (kf := 0) (j := 0) (by decide +kernel) rfl) <|
  fa1 (s_getI (ci := 9) (f := 5) (idx := 33) (C := RX9) (T := TX9) (NF := 6) (by decide +kernel) rfl (by decide) inG_X9 (by decide) w_160 li_X9_5) <|
  fa1 (s_iload_n (kf := 1) (j := 1) (by decide +kernel) rfl) <|
  fa1 (s_iconst (n := 0) (v := 0) (by decide +kernel) (by decide +kernel) (p32 rfl)) <|
  fa1 (s_mmax (idx := 46) (by decide +kernel) w_709 w_137 w_103 w_138 (by decide) (by decide)) <|
  fa1 (s_mmin (idx := 52) (by decide +kernel) w_710 w_711 w_103 w_712 (by decide) (by decide)) <|
  fa1 (s_putI (ci := 9) (f := 5) (idx := 33) (C := RX9) (T := TX9) (NF := 6) (by decide +kernel) rfl (by decide) inG_X9 (by decide) w_160 tyX9 tyX9_ok nmX9 rfl (by decide +kernel) li_X9_5) <|
  fa1 (s_vret (by decide +kernel) rfl) <| fa0
theorem gg_X9_keep {G : Wp} {l : Launch} : GoodM loC G l yX9_keep cX9_keep 3 none rm_X9_keep f_X9_keep := met_of kt_X9_keep (lkp_snd (ks_X9_keep G l)) (by decide +kernel) rfl (by decide)
noncomputable def k_X7_tellLines : List (Nat × Ins) := [
  (0, i_aload 1 0),
  (1, i_getR 4 7 9 (fun _ => 1)),
  (4, i_getI 7 9 5),
  (7, i_istore 8 3),
  (8, i_aload 9 0),
  (9, i_getR 12 7 3 (fun _ => 23)),
  (12, i_getI 15 3 9),
  (15, i_istore 17 4),
  (17, i_push 18 (.inl 0)),
  (18, i_istore 20 5),
  (20, i_aload 21 0),
  (21, i_callV 24 1 (rcv 7) f_X7_begin),
  (24, i_aload 25 0),
  (25, i_callI 28 1 (rcv 7) f_X7_advance),
  (28, i_istore 30 6),
  (30, i_push 31 (.inl 0)),
  (31, i_istore 33 7),
  (33, i_iload 35 7),
  (35, i_push 38 (.inl 240)),
  (38, i_cmpge 41 85),
  (41, i_iload 43 6),
  (43, i_ifeq 46 85),
  (46, i_aload 47 0),
  (47, i_getI 50 7 5),
  (50, i_ifeq 53 85),
  (53, i_aload 54 0),
  (54, i_iload 55 1),
  (55, i_iload 56 2),
  (56, i_callI 59 3 (rcv 7) f_X7_tellLine),
  (59, i_ifeq 62 73),
  (62, i_aload 63 0),
  (63, i_callI 66 1 (rcv 7) f_X7_advance),
  (66, i_ifeq 69 73),
  (69, i_push 70 (.inl 1)),
  (70, i_goto 74),
  (73, i_push 74 (.inl 0)),
  (74, i_istore 76 6),
  (76, i_iinc 79 5 (1)),
  (79, i_iinc 82 7 (1)),
  (82, i_goto 33),
  (85, i_aload 86 0),
  (86, i_push 87 (.inl 0)),
  (87, i_putI 90 7 8),
  (90, i_iload 92 6),
  (92, i_ifeq 95 98),
  (95, i_iload 97 5),
  (97, i_iret),
  (98, i_aload 99 0),
  (99, i_getR 102 7 9 (fun _ => 1)),
  (102, i_iload 103 3),
  (103, i_callV 106 2 (rcv 9) f_X9_keep),
  (106, i_aload 107 0),
  (107, i_getR 110 7 3 (fun _ => 23)),
  (110, i_iload 112 4),
  (112, i_callV 115 2 (rcv 3) f_X3_keep),
  (115, i_push 117 (.inl (-10))),
  (117, i_aload 118 0),
  (118, i_getI 121 7 6),
  (121, i_bin 122 (fun x y => wr (x - y))),
  (122, i_iret)]
noncomputable def kc_X7_tellLines : Nat → Option Ins := lkp k_X7_tellLines
noncomputable def f_X7_tellLines : List AV → Mem → Option Rs := den 8 kc_X7_tellLines
abbrev rm_X7_tellLines : Room := { frames := 6, cells := 0, slots := 0, locals := 140 }
set_option maxRecDepth 100000 in
theorem kt_X7_tellLines : TriC kc_X7_tellLines := lkp_tri (fa1 (tri_aload 1 0) (fa1 (tri_getR 4 7 9 (fun _ => 1)) (fa1 (tri_getI 7 9 5) (fa1 (tri_istore 8 3) (fa1 (tri_aload 9 0) (fa1 (tri_getR 12 7 3 (fun _ => 23)) (fa1 (tri_getI 15 3 9) (fa1 (tri_istore 17 4) (fa1 (tri_push 18 (.inl 0)) (fa1 (tri_istore 20 5) (fa1 (tri_aload 21 0) (fa1 (tri_callV 24 1 (rcv 7) f_X7_begin) (fa1 (tri_aload 25 0) (fa1 (tri_callI 28 1 (rcv 7) f_X7_advance) (fa1 (tri_istore 30 6) (fa1 (tri_push 31 (.inl 0)) (fa1 (tri_istore 33 7) (fa1 (tri_iload 35 7) (fa1 (tri_push 38 (.inl 240)) (fa1 (tri_cmpge 41 85) (fa1 (tri_iload 43 6) (fa1 (tri_ifeq 46 85) (fa1 (tri_aload 47 0) (fa1 (tri_getI 50 7 5) (fa1 (tri_ifeq 53 85) (fa1 (tri_aload 54 0) (fa1 (tri_iload 55 1) (fa1 (tri_iload 56 2) (fa1 (tri_callI 59 3 (rcv 7) f_X7_tellLine) (fa1 (tri_ifeq 62 73) (fa1 (tri_aload 63 0) (fa1 (tri_callI 66 1 (rcv 7) f_X7_advance) (fa1 (tri_ifeq 69 73) (fa1 (tri_push 70 (.inl 1)) (fa1 (tri_goto 74) (fa1 (tri_push 74 (.inl 0)) (fa1 (tri_istore 76 6) (fa1 (tri_iinc 79 5 (1)) (fa1 (tri_iinc 82 7 (1)) (fa1 (tri_goto 33) (fa1 (tri_aload 86 0) (fa1 (tri_push 87 (.inl 0)) (fa1 (tri_putI 90 7 8) (fa1 (tri_iload 92 6) (fa1 (tri_ifeq 95 98) (fa1 (tri_iload 97 5) (fa1 (tri_iret) (fa1 (tri_aload 99 0) (fa1 (tri_getR 102 7 9 (fun _ => 1)) (fa1 (tri_iload 103 3) (fa1 (tri_callV 106 2 (rcv 9) f_X9_keep) (fa1 (tri_aload 107 0) (fa1 (tri_getR 110 7 3 (fun _ => 23)) (fa1 (tri_iload 112 4) (fa1 (tri_callV 115 2 (rcv 3) f_X3_keep) (fa1 (tri_push 117 (.inl (-10))) (fa1 (tri_aload 118 0) (fa1 (tri_getI 121 7 6) (fa1 (tri_bin 122 (fun x y => wr (x - y))) (fa1 (tri_iret) (fa0)))))))))))))))))))))))))))))))))))))))))))))))))))))))))))))
set_option maxRecDepth 100000 in
set_option maxHeartbeats 4000000 in
theorem ks_X7_tellLines (G : Wp) (l : Launch) : ∀ e ∈ k_X7_tellLines, Snd loC G l RX7 cX7_tellLines 8 (some .int) rm_X7_tellLines e.1 e.2 :=
  fa1 (s_aload_n (kf := 0) (j := 0) (by decide +kernel) rfl) <|
  fa1 (s_getR (t2 := 9) (g := (fun _ => 1)) (ci := 7) (f := 0) (idx := 27) (C := RX7) (T := TX7) (NF := 10) (by decide +kernel) rfl (by decide) inG_X7 (by decide) w_298 lr_X7_0 (by decide)) <|
  fa1 (s_getI (ci := 9) (f := 5) (idx := 39) (C := RX9) (T := TX9) (NF := 6) (by decide +kernel) rfl (by decide) inG_X9 (by decide) w_161 li_X9_5) <|
  fa1 (s_istore_n (kf := 3) (j := 3) (by decide +kernel) rfl (by decide)) <|
  fa1 (s_aload_n (kf := 0) (j := 0) (by decide +kernel) rfl) <|
  fa1 (s_getR (t2 := 3) (g := (fun _ => 23)) (ci := 7) (f := 1) (idx := 31) (C := RX7) (T := TX7) (NF := 10) (by decide +kernel) rfl (by decide) inG_X7 (by decide) w_299 lr_X7_1 (by decide)) <|
  fa1 (s_getI (ci := 3) (f := 9) (idx := 44) (C := RX3) (T := TX3) (NF := 11) (by decide +kernel) rfl (by decide) inG_X3 (by decide) w_260 li_X3_9) <|
  fa1 (s_istore (j := 4) (by decide +kernel) (by decide)) <|
  fa1 (s_iconst (n := 0) (v := 0) (by decide +kernel) (by decide +kernel) (p32 rfl)) <|
  fa1 (s_istore (j := 5) (by decide +kernel) (by decide)) <|
  fa1 (s_aload_n (kf := 0) (j := 0) (by decide +kernel) rfl) <|
  fa1 (s_vcallV (n := 0) (ci := 7) (C := RX7) (T := TX7) (NF := 10) (idx := 47) (y := yX7_begin) (by decide +kernel) (gg_X7_begin) rfl (by decide) yv_X7_begin (all5 w_612 w_614 w_0 w_106 w_615) rfl rfl ⟨by decide, by decide⟩) <|
  fa1 (s_aload_n (kf := 0) (j := 0) (by decide +kernel) rfl) <|
  fa1 (s_vcallI (n := 0) (ci := 7) (C := RX7) (T := TX7) (NF := 10) (idx := 50) (y := yX7_advance) (by decide +kernel) (gg_X7_advance) rfl (by decide) yv_X7_advance (all5 w_616 w_618 w_1 w_106 w_619) rfl rfl ⟨by decide, by decide⟩) <|
  fa1 (s_istore (j := 6) (by decide +kernel) (by decide)) <|
  fa1 (s_iconst (n := 0) (v := 0) (by decide +kernel) (by decide +kernel) (p32 rfl)) <|
  fa1 (s_istore (j := 7) (by decide +kernel) (by decide)) <|
  fa1 (s_iload (j := 7) (by decide +kernel)) <|
  fa1 (s_sipush (n := 240) (v := 240) (by decide +kernel) (by decide +kernel) (p32 rfl)) <|
  fa1 (s_cmpge (off := 47) (by decide +kernel) (by decide)) <|
  fa1 (s_iload (j := 6) (by decide +kernel)) <|
  fa1 (s_ifeq (off := 42) (by decide +kernel) (by decide)) <|
  fa1 (s_aload_n (kf := 0) (j := 0) (by decide +kernel) rfl) <|
  fa1 (s_getI (ci := 7) (f := 5) (idx := 54) (C := RX7) (T := TX7) (NF := 10) (by decide +kernel) rfl (by decide) inG_X7 (by decide) w_303 li_X7_5) <|
  fa1 (s_ifeq (off := 35) (by decide +kernel) (by decide)) <|
  fa1 (s_aload_n (kf := 0) (j := 0) (by decide +kernel) rfl) <|
  fa1 (s_iload_n (kf := 1) (j := 1) (by decide +kernel) rfl) <|
  fa1 (s_iload_n (kf := 2) (j := 2) (by decide +kernel) rfl) <|
  fa1 (s_vcallI (n := 2) (ci := 7) (C := RX7) (T := TX7) (NF := 10) (idx := 57) (y := yX7_tellLine) (by decide +kernel) (gg_X7_tellLine) rfl (by decide) yv_X7_tellLine (all5 w_632 w_634 w_5 w_106 w_635) rfl rfl ⟨by decide, by decide⟩) <|
  fa1 (s_ifeq (off := 14) (by decide +kernel) (by decide)) <|
  fa1 (s_aload_n (kf := 0) (j := 0) (by decide +kernel) rfl) <|
  fa1 (s_vcallI (n := 0) (ci := 7) (C := RX7) (T := TX7) (NF := 10) (idx := 50) (y := yX7_advance) (by decide +kernel) (gg_X7_advance) rfl (by decide) yv_X7_advance (all5 w_616 w_618 w_1 w_106 w_619) rfl rfl ⟨by decide, by decide⟩) <|
  fa1 (s_ifeq (off := 7) (by decide +kernel) (by decide)) <|
  fa1 (s_iconst (n := 1) (v := 1) (by decide +kernel) (by decide +kernel) (p32 rfl)) <|
  fa1 (s_goto (off := 4) (by decide +kernel) (by decide)) <|
  fa1 (s_iconst (n := 0) (v := 0) (by decide +kernel) (by decide +kernel) (p32 rfl)) <|
  fa1 (s_istore (j := 6) (by decide +kernel) (by decide)) <|
  fa1 (s_iinc (j := 5) (d := 1) (by decide +kernel) (by decide)) <|
  fa1 (s_iinc (j := 7) (d := 1) (by decide +kernel) (by decide)) <|
  fa1 (s_goto (off := -49) (by decide +kernel) (by decide)) <|
  fa1 (s_aload_n (kf := 0) (j := 0) (by decide +kernel) rfl) <|
  fa1 (s_iconst (n := 0) (v := 0) (by decide +kernel) (by decide +kernel) (p32 rfl)) <|
  fa1 (s_putI (ci := 7) (f := 8) (idx := 35) (C := RX7) (T := TX7) (NF := 10) (by decide +kernel) rfl (by decide) inG_X7 (by decide) w_306 tyX7 tyX7_ok nmX7 rfl (by decide +kernel) li_X7_8) <|
  fa1 (s_iload (j := 6) (by decide +kernel)) <|
  fa1 (s_ifeq (off := 6) (by decide +kernel) (by decide)) <|
  fa1 (s_iload (j := 5) (by decide +kernel)) <|
  fa1 (s_iret (by decide +kernel) rfl) <|
  fa1 (s_aload_n (kf := 0) (j := 0) (by decide +kernel) rfl) <|
  fa1 (s_getR (t2 := 9) (g := (fun _ => 1)) (ci := 7) (f := 0) (idx := 27) (C := RX7) (T := TX7) (NF := 10) (by decide +kernel) rfl (by decide) inG_X7 (by decide) w_298 lr_X7_0 (by decide)) <|
  fa1 (s_iload_n (kf := 3) (j := 3) (by decide +kernel) rfl) <|
  fa1 (s_vcallV (n := 1) (ci := 9) (C := RX9) (T := TX9) (NF := 6) (idx := 61) (y := yX9_keep) (by decide +kernel) (gg_X9_keep) rfl (by decide) yv_X9_keep (all5 w_705 w_706 w_707 w_101 w_708) rfl rfl ⟨by decide, by decide⟩) <|
  fa1 (s_aload_n (kf := 0) (j := 0) (by decide +kernel) rfl) <|
  fa1 (s_getR (t2 := 3) (g := (fun _ => 23)) (ci := 7) (f := 1) (idx := 31) (C := RX7) (T := TX7) (NF := 10) (by decide +kernel) rfl (by decide) inG_X7 (by decide) w_299 lr_X7_1 (by decide)) <|
  fa1 (s_iload (j := 4) (by decide +kernel)) <|
  fa1 (s_vcallV (n := 1) (ci := 3) (C := RX3) (T := TX3) (NF := 11) (idx := 64) (y := yX3_keep) (by decide +kernel) (gg_X3_keep) rfl (by decide) yv_X3_keep (all5 w_713 w_714 w_715 w_104 w_716) rfl rfl ⟨by decide, by decide⟩) <|
  fa1 (s_bipush (n := -10) (v := -10) (by decide +kernel) (by decide +kernel) (p32 rfl)) <|
  fa1 (s_aload_n (kf := 0) (j := 0) (by decide +kernel) rfl) <|
  fa1 (s_getI (ci := 7) (f := 6) (idx := 65) (C := RX7) (T := TX7) (NF := 10) (by decide +kernel) rfl (by decide) inG_X7 (by decide) w_304 li_X7_6) <|
  fa1 (s_isub (by decide +kernel)) <|
  fa1 (s_iret (by decide +kernel) rfl) <| fa0
theorem gg_X7_tellLines {G : Wp} {l : Launch} : GoodM loC G l yX7_tellLines cX7_tellLines 8 (some .int) rm_X7_tellLines f_X7_tellLines := met_of kt_X7_tellLines (lkp_snd (ks_X7_tellLines G l)) (by decide +kernel) rfl (by decide)
noncomputable def k_X7_tellMeaning : List (Nat × Ins) := [
  (0, i_aload 1 0),
  (1, i_getR 4 7 9 (fun _ => 1)),
  (4, i_iload 5 1),
  (5, i_callR 8 2 8 (rcv 9) f_X9_meaningOf),
  (8, i_astore 9 2),
  (9, i_aload 10 0),
  (10, i_callV 13 1 (rcv 7) f_X7_begin),
  (13, i_aload 14 0),
  (14, i_aload 15 0),
  (15, i_getR 18 7 8 (fun _ => 153)),
  (18, i_aload 19 0),
  (19, i_getR 22 7 9 (fun _ => 1)),
  (22, i_iload 23 1),
  (23, i_callI 26 2 (rcv 9) f_X9_needOf),
  (26, i_iload 27 1),
  (27, i_callI 30 4 (rcv 7) f_X7_wantTerm),
  (30, i_ifeq 33 45),
  (33, i_aload 34 0),
  (34, i_push 35 (.inl 0)),
  (35, i_callI 38 2 (rcv 7) f_X7_want),
  (38, i_ifeq 41 45),
  (41, i_push 42 (.inl 1)),
  (42, i_goto 46),
  (45, i_push 46 (.inl 0)),
  (46, i_istore 47 3),
  (47, i_aload 48 0),
  (48, i_push 49 (.inl 0)),
  (49, i_putI 52 7 8),
  (52, i_iload 53 3),
  (53, i_ifeq 56 60),
  (56, i_aload 57 2),
  (57, i_ifnonnull 60 68),
  (60, i_push 62 (.inl (-10))),
  (62, i_aload 63 0),
  (63, i_getI 66 7 6),
  (66, i_bin 67 (fun x y => wr (x - y))),
  (67, i_iret),
  (68, i_aload 69 2),
  (69, i_aload 70 0),
  (70, i_getR 73 7 8 (fun _ => 153)),
  (73, i_callV 76 2 (rcv 8) f_X8_copy),
  (76, i_push 77 (.inl 0)),
  (77, i_iret)]
noncomputable def kc_X7_tellMeaning : Nat → Option Ins := lkp k_X7_tellMeaning
noncomputable def f_X7_tellMeaning : List AV → Mem → Option Rs := den 4 kc_X7_tellMeaning
abbrev rm_X7_tellMeaning : Room := { frames := 4, cells := 0, slots := 0, locals := 94 }
set_option maxRecDepth 100000 in
theorem kt_X7_tellMeaning : TriC kc_X7_tellMeaning := lkp_tri (fa1 (tri_aload 1 0) (fa1 (tri_getR 4 7 9 (fun _ => 1)) (fa1 (tri_iload 5 1) (fa1 (tri_callR 8 2 8 (rcv 9) f_X9_meaningOf) (fa1 (tri_astore 9 2) (fa1 (tri_aload 10 0) (fa1 (tri_callV 13 1 (rcv 7) f_X7_begin) (fa1 (tri_aload 14 0) (fa1 (tri_aload 15 0) (fa1 (tri_getR 18 7 8 (fun _ => 153)) (fa1 (tri_aload 19 0) (fa1 (tri_getR 22 7 9 (fun _ => 1)) (fa1 (tri_iload 23 1) (fa1 (tri_callI 26 2 (rcv 9) f_X9_needOf) (fa1 (tri_iload 27 1) (fa1 (tri_callI 30 4 (rcv 7) f_X7_wantTerm) (fa1 (tri_ifeq 33 45) (fa1 (tri_aload 34 0) (fa1 (tri_push 35 (.inl 0)) (fa1 (tri_callI 38 2 (rcv 7) f_X7_want) (fa1 (tri_ifeq 41 45) (fa1 (tri_push 42 (.inl 1)) (fa1 (tri_goto 46) (fa1 (tri_push 46 (.inl 0)) (fa1 (tri_istore 47 3) (fa1 (tri_aload 48 0) (fa1 (tri_push 49 (.inl 0)) (fa1 (tri_putI 52 7 8) (fa1 (tri_iload 53 3) (fa1 (tri_ifeq 56 60) (fa1 (tri_aload 57 2) (fa1 (tri_ifnonnull 60 68) (fa1 (tri_push 62 (.inl (-10))) (fa1 (tri_aload 63 0) (fa1 (tri_getI 66 7 6) (fa1 (tri_bin 67 (fun x y => wr (x - y))) (fa1 (tri_iret) (fa1 (tri_aload 69 2) (fa1 (tri_aload 70 0) (fa1 (tri_getR 73 7 8 (fun _ => 153)) (fa1 (tri_callV 76 2 (rcv 8) f_X8_copy) (fa1 (tri_push 77 (.inl 0)) (fa1 (tri_iret) (fa0))))))))))))))))))))))))))))))))))))))))))))
set_option maxRecDepth 100000 in
set_option maxHeartbeats 4000000 in
theorem ks_X7_tellMeaning (G : Wp) (l : Launch) : ∀ e ∈ k_X7_tellMeaning, Snd loC G l RX7 cX7_tellMeaning 4 (some .int) rm_X7_tellMeaning e.1 e.2 :=
  fa1 (s_aload_n (kf := 0) (j := 0) (by decide +kernel) rfl) <|
  fa1 (s_getR (t2 := 9) (g := (fun _ => 1)) (ci := 7) (f := 0) (idx := 27) (C := RX7) (T := TX7) (NF := 10) (by decide +kernel) rfl (by decide) inG_X7 (by decide) w_298 lr_X7_0 (by decide)) <|
  fa1 (s_iload_n (kf := 1) (j := 1) (by decide +kernel) rfl) <|
  fa1 (s_vcallR (t := 8) (n := 1) (ci := 9) (C := RX9) (T := TX9) (NF := 6) (idx := 68) (y := yX9_meaningOf) (by decide +kernel) (gg_X9_meaningOf) rfl (by decide) yv_X9_meaningOf (all5 w_952 w_765 w_766 w_101 w_767) rfl rfl ⟨by decide, by decide⟩) <|
  fa1 (s_astore_n (kf := 2) (j := 2) (by decide +kernel) rfl (by decide)) <|
  fa1 (s_aload_n (kf := 0) (j := 0) (by decide +kernel) rfl) <|
  fa1 (s_vcallV (n := 0) (ci := 7) (C := RX7) (T := TX7) (NF := 10) (idx := 47) (y := yX7_begin) (by decide +kernel) (gg_X7_begin) rfl (by decide) yv_X7_begin (all5 w_612 w_614 w_0 w_106 w_615) rfl rfl ⟨by decide, by decide⟩) <|
  fa1 (s_aload_n (kf := 0) (j := 0) (by decide +kernel) rfl) <|
  fa1 (s_aload_n (kf := 0) (j := 0) (by decide +kernel) rfl) <|
  fa1 (s_getR (t2 := 8) (g := (fun _ => 153)) (ci := 7) (f := 3) (idx := 20) (C := RX7) (T := TX7) (NF := 10) (by decide +kernel) rfl (by decide) inG_X7 (by decide) w_301 lr_X7_3 (by decide)) <|
  fa1 (s_aload_n (kf := 0) (j := 0) (by decide +kernel) rfl) <|
  fa1 (s_getR (t2 := 9) (g := (fun _ => 1)) (ci := 7) (f := 0) (idx := 27) (C := RX7) (T := TX7) (NF := 10) (by decide +kernel) rfl (by decide) inG_X7 (by decide) w_298 lr_X7_0 (by decide)) <|
  fa1 (s_iload_n (kf := 1) (j := 1) (by decide +kernel) rfl) <|
  fa1 (s_vcallI (n := 1) (ci := 9) (C := RX9) (T := TX9) (NF := 6) (idx := 72) (y := yX9_needOf) (by decide +kernel) (gg_X9_needOf) rfl (by decide) yv_X9_needOf (all5 w_953 w_773 w_774 w_101 w_775) rfl rfl ⟨by decide, by decide⟩) <|
  fa1 (s_iload_n (kf := 1) (j := 1) (by decide +kernel) rfl) <|
  fa1 (s_vcallI (n := 3) (ci := 7) (C := RX7) (T := TX7) (NF := 10) (idx := 76) (y := yX7_wantTerm) (by decide +kernel) (gg_X7_wantTerm) rfl (by decide) yv_X7_wantTerm (all5 w_654 w_656 w_9 w_106 w_657) rfl rfl ⟨by decide, by decide⟩) <|
  fa1 (s_ifeq (off := 15) (by decide +kernel) (by decide)) <|
  fa1 (s_aload_n (kf := 0) (j := 0) (by decide +kernel) rfl) <|
  fa1 (s_iconst (n := 0) (v := 0) (by decide +kernel) (by decide +kernel) (p32 rfl)) <|
  fa1 (s_vcallI (n := 1) (ci := 7) (C := RX7) (T := TX7) (NF := 10) (idx := 80) (y := yX7_want) (by decide +kernel) (gg_X7_want) rfl (by decide) yv_X7_want (all5 w_646 w_648 w_8 w_106 w_649) rfl rfl ⟨by decide, by decide⟩) <|
  fa1 (s_ifeq (off := 7) (by decide +kernel) (by decide)) <|
  fa1 (s_iconst (n := 1) (v := 1) (by decide +kernel) (by decide +kernel) (p32 rfl)) <|
  fa1 (s_goto (off := 4) (by decide +kernel) (by decide)) <|
  fa1 (s_iconst (n := 0) (v := 0) (by decide +kernel) (by decide +kernel) (p32 rfl)) <|
  fa1 (s_istore_n (kf := 3) (j := 3) (by decide +kernel) rfl (by decide)) <|
  fa1 (s_aload_n (kf := 0) (j := 0) (by decide +kernel) rfl) <|
  fa1 (s_iconst (n := 0) (v := 0) (by decide +kernel) (by decide +kernel) (p32 rfl)) <|
  fa1 (s_putI (ci := 7) (f := 8) (idx := 35) (C := RX7) (T := TX7) (NF := 10) (by decide +kernel) rfl (by decide) inG_X7 (by decide) w_306 tyX7 tyX7_ok nmX7 rfl (by decide +kernel) li_X7_8) <|
  fa1 (s_iload_n (kf := 3) (j := 3) (by decide +kernel) rfl) <|
  fa1 (s_ifeq (off := 7) (by decide +kernel) (by decide)) <|
  fa1 (s_aload_n (kf := 2) (j := 2) (by decide +kernel) rfl) <|
  fa1 (s_ifnonnull (off := 11) (by decide +kernel) (by decide)) <|
  fa1 (s_bipush (n := -10) (v := -10) (by decide +kernel) (by decide +kernel) (p32 rfl)) <|
  fa1 (s_aload_n (kf := 0) (j := 0) (by decide +kernel) rfl) <|
  fa1 (s_getI (ci := 7) (f := 6) (idx := 65) (C := RX7) (T := TX7) (NF := 10) (by decide +kernel) rfl (by decide) inG_X7 (by decide) w_304 li_X7_6) <|
  fa1 (s_isub (by decide +kernel)) <|
  fa1 (s_iret (by decide +kernel) rfl) <|
  fa1 (s_aload_n (kf := 2) (j := 2) (by decide +kernel) rfl) <|
  fa1 (s_aload_n (kf := 0) (j := 0) (by decide +kernel) rfl) <|
  fa1 (s_getR (t2 := 8) (g := (fun _ => 153)) (ci := 7) (f := 3) (idx := 20) (C := RX7) (T := TX7) (NF := 10) (by decide +kernel) rfl (by decide) inG_X7 (by decide) w_301 lr_X7_3 (by decide)) <|
  fa1 (s_vcallV (n := 1) (ci := 8) (C := RX8) (T := TX8) (NF := 2) (idx := 84) (y := yX8_copy) (by decide +kernel) (gg_X8_copy) rfl (by decide) yv_X8_copy (all5 w_954 w_684 w_685 w_102 w_686) rfl rfl ⟨by decide, by decide⟩) <|
  fa1 (s_iconst (n := 0) (v := 0) (by decide +kernel) (by decide +kernel) (p32 rfl)) <|
  fa1 (s_iret (by decide +kernel) rfl) <| fa0
theorem gg_X7_tellMeaning {G : Wp} {l : Launch} : GoodM loC G l yX7_tellMeaning cX7_tellMeaning 4 (some .int) rm_X7_tellMeaning f_X7_tellMeaning := met_of kt_X7_tellMeaning (lkp_snd (ks_X7_tellMeaning G l)) (by decide +kernel) rfl (by decide)
noncomputable def k_X9_letterOf : List (Nat × Ins) := [
  (0, i_iload 1 1),
  (1, i_iflt 4 21),
  (4, i_iload 5 1),
  (5, i_aload 6 0),
  (6, i_getI 9 9 5),
  (9, i_cmpge 12 21),
  (12, i_aload 13 0),
  (13, i_getR 16 9 20 (fun _ => 2)),
  (16, i_iload 17 1),
  (17, i_ald 18 20 lnC),
  (18, i_goto 22),
  (21, i_push 22 (.inl (-1))),
  (22, i_iret)]
noncomputable def kc_X9_letterOf : Nat → Option Ins := lkp k_X9_letterOf
noncomputable def f_X9_letterOf : List AV → Mem → Option Rs := den 2 kc_X9_letterOf
abbrev rm_X9_letterOf : Room := { frames := 0, cells := 0, slots := 0, locals := 0 }
set_option maxRecDepth 100000 in
theorem kt_X9_letterOf : TriC kc_X9_letterOf := lkp_tri (fa1 (tri_iload 1 1) (fa1 (tri_iflt 4 21) (fa1 (tri_iload 5 1) (fa1 (tri_aload 6 0) (fa1 (tri_getI 9 9 5) (fa1 (tri_cmpge 12 21) (fa1 (tri_aload 13 0) (fa1 (tri_getR 16 9 20 (fun _ => 2)) (fa1 (tri_iload 17 1) (fa1 (tri_ald 18 20 lnC) (fa1 (tri_goto 22) (fa1 (tri_push 22 (.inl (-1))) (fa1 (tri_iret) (fa0))))))))))))))
set_option maxRecDepth 100000 in
set_option maxHeartbeats 4000000 in
theorem ks_X9_letterOf (G : Wp) (l : Launch) : ∀ e ∈ k_X9_letterOf, Snd loC G l RX9 cX9_letterOf 2 (some .int) rm_X9_letterOf e.1 e.2 :=
  fa1 (s_iload_n (kf := 1) (j := 1) (by decide +kernel) rfl) <|
  fa1 (s_iflt (off := 20) (by decide +kernel) (by decide)) <|
  fa1 (s_iload_n (kf := 1) (j := 1) (by decide +kernel) rfl) <|
  fa1 (s_aload_n (kf := 0) (j := 0) (by decide +kernel) rfl) <|
  fa1 (s_getI (ci := 9) (f := 5) (idx := 33) (C := RX9) (T := TX9) (NF := 6) (by decide +kernel) rfl (by decide) inG_X9 (by decide) w_160 li_X9_5) <|
  fa1 (s_cmpge (off := 12) (by decide +kernel) (by decide)) <|
  fa1 (s_aload_n (kf := 0) (j := 0) (by decide +kernel) rfl) <|
  fa1 (s_getR (t2 := 20) (g := (fun _ => 2)) (ci := 9) (f := 0) (idx := 9) (C := RX9) (T := TX9) (NF := 6) (by decide +kernel) rfl (by decide) inG_X9 (by decide) w_155 lr_X9_0 (by decide)) <|
  fa1 (s_iload_n (kf := 1) (j := 1) (by decide +kernel) rfl) <|
  fa1 (s_iald (by decide +kernel)) <|
  fa1 (s_goto (off := 4) (by decide +kernel) (by decide)) <|
  fa1 (s_iconst (n := -1) (v := -1) (by decide +kernel) (by decide +kernel) (p32 rfl)) <|
  fa1 (s_iret (by decide +kernel) rfl) <| fa0
theorem gg_X9_letterOf {G : Wp} {l : Launch} : GoodM loC G l yX9_letterOf cX9_letterOf 2 (some .int) rm_X9_letterOf f_X9_letterOf := met_of kt_X9_letterOf (lkp_snd (ks_X9_letterOf G l)) (by decide +kernel) rfl (by decide)
noncomputable def k_X10_howMany : List (Nat × Ins) := [
  (0, i_iload 1 1),
  (1, i_push 2 (.inl 1)),
  (2, i_cmplt 5 18),
  (5, i_iload 6 1),
  (6, i_push 7 (.inl 3)),
  (7, i_cmpgt 10 18),
  (10, i_push 13 (.inr (.inr (some (32, 3))))),
  (13, i_iload 14 1),
  (14, i_alds 15 32 sLn sCt),
  (15, i_goto 19),
  (18, i_push 19 (.inl 0)),
  (19, i_iret)]
noncomputable def kc_X10_howMany : Nat → Option Ins := lkp k_X10_howMany
noncomputable def f_X10_howMany : List AV → Mem → Option Rs := den 2 kc_X10_howMany
abbrev rm_X10_howMany : Room := { frames := 0, cells := 0, slots := 0, locals := 0 }
set_option maxRecDepth 100000 in
theorem kt_X10_howMany : TriC kc_X10_howMany := lkp_tri (fa1 (tri_iload 1 1) (fa1 (tri_push 2 (.inl 1)) (fa1 (tri_cmplt 5 18) (fa1 (tri_iload 6 1) (fa1 (tri_push 7 (.inl 3)) (fa1 (tri_cmpgt 10 18) (fa1 (tri_push 13 (.inr (.inr (some (32, 3))))) (fa1 (tri_iload 14 1) (fa1 (tri_alds 15 32 sLn sCt) (fa1 (tri_goto 19) (fa1 (tri_push 19 (.inl 0)) (fa1 (tri_iret) (fa0)))))))))))))
set_option maxRecDepth 100000 in
set_option maxHeartbeats 4000000 in
theorem ks_X10_howMany (G : Wp) (l : Launch) : ∀ e ∈ k_X10_howMany, Snd loC G l RX10 cX10_howMany 2 (some .int) rm_X10_howMany e.1 e.2 :=
  fa1 (s_iload_n (kf := 1) (j := 1) (by decide +kernel) rfl) <|
  fa1 (s_iconst (n := 1) (v := 1) (by decide +kernel) (by decide +kernel) (p32 rfl)) <|
  fa1 (s_cmplt (off := 16) (by decide +kernel) (by decide)) <|
  fa1 (s_iload_n (kf := 1) (j := 1) (by decide +kernel) rfl) <|
  fa1 (s_iconst (n := 3) (v := 3) (by decide +kernel) (by decide +kernel) (p32 rfl)) <|
  fa1 (s_cmpgt (off := 11) (by decide +kernel) (by decide)) <|
  fa1 (s_gets (j := 3) (idx := 34) (by decide +kernel) rfl w_1027) <|
  fa1 (s_iload_n (kf := 1) (j := 1) (by decide +kernel) rfl) <|
  fa1 (s_ialds (by decide +kernel)) <|
  fa1 (s_goto (off := 4) (by decide +kernel) (by decide)) <|
  fa1 (s_iconst (n := 0) (v := 0) (by decide +kernel) (by decide +kernel) (p32 rfl)) <|
  fa1 (s_iret (by decide +kernel) rfl) <| fa0
theorem gg_X10_howMany {G : Wp} {l : Launch} : GoodM loC G l yX10_howMany cX10_howMany 2 (some .int) rm_X10_howMany f_X10_howMany := met_of kt_X10_howMany (lkp_snd (ks_X10_howMany G l)) (by decide +kernel) rfl (by decide)
noncomputable def k_X10_valueAt : List (Nat × Ins) := [
  (0, i_iload 1 1),
  (1, i_push 3 (.inl 23)),
  (3, i_bin 4 (fun x y => wr (x - y))),
  (4, i_istore 6 4),
  (6, i_iload 8 4),
  (8, i_iflt 11 25),
  (11, i_iload 13 4),
  (13, i_push 14 (.inl 3)),
  (14, i_cmpge 17 25),
  (17, i_aload 18 0),
  (18, i_getR 21 10 20 (fun _ => 778)),
  (21, i_iload 23 4),
  (23, i_ald 24 20 lnC),
  (24, i_iret),
  (25, i_iload 26 2),
  (26, i_aload 27 0),
  (27, i_getI 30 10 6),
  (30, i_bin 31 (fun x y => wr (x * y))),
  (31, i_iload 32 3),
  (32, i_bin 33 (fun x y => wr (x + y))),
  (33, i_istore 35 5),
  (35, i_iload 37 5),
  (37, i_iflt 40 47),
  (40, i_iload 42 5),
  (42, i_push 44 (.inl 9)),
  (44, i_cmplt 47 49),
  (47, i_push 48 (.inl 0)),
  (48, i_iret),
  (49, i_iload 50 1),
  (50, i_push 52 (.inl 12)),
  (52, i_cmpne 55 63),
  (55, i_aload 56 0),
  (56, i_getR 59 10 20 (fun _ => 772)),
  (59, i_iload 61 5),
  (61, i_ald 62 20 lnC),
  (62, i_iret),
  (63, i_aload 64 0),
  (64, i_getR 67 10 9 (fun _ => 1)),
  (67, i_iload 68 1),
  (68, i_callI 71 2 (rcv 9) f_X9_numberOf),
  (71, i_istore 73 6),
  (73, i_iload 75 6),
  (75, i_iflt 78 97),
  (78, i_iload 80 6),
  (80, i_push 81 (.inl 4)),
  (81, i_cmpge 84 97),
  (84, i_aload 85 0),
  (85, i_getR 88 10 26 (fun _ => 773)),
  (88, i_iload 90 6),
  (90, i_aldR 91 26 20 lnC (fun c i => c + 1 + i)),
  (91, i_iload 93 5),
  (93, i_ald 94 20 lnC),
  (94, i_goto 101),
  (97, i_aload 98 0),
  (98, i_getI 101 10 7),
  (101, i_iret)]
noncomputable def kc_X10_valueAt : Nat → Option Ins := lkp k_X10_valueAt
noncomputable def f_X10_valueAt : List AV → Mem → Option Rs := den 7 kc_X10_valueAt
abbrev rm_X10_valueAt : Room := { frames := 1, cells := 0, slots := 0, locals := 21 }
set_option maxRecDepth 100000 in
theorem kt_X10_valueAt : TriC kc_X10_valueAt := lkp_tri (fa1 (tri_iload 1 1) (fa1 (tri_push 3 (.inl 23)) (fa1 (tri_bin 4 (fun x y => wr (x - y))) (fa1 (tri_istore 6 4) (fa1 (tri_iload 8 4) (fa1 (tri_iflt 11 25) (fa1 (tri_iload 13 4) (fa1 (tri_push 14 (.inl 3)) (fa1 (tri_cmpge 17 25) (fa1 (tri_aload 18 0) (fa1 (tri_getR 21 10 20 (fun _ => 778)) (fa1 (tri_iload 23 4) (fa1 (tri_ald 24 20 lnC) (fa1 (tri_iret) (fa1 (tri_iload 26 2) (fa1 (tri_aload 27 0) (fa1 (tri_getI 30 10 6) (fa1 (tri_bin 31 (fun x y => wr (x * y))) (fa1 (tri_iload 32 3) (fa1 (tri_bin 33 (fun x y => wr (x + y))) (fa1 (tri_istore 35 5) (fa1 (tri_iload 37 5) (fa1 (tri_iflt 40 47) (fa1 (tri_iload 42 5) (fa1 (tri_push 44 (.inl 9)) (fa1 (tri_cmplt 47 49) (fa1 (tri_push 48 (.inl 0)) (fa1 (tri_iret) (fa1 (tri_iload 50 1) (fa1 (tri_push 52 (.inl 12)) (fa1 (tri_cmpne 55 63) (fa1 (tri_aload 56 0) (fa1 (tri_getR 59 10 20 (fun _ => 772)) (fa1 (tri_iload 61 5) (fa1 (tri_ald 62 20 lnC) (fa1 (tri_iret) (fa1 (tri_aload 64 0) (fa1 (tri_getR 67 10 9 (fun _ => 1)) (fa1 (tri_iload 68 1) (fa1 (tri_callI 71 2 (rcv 9) f_X9_numberOf) (fa1 (tri_istore 73 6) (fa1 (tri_iload 75 6) (fa1 (tri_iflt 78 97) (fa1 (tri_iload 80 6) (fa1 (tri_push 81 (.inl 4)) (fa1 (tri_cmpge 84 97) (fa1 (tri_aload 85 0) (fa1 (tri_getR 88 10 26 (fun _ => 773)) (fa1 (tri_iload 90 6) (fa1 (tri_aldR 91 26 20 lnC (fun c i => c + 1 + i)) (fa1 (tri_iload 93 5) (fa1 (tri_ald 94 20 lnC) (fa1 (tri_goto 101) (fa1 (tri_aload 98 0) (fa1 (tri_getI 101 10 7) (fa1 (tri_iret) (fa0)))))))))))))))))))))))))))))))))))))))))))))))))))))))))
set_option maxRecDepth 100000 in
set_option maxHeartbeats 4000000 in
theorem ks_X10_valueAt (G : Wp) (l : Launch) : ∀ e ∈ k_X10_valueAt, Snd loC G l RX10 cX10_valueAt 7 (some .int) rm_X10_valueAt e.1 e.2 :=
  fa1 (s_iload_n (kf := 1) (j := 1) (by decide +kernel) rfl) <|
  fa1 (s_bipush (n := 23) (v := 23) (by decide +kernel) (by decide +kernel) (p32 rfl)) <|
  fa1 (s_isub (by decide +kernel)) <|
  fa1 (s_istore (j := 4) (by decide +kernel) (by decide)) <|
  fa1 (s_iload (j := 4) (by decide +kernel)) <|
  fa1 (s_iflt (off := 17) (by decide +kernel) (by decide)) <|
  fa1 (s_iload (j := 4) (by decide +kernel)) <|
  fa1 (s_iconst (n := 3) (v := 3) (by decide +kernel) (by decide +kernel) (p32 rfl)) <|
  fa1 (s_cmpge (off := 11) (by decide +kernel) (by decide)) <|
  fa1 (s_aload_n (kf := 0) (j := 0) (by decide +kernel) rfl) <|
  fa1 (s_getR (t2 := 20) (g := (fun _ => 778)) (ci := 10) (f := 4) (idx := 20) (C := RX10) (T := TX10) (NF := 8) (by decide +kernel) rfl (by decide) inG_X10 (by decide) w_478 lr_X10_4 (by decide)) <|
  fa1 (s_iload (j := 4) (by decide +kernel)) <|
  fa1 (s_iald (by decide +kernel)) <|
  fa1 (s_iret (by decide +kernel) rfl) <|
  fa1 (s_iload_n (kf := 2) (j := 2) (by decide +kernel) rfl) <|
  fa1 (s_aload_n (kf := 0) (j := 0) (by decide +kernel) rfl) <|
  fa1 (s_getI (ci := 10) (f := 6) (idx := 37) (C := RX10) (T := TX10) (NF := 8) (by decide +kernel) rfl (by decide) inG_X10 (by decide) w_480 li_X10_6) <|
  fa1 (s_imul (by decide +kernel)) <|
  fa1 (s_iload_n (kf := 3) (j := 3) (by decide +kernel) rfl) <|
  fa1 (s_iadd (by decide +kernel)) <|
  fa1 (s_istore (j := 5) (by decide +kernel) (by decide)) <|
  fa1 (s_iload (j := 5) (by decide +kernel)) <|
  fa1 (s_iflt (off := 10) (by decide +kernel) (by decide)) <|
  fa1 (s_iload (j := 5) (by decide +kernel)) <|
  fa1 (s_bipush (n := 9) (v := 9) (by decide +kernel) (by decide +kernel) (p32 rfl)) <|
  fa1 (s_cmplt (off := 5) (by decide +kernel) (by decide)) <|
  fa1 (s_iconst (n := 0) (v := 0) (by decide +kernel) (by decide +kernel) (p32 rfl)) <|
  fa1 (s_iret (by decide +kernel) rfl) <|
  fa1 (s_iload_n (kf := 1) (j := 1) (by decide +kernel) rfl) <|
  fa1 (s_bipush (n := 12) (v := 12) (by decide +kernel) (by decide +kernel) (p32 rfl)) <|
  fa1 (s_cmpne (off := 11) (by decide +kernel) (by decide)) <|
  fa1 (s_aload_n (kf := 0) (j := 0) (by decide +kernel) rfl) <|
  fa1 (s_getR (t2 := 20) (g := (fun _ => 772)) (ci := 10) (f := 2) (idx := 11) (C := RX10) (T := TX10) (NF := 8) (by decide +kernel) rfl (by decide) inG_X10 (by decide) w_476 lr_X10_2 (by decide)) <|
  fa1 (s_iload (j := 5) (by decide +kernel)) <|
  fa1 (s_iald (by decide +kernel)) <|
  fa1 (s_iret (by decide +kernel) rfl) <|
  fa1 (s_aload_n (kf := 0) (j := 0) (by decide +kernel) rfl) <|
  fa1 (s_getR (t2 := 9) (g := (fun _ => 1)) (ci := 10) (f := 0) (idx := 26) (C := RX10) (T := TX10) (NF := 8) (by decide +kernel) rfl (by decide) inG_X10 (by decide) w_474 lr_X10_0 (by decide)) <|
  fa1 (s_iload_n (kf := 1) (j := 1) (by decide +kernel) rfl) <|
  fa1 (s_vcallI (n := 1) (ci := 9) (C := RX9) (T := TX9) (NF := 6) (idx := 84) (y := yX9_numberOf) (by decide +kernel) (gg_X9_numberOf) rfl (by decide) yv_X9_numberOf (all5 w_1050 w_651 w_652 w_101 w_653) rfl rfl ⟨by decide, by decide⟩) <|
  fa1 (s_istore (j := 6) (by decide +kernel) (by decide)) <|
  fa1 (s_iload (j := 6) (by decide +kernel)) <|
  fa1 (s_iflt (off := 22) (by decide +kernel) (by decide)) <|
  fa1 (s_iload (j := 6) (by decide +kernel)) <|
  fa1 (s_iconst (n := 4) (v := 4) (by decide +kernel) (by decide +kernel) (p32 rfl)) <|
  fa1 (s_cmpge (off := 16) (by decide +kernel) (by decide)) <|
  fa1 (s_aload_n (kf := 0) (j := 0) (by decide +kernel) rfl) <|
  fa1 (s_getR (t2 := 26) (g := (fun _ => 773)) (ci := 10) (f := 3) (idx := 17) (C := RX10) (T := TX10) (NF := 8) (by decide +kernel) rfl (by decide) inG_X10 (by decide) w_477 lr_X10_3 (by decide)) <|
  fa1 (s_iload (j := 6) (by decide +kernel)) <|
  fa1 (s_aldR (t := 26) (t2 := 20) (g := (fun c i => c + 1 + i)) (by decide +kernel) (by decide) (by decide) rfl (by decide) le_26) <|
  fa1 (s_iload (j := 5) (by decide +kernel)) <|
  fa1 (s_iald (by decide +kernel)) <|
  fa1 (s_goto (off := 7) (by decide +kernel) (by decide)) <|
  fa1 (s_aload_n (kf := 0) (j := 0) (by decide +kernel) rfl) <|
  fa1 (s_getI (ci := 10) (f := 7) (idx := 41) (C := RX10) (T := TX10) (NF := 8) (by decide +kernel) rfl (by decide) inG_X10 (by decide) w_481 li_X10_7) <|
  fa1 (s_iret (by decide +kernel) rfl) <| fa0
theorem gg_X10_valueAt {G : Wp} {l : Launch} : GoodM loC G l yX10_valueAt cX10_valueAt 7 (some .int) rm_X10_valueAt f_X10_valueAt := met_of kt_X10_valueAt (lkp_snd (ks_X10_valueAt G l)) (by decide +kernel) rfl (by decide)
noncomputable def k_X10_valueOf : List (Nat × Ins) := [
  (0, i_push 1 (.inl 0)),
  (1, i_istore 2 2),
  (2, i_aload 3 1),
  (3, i_getI 6 8 1),
  (6, i_push 7 (.inl 1)),
  (7, i_bin 8 (fun x y => wr (x - y))),
  (8, i_istore 9 3),
  (9, i_iload 10 3),
  (10, i_iflt 13 121),
  (13, i_aload 14 1),
  (14, i_iload 15 3),
  (15, i_callI 18 2 (rcv 8) f_X8_at),
  (18, i_istore 20 4),
  (20, i_aload 21 0),
  (21, i_getR 24 10 9 (fun _ => 1)),
  (24, i_iload 26 4),
  (26, i_callI 29 2 (rcv 9) f_X9_behind),
  (29, i_istore 31 5),
  (31, i_iload 32 2),
  (32, i_push 33 (.inl 1)),
  (33, i_cmplt 36 53),
  (36, i_iload 38 5),
  (38, i_push 39 (.inl 1)),
  (39, i_cmplt 42 53),
  (42, i_aload 43 0),
  (43, i_getR 46 10 20 (fun _ => 779)),
  (46, i_iload 47 2),
  (47, i_push 48 (.inl 1)),
  (48, i_bin 49 (fun x y => wr (x - y))),
  (49, i_ald 50 20 lnC),
  (50, i_goto 54),
  (53, i_push 54 (.inl 0)),
  (54, i_istore 56 6),
  (56, i_iload 57 2),
  (57, i_push 58 (.inl 2)),
  (58, i_cmplt 61 78),
  (61, i_iload 63 5),
  (63, i_push 64 (.inl 2)),
  (64, i_cmpne 67 78),
  (67, i_aload 68 0),
  (68, i_getR 71 10 20 (fun _ => 779)),
  (71, i_iload 72 2),
  (72, i_push 73 (.inl 2)),
  (73, i_bin 74 (fun x y => wr (x - y))),
  (74, i_ald 75 20 lnC),
  (75, i_goto 79),
  (78, i_push 79 (.inl 0)),
  (79, i_istore 81 7),
  (81, i_iload 82 2),
  (82, i_iload 84 5),
  (84, i_bin 85 (fun x y => wr (x - y))),
  (85, i_push 86 (.inl 0)),
  (86, i_mm 89 mMax),
  (89, i_istore 90 2),
  (90, i_iload 91 2),
  (91, i_push 93 (.inl 20)),
  (93, i_cmpge 96 115),
  (96, i_aload 97 0),
  (97, i_getR 100 10 20 (fun _ => 779)),
  (100, i_iload 101 2),
  (101, i_aload 102 0),
  (102, i_iload 104 4),
  (104, i_iload 106 6),
  (106, i_iload 108 7),
  (108, i_callI 111 4 (rcv 10) f_X10_valueAt),
  (111, i_ast 112 20 lnC id),
  (112, i_iinc 115 2 (1)),
  (115, i_iinc 118 3 (-1)),
  (118, i_goto 9),
  (121, i_aload 122 0),
  (122, i_getR 125 10 20 (fun _ => 779)),
  (125, i_push 126 (.inl 0)),
  (126, i_ald 127 20 lnC),
  (127, i_iret)]
noncomputable def kc_X10_valueOf : Nat → Option Ins := lkp k_X10_valueOf
noncomputable def f_X10_valueOf : List AV → Mem → Option Rs := den 8 kc_X10_valueOf
abbrev rm_X10_valueOf : Room := { frames := 2, cells := 0, slots := 0, locals := 47 }
set_option maxRecDepth 100000 in
theorem kt_X10_valueOf : TriC kc_X10_valueOf := lkp_tri (fa1 (tri_push 1 (.inl 0)) (fa1 (tri_istore 2 2) (fa1 (tri_aload 3 1) (fa1 (tri_getI 6 8 1) (fa1 (tri_push 7 (.inl 1)) (fa1 (tri_bin 8 (fun x y => wr (x - y))) (fa1 (tri_istore 9 3) (fa1 (tri_iload 10 3) (fa1 (tri_iflt 13 121) (fa1 (tri_aload 14 1) (fa1 (tri_iload 15 3) (fa1 (tri_callI 18 2 (rcv 8) f_X8_at) (fa1 (tri_istore 20 4) (fa1 (tri_aload 21 0) (fa1 (tri_getR 24 10 9 (fun _ => 1)) (fa1 (tri_iload 26 4) (fa1 (tri_callI 29 2 (rcv 9) f_X9_behind) (fa1 (tri_istore 31 5) (fa1 (tri_iload 32 2) (fa1 (tri_push 33 (.inl 1)) (fa1 (tri_cmplt 36 53) (fa1 (tri_iload 38 5) (fa1 (tri_push 39 (.inl 1)) (fa1 (tri_cmplt 42 53) (fa1 (tri_aload 43 0) (fa1 (tri_getR 46 10 20 (fun _ => 779)) (fa1 (tri_iload 47 2) (fa1 (tri_push 48 (.inl 1)) (fa1 (tri_bin 49 (fun x y => wr (x - y))) (fa1 (tri_ald 50 20 lnC) (fa1 (tri_goto 54) (fa1 (tri_push 54 (.inl 0)) (fa1 (tri_istore 56 6) (fa1 (tri_iload 57 2) (fa1 (tri_push 58 (.inl 2)) (fa1 (tri_cmplt 61 78) (fa1 (tri_iload 63 5) (fa1 (tri_push 64 (.inl 2)) (fa1 (tri_cmpne 67 78) (fa1 (tri_aload 68 0) (fa1 (tri_getR 71 10 20 (fun _ => 779)) (fa1 (tri_iload 72 2) (fa1 (tri_push 73 (.inl 2)) (fa1 (tri_bin 74 (fun x y => wr (x - y))) (fa1 (tri_ald 75 20 lnC) (fa1 (tri_goto 79) (fa1 (tri_push 79 (.inl 0)) (fa1 (tri_istore 81 7) (fa1 (tri_iload 82 2) (fa1 (tri_iload 84 5) (fa1 (tri_bin 85 (fun x y => wr (x - y))) (fa1 (tri_push 86 (.inl 0)) (fa1 (tri_mm 89 mMax) (fa1 (tri_istore 90 2) (fa1 (tri_iload 91 2) (fa1 (tri_push 93 (.inl 20)) (fa1 (tri_cmpge 96 115) (fa1 (tri_aload 97 0) (fa1 (tri_getR 100 10 20 (fun _ => 779)) (fa1 (tri_iload 101 2) (fa1 (tri_aload 102 0) (fa1 (tri_iload 104 4) (fa1 (tri_iload 106 6) (fa1 (tri_iload 108 7) (fa1 (tri_callI 111 4 (rcv 10) f_X10_valueAt) (fa1 (tri_ast 112 20 lnC id) (fa1 (tri_iinc 115 2 (1)) (fa1 (tri_iinc 118 3 (-1)) (fa1 (tri_goto 9) (fa1 (tri_aload 122 0) (fa1 (tri_getR 125 10 20 (fun _ => 779)) (fa1 (tri_push 126 (.inl 0)) (fa1 (tri_ald 127 20 lnC) (fa1 (tri_iret) (fa0)))))))))))))))))))))))))))))))))))))))))))))))))))))))))))))))))))))))))))
set_option maxRecDepth 100000 in
set_option maxHeartbeats 4000000 in
theorem ks_X10_valueOf (G : Wp) (l : Launch) : ∀ e ∈ k_X10_valueOf, Snd loC G l RX10 cX10_valueOf 8 (some .int) rm_X10_valueOf e.1 e.2 :=
  fa1 (s_iconst (n := 0) (v := 0) (by decide +kernel) (by decide +kernel) (p32 rfl)) <|
  fa1 (s_istore_n (kf := 2) (j := 2) (by decide +kernel) rfl (by decide)) <|
  fa1 (s_aload_n (kf := 1) (j := 1) (by decide +kernel) rfl) <|
  fa1 (s_getI (ci := 8) (f := 1) (idx := 65) (C := RX8) (T := TX8) (NF := 2) (by decide +kernel) rfl (by decide) inG_X8 (by decide) w_144 li_X8_1) <|
  fa1 (s_iconst (n := 1) (v := 1) (by decide +kernel) (by decide +kernel) (p32 rfl)) <|
  fa1 (s_isub (by decide +kernel)) <|
  fa1 (s_istore_n (kf := 3) (j := 3) (by decide +kernel) rfl (by decide)) <|
  fa1 (s_iload_n (kf := 3) (j := 3) (by decide +kernel) rfl) <|
  fa1 (s_iflt (off := 111) (by decide +kernel) (by decide)) <|
  fa1 (s_aload_n (kf := 1) (j := 1) (by decide +kernel) rfl) <|
  fa1 (s_iload_n (kf := 3) (j := 3) (by decide +kernel) rfl) <|
  fa1 (s_vcallI (n := 1) (ci := 8) (C := RX8) (T := TX8) (NF := 2) (idx := 68) (y := yX8_at) (by decide +kernel) (gg_X8_at) rfl (by decide) yv_X8_at (all5 w_1043 w_667 w_668 w_102 w_669) rfl rfl ⟨by decide, by decide⟩) <|
  fa1 (s_istore (j := 4) (by decide +kernel) (by decide)) <|
  fa1 (s_aload_n (kf := 0) (j := 0) (by decide +kernel) rfl) <|
  fa1 (s_getR (t2 := 9) (g := (fun _ => 1)) (ci := 10) (f := 0) (idx := 26) (C := RX10) (T := TX10) (NF := 8) (by decide +kernel) rfl (by decide) inG_X10 (by decide) w_474 lr_X10_0 (by decide)) <|
  fa1 (s_iload (j := 4) (by decide +kernel)) <|
  fa1 (s_vcallI (n := 1) (ci := 9) (C := RX9) (T := TX9) (NF := 6) (idx := 71) (y := yX9_behind) (by decide +kernel) (gg_X9_behind) rfl (by decide) yv_X9_behind (all5 w_1044 w_676 w_677 w_101 w_678) rfl rfl ⟨by decide, by decide⟩) <|
  fa1 (s_istore (j := 5) (by decide +kernel) (by decide)) <|
  fa1 (s_iload_n (kf := 2) (j := 2) (by decide +kernel) rfl) <|
  fa1 (s_iconst (n := 1) (v := 1) (by decide +kernel) (by decide +kernel) (p32 rfl)) <|
  fa1 (s_cmplt (off := 20) (by decide +kernel) (by decide)) <|
  fa1 (s_iload (j := 5) (by decide +kernel)) <|
  fa1 (s_iconst (n := 1) (v := 1) (by decide +kernel) (by decide +kernel) (p32 rfl)) <|
  fa1 (s_cmplt (off := 14) (by decide +kernel) (by decide)) <|
  fa1 (s_aload_n (kf := 0) (j := 0) (by decide +kernel) rfl) <|
  fa1 (s_getR (t2 := 20) (g := (fun _ => 779)) (ci := 10) (f := 5) (idx := 23) (C := RX10) (T := TX10) (NF := 8) (by decide +kernel) rfl (by decide) inG_X10 (by decide) w_479 lr_X10_5 (by decide)) <|
  fa1 (s_iload_n (kf := 2) (j := 2) (by decide +kernel) rfl) <|
  fa1 (s_iconst (n := 1) (v := 1) (by decide +kernel) (by decide +kernel) (p32 rfl)) <|
  fa1 (s_isub (by decide +kernel)) <|
  fa1 (s_iald (by decide +kernel)) <|
  fa1 (s_goto (off := 4) (by decide +kernel) (by decide)) <|
  fa1 (s_iconst (n := 0) (v := 0) (by decide +kernel) (by decide +kernel) (p32 rfl)) <|
  fa1 (s_istore (j := 6) (by decide +kernel) (by decide)) <|
  fa1 (s_iload_n (kf := 2) (j := 2) (by decide +kernel) rfl) <|
  fa1 (s_iconst (n := 2) (v := 2) (by decide +kernel) (by decide +kernel) (p32 rfl)) <|
  fa1 (s_cmplt (off := 20) (by decide +kernel) (by decide)) <|
  fa1 (s_iload (j := 5) (by decide +kernel)) <|
  fa1 (s_iconst (n := 2) (v := 2) (by decide +kernel) (by decide +kernel) (p32 rfl)) <|
  fa1 (s_cmpne (off := 14) (by decide +kernel) (by decide)) <|
  fa1 (s_aload_n (kf := 0) (j := 0) (by decide +kernel) rfl) <|
  fa1 (s_getR (t2 := 20) (g := (fun _ => 779)) (ci := 10) (f := 5) (idx := 23) (C := RX10) (T := TX10) (NF := 8) (by decide +kernel) rfl (by decide) inG_X10 (by decide) w_479 lr_X10_5 (by decide)) <|
  fa1 (s_iload_n (kf := 2) (j := 2) (by decide +kernel) rfl) <|
  fa1 (s_iconst (n := 2) (v := 2) (by decide +kernel) (by decide +kernel) (p32 rfl)) <|
  fa1 (s_isub (by decide +kernel)) <|
  fa1 (s_iald (by decide +kernel)) <|
  fa1 (s_goto (off := 4) (by decide +kernel) (by decide)) <|
  fa1 (s_iconst (n := 0) (v := 0) (by decide +kernel) (by decide +kernel) (p32 rfl)) <|
  fa1 (s_istore (j := 7) (by decide +kernel) (by decide)) <|
  fa1 (s_iload_n (kf := 2) (j := 2) (by decide +kernel) rfl) <|
  fa1 (s_iload (j := 5) (by decide +kernel)) <|
  fa1 (s_isub (by decide +kernel)) <|
  fa1 (s_iconst (n := 0) (v := 0) (by decide +kernel) (by decide +kernel) (p32 rfl)) <|
  fa1 (s_mmax (idx := 74) (by decide +kernel) w_1045 w_137 w_103 w_138 (by decide) (by decide)) <|
  fa1 (s_istore_n (kf := 2) (j := 2) (by decide +kernel) rfl (by decide)) <|
  fa1 (s_iload_n (kf := 2) (j := 2) (by decide +kernel) rfl) <|
  fa1 (s_bipush (n := 20) (v := 20) (by decide +kernel) (by decide +kernel) (p32 rfl)) <|
  fa1 (s_cmpge (off := 22) (by decide +kernel) (by decide)) <|
  fa1 (s_aload_n (kf := 0) (j := 0) (by decide +kernel) rfl) <|
  fa1 (s_getR (t2 := 20) (g := (fun _ => 779)) (ci := 10) (f := 5) (idx := 23) (C := RX10) (T := TX10) (NF := 8) (by decide +kernel) rfl (by decide) inG_X10 (by decide) w_479 lr_X10_5 (by decide)) <|
  fa1 (s_iload_n (kf := 2) (j := 2) (by decide +kernel) rfl) <|
  fa1 (s_aload_n (kf := 0) (j := 0) (by decide +kernel) rfl) <|
  fa1 (s_iload (j := 4) (by decide +kernel)) <|
  fa1 (s_iload (j := 6) (by decide +kernel)) <|
  fa1 (s_iload (j := 7) (by decide +kernel)) <|
  fa1 (s_vcallI (n := 3) (ci := 10) (C := RX10) (T := TX10) (NF := 8) (idx := 80) (y := yX10_valueAt) (by decide +kernel) (gg_X10_valueAt) rfl (by decide) yv_X10_valueAt (all5 w_1046 w_1048 w_28 w_110 w_1049) rfl rfl ⟨by decide, by decide⟩) <|
  fa1 (s_iast (by decide +kernel) lt_loC_20) <|
  fa1 (s_iinc (j := 2) (d := 1) (by decide +kernel) (by decide)) <|
  fa1 (s_iinc (j := 3) (d := -1) (by decide +kernel) (by decide)) <|
  fa1 (s_goto (off := -109) (by decide +kernel) (by decide)) <|
  fa1 (s_aload_n (kf := 0) (j := 0) (by decide +kernel) rfl) <|
  fa1 (s_getR (t2 := 20) (g := (fun _ => 779)) (ci := 10) (f := 5) (idx := 23) (C := RX10) (T := TX10) (NF := 8) (by decide +kernel) rfl (by decide) inG_X10 (by decide) w_479 lr_X10_5 (by decide)) <|
  fa1 (s_iconst (n := 0) (v := 0) (by decide +kernel) (by decide +kernel) (p32 rfl)) <|
  fa1 (s_iald (by decide +kernel)) <|
  fa1 (s_iret (by decide +kernel) rfl) <| fa0
theorem gg_X10_valueOf {G : Wp} {l : Launch} : GoodM loC G l yX10_valueOf cX10_valueOf 8 (some .int) rm_X10_valueOf f_X10_valueOf := met_of kt_X10_valueOf (lkp_snd (ks_X10_valueOf G l)) (by decide +kernel) rfl (by decide)
noncomputable def k_X10_fillTable : List (Nat × Ins) := [
  (0, i_push 1 (.inl 0)),
  (1, i_istore 3 4),
  (3, i_iload 5 4),
  (5, i_aload 6 0),
  (6, i_getI 9 10 6),
  (9, i_cmpge 12 102),
  (12, i_push 13 (.inl 0)),
  (13, i_istore 15 5),
  (15, i_iload 17 5),
  (17, i_aload 18 0),
  (18, i_getI 21 10 6),
  (21, i_cmpge 24 96),
  (24, i_aload 25 0),
  (25, i_getR 28 10 20 (fun _ => 778)),
  (28, i_push 29 (.inl 0)),
  (29, i_iload 31 4),
  (31, i_ast 32 20 lnC id),
  (32, i_aload 33 0),
  (33, i_getR 36 10 20 (fun _ => 778)),
  (36, i_push 37 (.inl 1)),
  (37, i_iload 39 5),
  (39, i_ast 40 20 lnC id),
  (40, i_iload 42 4),
  (42, i_aload 43 0),
  (43, i_getI 46 10 6),
  (46, i_bin 47 (fun x y => wr (x * y))),
  (47, i_iload 49 5),
  (49, i_bin 50 (fun x y => wr (x + y))),
  (50, i_istore 52 6),
  (52, i_iload 54 6),
  (54, i_aload 55 1),
  (55, i_alen 56 20 lnC),
  (56, i_cmpge 59 90),
  (59, i_aload 60 1),
  (60, i_iload 62 6),
  (62, i_iload 63 3),
  (63, i_push 64 (.inl 2)),
  (64, i_cmpge 67 84),
  (67, i_iload 69 5),
  (69, i_ifle 72 84),
  (72, i_aload 73 1),
  (73, i_iload 75 4),
  (75, i_aload 76 0),
  (76, i_getI 79 10 6),
  (79, i_bin 80 (fun x y => wr (x * y))),
  (80, i_ald 81 20 lnC),
  (81, i_goto 89),
  (84, i_aload 85 0),
  (85, i_aload 86 2),
  (86, i_callI 89 2 (rcv 10) f_X10_valueOf),
  (89, i_ast 90 20 lnC id),
  (90, i_iinc 93 5 (1)),
  (93, i_goto 15),
  (96, i_iinc 99 4 (1)),
  (99, i_goto 3),
  (102, i_vret)]
noncomputable def kc_X10_fillTable : Nat → Option Ins := lkp k_X10_fillTable
noncomputable def f_X10_fillTable : List AV → Mem → Option Rs := den 7 kc_X10_fillTable
abbrev rm_X10_fillTable : Room := { frames := 3, cells := 0, slots := 0, locals := 74 }
set_option maxRecDepth 100000 in
theorem kt_X10_fillTable : TriC kc_X10_fillTable := lkp_tri (fa1 (tri_push 1 (.inl 0)) (fa1 (tri_istore 3 4) (fa1 (tri_iload 5 4) (fa1 (tri_aload 6 0) (fa1 (tri_getI 9 10 6) (fa1 (tri_cmpge 12 102) (fa1 (tri_push 13 (.inl 0)) (fa1 (tri_istore 15 5) (fa1 (tri_iload 17 5) (fa1 (tri_aload 18 0) (fa1 (tri_getI 21 10 6) (fa1 (tri_cmpge 24 96) (fa1 (tri_aload 25 0) (fa1 (tri_getR 28 10 20 (fun _ => 778)) (fa1 (tri_push 29 (.inl 0)) (fa1 (tri_iload 31 4) (fa1 (tri_ast 32 20 lnC id) (fa1 (tri_aload 33 0) (fa1 (tri_getR 36 10 20 (fun _ => 778)) (fa1 (tri_push 37 (.inl 1)) (fa1 (tri_iload 39 5) (fa1 (tri_ast 40 20 lnC id) (fa1 (tri_iload 42 4) (fa1 (tri_aload 43 0) (fa1 (tri_getI 46 10 6) (fa1 (tri_bin 47 (fun x y => wr (x * y))) (fa1 (tri_iload 49 5) (fa1 (tri_bin 50 (fun x y => wr (x + y))) (fa1 (tri_istore 52 6) (fa1 (tri_iload 54 6) (fa1 (tri_aload 55 1) (fa1 (tri_alen 56 20 lnC) (fa1 (tri_cmpge 59 90) (fa1 (tri_aload 60 1) (fa1 (tri_iload 62 6) (fa1 (tri_iload 63 3) (fa1 (tri_push 64 (.inl 2)) (fa1 (tri_cmpge 67 84) (fa1 (tri_iload 69 5) (fa1 (tri_ifle 72 84) (fa1 (tri_aload 73 1) (fa1 (tri_iload 75 4) (fa1 (tri_aload 76 0) (fa1 (tri_getI 79 10 6) (fa1 (tri_bin 80 (fun x y => wr (x * y))) (fa1 (tri_ald 81 20 lnC) (fa1 (tri_goto 89) (fa1 (tri_aload 85 0) (fa1 (tri_aload 86 2) (fa1 (tri_callI 89 2 (rcv 10) f_X10_valueOf) (fa1 (tri_ast 90 20 lnC id) (fa1 (tri_iinc 93 5 (1)) (fa1 (tri_goto 15) (fa1 (tri_iinc 99 4 (1)) (fa1 (tri_goto 3) (fa1 (tri_vret) (fa0)))))))))))))))))))))))))))))))))))))))))))))))))))))))))
set_option maxRecDepth 100000 in
set_option maxHeartbeats 4000000 in
theorem ks_X10_fillTable (G : Wp) (l : Launch) : ∀ e ∈ k_X10_fillTable, Snd loC G l RX10 cX10_fillTable 7 none rm_X10_fillTable e.1 e.2 :=
  fa1 (s_iconst (n := 0) (v := 0) (by decide +kernel) (by decide +kernel) (p32 rfl)) <|
  fa1 (s_istore (j := 4) (by decide +kernel) (by decide)) <|
  fa1 (s_iload (j := 4) (by decide +kernel)) <|
  fa1 (s_aload_n (kf := 0) (j := 0) (by decide +kernel) rfl) <|
  fa1 (s_getI (ci := 10) (f := 6) (idx := 37) (C := RX10) (T := TX10) (NF := 8) (by decide +kernel) rfl (by decide) inG_X10 (by decide) w_480 li_X10_6) <|
  fa1 (s_cmpge (off := 93) (by decide +kernel) (by decide)) <|
  fa1 (s_iconst (n := 0) (v := 0) (by decide +kernel) (by decide +kernel) (p32 rfl)) <|
  fa1 (s_istore (j := 5) (by decide +kernel) (by decide)) <|
  fa1 (s_iload (j := 5) (by decide +kernel)) <|
  fa1 (s_aload_n (kf := 0) (j := 0) (by decide +kernel) rfl) <|
  fa1 (s_getI (ci := 10) (f := 6) (idx := 37) (C := RX10) (T := TX10) (NF := 8) (by decide +kernel) rfl (by decide) inG_X10 (by decide) w_480 li_X10_6) <|
  fa1 (s_cmpge (off := 75) (by decide +kernel) (by decide)) <|
  fa1 (s_aload_n (kf := 0) (j := 0) (by decide +kernel) rfl) <|
  fa1 (s_getR (t2 := 20) (g := (fun _ => 778)) (ci := 10) (f := 4) (idx := 20) (C := RX10) (T := TX10) (NF := 8) (by decide +kernel) rfl (by decide) inG_X10 (by decide) w_478 lr_X10_4 (by decide)) <|
  fa1 (s_iconst (n := 0) (v := 0) (by decide +kernel) (by decide +kernel) (p32 rfl)) <|
  fa1 (s_iload (j := 4) (by decide +kernel)) <|
  fa1 (s_iast (by decide +kernel) lt_loC_20) <|
  fa1 (s_aload_n (kf := 0) (j := 0) (by decide +kernel) rfl) <|
  fa1 (s_getR (t2 := 20) (g := (fun _ => 778)) (ci := 10) (f := 4) (idx := 20) (C := RX10) (T := TX10) (NF := 8) (by decide +kernel) rfl (by decide) inG_X10 (by decide) w_478 lr_X10_4 (by decide)) <|
  fa1 (s_iconst (n := 1) (v := 1) (by decide +kernel) (by decide +kernel) (p32 rfl)) <|
  fa1 (s_iload (j := 5) (by decide +kernel)) <|
  fa1 (s_iast (by decide +kernel) lt_loC_20) <|
  fa1 (s_iload (j := 4) (by decide +kernel)) <|
  fa1 (s_aload_n (kf := 0) (j := 0) (by decide +kernel) rfl) <|
  fa1 (s_getI (ci := 10) (f := 6) (idx := 37) (C := RX10) (T := TX10) (NF := 8) (by decide +kernel) rfl (by decide) inG_X10 (by decide) w_480 li_X10_6) <|
  fa1 (s_imul (by decide +kernel)) <|
  fa1 (s_iload (j := 5) (by decide +kernel)) <|
  fa1 (s_iadd (by decide +kernel)) <|
  fa1 (s_istore (j := 6) (by decide +kernel) (by decide)) <|
  fa1 (s_iload (j := 6) (by decide +kernel)) <|
  fa1 (s_aload_n (kf := 1) (j := 1) (by decide +kernel) rfl) <|
  fa1 (s_alen (t := 20) (by decide +kernel) (by decide) (by decide) ll_loC_20) <|
  fa1 (s_cmpge (off := 34) (by decide +kernel) (by decide)) <|
  fa1 (s_aload_n (kf := 1) (j := 1) (by decide +kernel) rfl) <|
  fa1 (s_iload (j := 6) (by decide +kernel)) <|
  fa1 (s_iload_n (kf := 3) (j := 3) (by decide +kernel) rfl) <|
  fa1 (s_iconst (n := 2) (v := 2) (by decide +kernel) (by decide +kernel) (p32 rfl)) <|
  fa1 (s_cmpge (off := 20) (by decide +kernel) (by decide)) <|
  fa1 (s_iload (j := 5) (by decide +kernel)) <|
  fa1 (s_ifle (off := 15) (by decide +kernel) (by decide)) <|
  fa1 (s_aload_n (kf := 1) (j := 1) (by decide +kernel) rfl) <|
  fa1 (s_iload (j := 4) (by decide +kernel)) <|
  fa1 (s_aload_n (kf := 0) (j := 0) (by decide +kernel) rfl) <|
  fa1 (s_getI (ci := 10) (f := 6) (idx := 37) (C := RX10) (T := TX10) (NF := 8) (by decide +kernel) rfl (by decide) inG_X10 (by decide) w_480 li_X10_6) <|
  fa1 (s_imul (by decide +kernel)) <|
  fa1 (s_iald (by decide +kernel)) <|
  fa1 (s_goto (off := 8) (by decide +kernel) (by decide)) <|
  fa1 (s_aload_n (kf := 0) (j := 0) (by decide +kernel) rfl) <|
  fa1 (s_aload_n (kf := 2) (j := 2) (by decide +kernel) rfl) <|
  fa1 (s_vcallI (n := 1) (ci := 10) (C := RX10) (T := TX10) (NF := 8) (idx := 61) (y := yX10_valueOf) (by decide +kernel) (gg_X10_valueOf) rfl (by decide) yv_X10_valueOf (all5 w_1039 w_1041 w_27 w_110 w_1042) rfl rfl ⟨by decide, by decide⟩) <|
  fa1 (s_iast (by decide +kernel) lt_loC_20) <|
  fa1 (s_iinc (j := 5) (d := 1) (by decide +kernel) (by decide)) <|
  fa1 (s_goto (off := -78) (by decide +kernel) (by decide)) <|
  fa1 (s_iinc (j := 4) (d := 1) (by decide +kernel) (by decide)) <|
  fa1 (s_goto (off := -96) (by decide +kernel) (by decide)) <|
  fa1 (s_vret (by decide +kernel) rfl) <| fa0
theorem gg_X10_fillTable {G : Wp} {l : Launch} : GoodM loC G l yX10_fillTable cX10_fillTable 7 none rm_X10_fillTable f_X10_fillTable := met_of kt_X10_fillTable (lkp_snd (ks_X10_fillTable G l)) (by decide +kernel) rfl (by decide)
noncomputable def k_X10_enter : List (Nat × Ins) := [
  (0, i_iload 1 1),
  (1, i_push 2 (.inl 1)),
  (2, i_cmplt 5 10),
  (5, i_iload 6 1),
  (6, i_push 7 (.inl 3)),
  (7, i_cmple 10 11),
  (10, i_vret),
  (11, i_aload 12 0),
  (12, i_iload 13 1),
  (13, i_putI 16 10 6),
  (16, i_aload 17 0),
  (17, i_iload 18 2),
  (18, i_iload 19 1),
  (19, i_div 20 bRem),
  (20, i_putI 23 10 7),
  (23, i_iload 24 2),
  (24, i_iload 25 1),
  (25, i_div 26 bDiv),
  (26, i_istore 27 3),
  (27, i_push 28 (.inl 0)),
  (28, i_istore 30 4),
  (30, i_iload 32 4),
  (32, i_iload 33 1),
  (33, i_iload 34 1),
  (34, i_bin 35 (fun x y => wr (x * y))),
  (35, i_cmpge 38 58),
  (38, i_aload 39 0),
  (39, i_getR 42 10 20 (fun _ => 772)),
  (42, i_iload 44 4),
  (44, i_iload 45 3),
  (45, i_iload 46 1),
  (46, i_div 47 bRem),
  (47, i_ast 48 20 lnC id),
  (48, i_iload 49 3),
  (49, i_iload 50 1),
  (50, i_div 51 bDiv),
  (51, i_istore 52 3),
  (52, i_iinc 55 4 (1)),
  (55, i_goto 30),
  (58, i_push 59 (.inl 0)),
  (59, i_istore 61 4),
  (61, i_iload 63 4),
  (63, i_aload 64 0),
  (64, i_getR 67 10 9 (fun _ => 1)),
  (67, i_getI 70 9 5),
  (70, i_cmpge 73 108),
  (73, i_aload 74 0),
  (74, i_aload 75 0),
  (75, i_getR 78 10 26 (fun _ => 773)),
  (78, i_iload 80 4),
  (80, i_aldR 81 26 20 lnC (fun c i => c + 1 + i)),
  (81, i_aload 82 0),
  (82, i_getR 85 10 9 (fun _ => 1)),
  (85, i_iload 87 4),
  (87, i_callR 90 2 8 (rcv 9) f_X9_meaningOf),
  (90, i_aload 91 0),
  (91, i_getR 94 10 9 (fun _ => 1)),
  (94, i_iload 96 4),
  (96, i_callI 99 2 (rcv 9) f_X9_needOf),
  (99, i_callV 102 4 (rcv 10) f_X10_fillTable),
  (102, i_iinc 105 4 (1)),
  (105, i_goto 61),
  (108, i_vret)]
noncomputable def kc_X10_enter : Nat → Option Ins := lkp k_X10_enter
noncomputable def f_X10_enter : List AV → Mem → Option Rs := den 5 kc_X10_enter
abbrev rm_X10_enter : Room := { frames := 4, cells := 0, slots := 0, locals := 100 }
set_option maxRecDepth 100000 in
theorem kt_X10_enter : TriC kc_X10_enter := lkp_tri (fa1 (tri_iload 1 1) (fa1 (tri_push 2 (.inl 1)) (fa1 (tri_cmplt 5 10) (fa1 (tri_iload 6 1) (fa1 (tri_push 7 (.inl 3)) (fa1 (tri_cmple 10 11) (fa1 (tri_vret) (fa1 (tri_aload 12 0) (fa1 (tri_iload 13 1) (fa1 (tri_putI 16 10 6) (fa1 (tri_aload 17 0) (fa1 (tri_iload 18 2) (fa1 (tri_iload 19 1) (fa1 (tri_div 20 bRem) (fa1 (tri_putI 23 10 7) (fa1 (tri_iload 24 2) (fa1 (tri_iload 25 1) (fa1 (tri_div 26 bDiv) (fa1 (tri_istore 27 3) (fa1 (tri_push 28 (.inl 0)) (fa1 (tri_istore 30 4) (fa1 (tri_iload 32 4) (fa1 (tri_iload 33 1) (fa1 (tri_iload 34 1) (fa1 (tri_bin 35 (fun x y => wr (x * y))) (fa1 (tri_cmpge 38 58) (fa1 (tri_aload 39 0) (fa1 (tri_getR 42 10 20 (fun _ => 772)) (fa1 (tri_iload 44 4) (fa1 (tri_iload 45 3) (fa1 (tri_iload 46 1) (fa1 (tri_div 47 bRem) (fa1 (tri_ast 48 20 lnC id) (fa1 (tri_iload 49 3) (fa1 (tri_iload 50 1) (fa1 (tri_div 51 bDiv) (fa1 (tri_istore 52 3) (fa1 (tri_iinc 55 4 (1)) (fa1 (tri_goto 30) (fa1 (tri_push 59 (.inl 0)) (fa1 (tri_istore 61 4) (fa1 (tri_iload 63 4) (fa1 (tri_aload 64 0) (fa1 (tri_getR 67 10 9 (fun _ => 1)) (fa1 (tri_getI 70 9 5) (fa1 (tri_cmpge 73 108) (fa1 (tri_aload 74 0) (fa1 (tri_aload 75 0) (fa1 (tri_getR 78 10 26 (fun _ => 773)) (fa1 (tri_iload 80 4) (fa1 (tri_aldR 81 26 20 lnC (fun c i => c + 1 + i)) (fa1 (tri_aload 82 0) (fa1 (tri_getR 85 10 9 (fun _ => 1)) (fa1 (tri_iload 87 4) (fa1 (tri_callR 90 2 8 (rcv 9) f_X9_meaningOf) (fa1 (tri_aload 91 0) (fa1 (tri_getR 94 10 9 (fun _ => 1)) (fa1 (tri_iload 96 4) (fa1 (tri_callI 99 2 (rcv 9) f_X9_needOf) (fa1 (tri_callV 102 4 (rcv 10) f_X10_fillTable) (fa1 (tri_iinc 105 4 (1)) (fa1 (tri_goto 61) (fa1 (tri_vret) (fa0))))))))))))))))))))))))))))))))))))))))))))))))))))))))))))))))
set_option maxRecDepth 100000 in
set_option maxHeartbeats 4000000 in
theorem ks_X10_enter (G : Wp) (l : Launch) : ∀ e ∈ k_X10_enter, Snd loC G l RX10 cX10_enter 5 none rm_X10_enter e.1 e.2 :=
  fa1 (s_iload_n (kf := 1) (j := 1) (by decide +kernel) rfl) <|
  fa1 (s_iconst (n := 1) (v := 1) (by decide +kernel) (by decide +kernel) (p32 rfl)) <|
  fa1 (s_cmplt (off := 8) (by decide +kernel) (by decide)) <|
  fa1 (s_iload_n (kf := 1) (j := 1) (by decide +kernel) rfl) <|
  fa1 (s_iconst (n := 3) (v := 3) (by decide +kernel) (by decide +kernel) (p32 rfl)) <|
  fa1 (s_cmple (off := 4) (by decide +kernel) (by decide)) <|
  fa1 (s_vret (by decide +kernel) rfl) <|
  fa1 (s_aload_n (kf := 0) (j := 0) (by decide +kernel) rfl) <|
  fa1 (s_iload_n (kf := 1) (j := 1) (by decide +kernel) rfl) <|
  fa1 (s_putI (ci := 10) (f := 6) (idx := 37) (C := RX10) (T := TX10) (NF := 8) (by decide +kernel) rfl (by decide) inG_X10 (by decide) w_480 tyX10 tyX10_ok nmX10 rfl (by decide +kernel) li_X10_6) <|
  fa1 (s_aload_n (kf := 0) (j := 0) (by decide +kernel) rfl) <|
  fa1 (s_iload_n (kf := 2) (j := 2) (by decide +kernel) rfl) <|
  fa1 (s_iload_n (kf := 1) (j := 1) (by decide +kernel) rfl) <|
  fa1 (s_irem (by decide +kernel)) <|
  fa1 (s_putI (ci := 10) (f := 7) (idx := 41) (C := RX10) (T := TX10) (NF := 8) (by decide +kernel) rfl (by decide) inG_X10 (by decide) w_481 tyX10 tyX10_ok nmX10 rfl (by decide +kernel) li_X10_7) <|
  fa1 (s_iload_n (kf := 2) (j := 2) (by decide +kernel) rfl) <|
  fa1 (s_iload_n (kf := 1) (j := 1) (by decide +kernel) rfl) <|
  fa1 (s_idiv (by decide +kernel)) <|
  fa1 (s_istore_n (kf := 3) (j := 3) (by decide +kernel) rfl (by decide)) <|
  fa1 (s_iconst (n := 0) (v := 0) (by decide +kernel) (by decide +kernel) (p32 rfl)) <|
  fa1 (s_istore (j := 4) (by decide +kernel) (by decide)) <|
  fa1 (s_iload (j := 4) (by decide +kernel)) <|
  fa1 (s_iload_n (kf := 1) (j := 1) (by decide +kernel) rfl) <|
  fa1 (s_iload_n (kf := 1) (j := 1) (by decide +kernel) rfl) <|
  fa1 (s_imul (by decide +kernel)) <|
  fa1 (s_cmpge (off := 23) (by decide +kernel) (by decide)) <|
  fa1 (s_aload_n (kf := 0) (j := 0) (by decide +kernel) rfl) <|
  fa1 (s_getR (t2 := 20) (g := (fun _ => 772)) (ci := 10) (f := 2) (idx := 11) (C := RX10) (T := TX10) (NF := 8) (by decide +kernel) rfl (by decide) inG_X10 (by decide) w_476 lr_X10_2 (by decide)) <|
  fa1 (s_iload (j := 4) (by decide +kernel)) <|
  fa1 (s_iload_n (kf := 3) (j := 3) (by decide +kernel) rfl) <|
  fa1 (s_iload_n (kf := 1) (j := 1) (by decide +kernel) rfl) <|
  fa1 (s_irem (by decide +kernel)) <|
  fa1 (s_iast (by decide +kernel) lt_loC_20) <|
  fa1 (s_iload_n (kf := 3) (j := 3) (by decide +kernel) rfl) <|
  fa1 (s_iload_n (kf := 1) (j := 1) (by decide +kernel) rfl) <|
  fa1 (s_idiv (by decide +kernel)) <|
  fa1 (s_istore_n (kf := 3) (j := 3) (by decide +kernel) rfl (by decide)) <|
  fa1 (s_iinc (j := 4) (d := 1) (by decide +kernel) (by decide)) <|
  fa1 (s_goto (off := -25) (by decide +kernel) (by decide)) <|
  fa1 (s_iconst (n := 0) (v := 0) (by decide +kernel) (by decide +kernel) (p32 rfl)) <|
  fa1 (s_istore (j := 4) (by decide +kernel) (by decide)) <|
  fa1 (s_iload (j := 4) (by decide +kernel)) <|
  fa1 (s_aload_n (kf := 0) (j := 0) (by decide +kernel) rfl) <|
  fa1 (s_getR (t2 := 9) (g := (fun _ => 1)) (ci := 10) (f := 0) (idx := 26) (C := RX10) (T := TX10) (NF := 8) (by decide +kernel) rfl (by decide) inG_X10 (by decide) w_474 lr_X10_0 (by decide)) <|
  fa1 (s_getI (ci := 9) (f := 5) (idx := 44) (C := RX9) (T := TX9) (NF := 6) (by decide +kernel) rfl (by decide) inG_X9 (by decide) w_162 li_X9_5) <|
  fa1 (s_cmpge (off := 38) (by decide +kernel) (by decide)) <|
  fa1 (s_aload_n (kf := 0) (j := 0) (by decide +kernel) rfl) <|
  fa1 (s_aload_n (kf := 0) (j := 0) (by decide +kernel) rfl) <|
  fa1 (s_getR (t2 := 26) (g := (fun _ => 773)) (ci := 10) (f := 3) (idx := 17) (C := RX10) (T := TX10) (NF := 8) (by decide +kernel) rfl (by decide) inG_X10 (by decide) w_477 lr_X10_3 (by decide)) <|
  fa1 (s_iload (j := 4) (by decide +kernel)) <|
  fa1 (s_aldR (t := 26) (t2 := 20) (g := (fun c i => c + 1 + i)) (by decide +kernel) (by decide) (by decide) rfl (by decide) le_26) <|
  fa1 (s_aload_n (kf := 0) (j := 0) (by decide +kernel) rfl) <|
  fa1 (s_getR (t2 := 9) (g := (fun _ => 1)) (ci := 10) (f := 0) (idx := 26) (C := RX10) (T := TX10) (NF := 8) (by decide +kernel) rfl (by decide) inG_X10 (by decide) w_474 lr_X10_0 (by decide)) <|
  fa1 (s_iload (j := 4) (by decide +kernel)) <|
  fa1 (s_vcallR (t := 8) (n := 1) (ci := 9) (C := RX9) (T := TX9) (NF := 6) (idx := 49) (y := yX9_meaningOf) (by decide +kernel) (gg_X9_meaningOf) rfl (by decide) yv_X9_meaningOf (all5 w_1033 w_765 w_766 w_101 w_767) rfl rfl ⟨by decide, by decide⟩) <|
  fa1 (s_aload_n (kf := 0) (j := 0) (by decide +kernel) rfl) <|
  fa1 (s_getR (t2 := 9) (g := (fun _ => 1)) (ci := 10) (f := 0) (idx := 26) (C := RX10) (T := TX10) (NF := 8) (by decide +kernel) rfl (by decide) inG_X10 (by decide) w_474 lr_X10_0 (by decide)) <|
  fa1 (s_iload (j := 4) (by decide +kernel)) <|
  fa1 (s_vcallI (n := 1) (ci := 9) (C := RX9) (T := TX9) (NF := 6) (idx := 53) (y := yX9_needOf) (by decide +kernel) (gg_X9_needOf) rfl (by decide) yv_X9_needOf (all5 w_1034 w_773 w_774 w_101 w_775) rfl rfl ⟨by decide, by decide⟩) <|
  fa1 (s_vcallV (n := 3) (ci := 10) (C := RX10) (T := TX10) (NF := 8) (idx := 57) (y := yX10_fillTable) (by decide +kernel) (gg_X10_fillTable) rfl (by decide) yv_X10_fillTable (all5 w_1035 w_1037 w_26 w_110 w_1038) rfl rfl ⟨by decide, by decide⟩) <|
  fa1 (s_iinc (j := 4) (d := 1) (by decide +kernel) (by decide)) <|
  fa1 (s_goto (off := -44) (by decide +kernel) (by decide)) <|
  fa1 (s_vret (by decide +kernel) rfl) <| fa0
theorem gg_X10_enter {G : Wp} {l : Launch} : GoodM loC G l yX10_enter cX10_enter 5 none rm_X10_enter f_X10_enter := met_of kt_X10_enter (lkp_snd (ks_X10_enter G l)) (by decide +kernel) rfl (by decide)
noncomputable def k_X10_has : List (Nat × Ins) := [
  (0, i_push 1 (.inl 0)),
  (1, i_istore 2 3),
  (2, i_iload 3 3),
  (3, i_push 5 (.inl 20)),
  (5, i_cmpge 8 46),
  (8, i_aload 9 1),
  (9, i_getR 12 2 8 (fun c => c + 1)),
  (12, i_iload 13 3),
  (13, i_callI 16 2 (rcv 8) f_X8_at),
  (16, i_push 18 (.inl 23)),
  (18, i_iload 19 2),
  (19, i_bin 20 (fun x y => wr (x + y))),
  (20, i_cmpeq 23 38),
  (23, i_aload 24 1),
  (24, i_getR 27 2 8 (fun c => c + 3)),
  (27, i_iload 28 3),
  (28, i_callI 31 2 (rcv 8) f_X8_at),
  (31, i_push 33 (.inl 23)),
  (33, i_iload 34 2),
  (34, i_bin 35 (fun x y => wr (x + y))),
  (35, i_cmpne 38 40),
  (38, i_push 39 (.inl 1)),
  (39, i_zret),
  (40, i_iinc 43 3 (1)),
  (43, i_goto 2),
  (46, i_push 47 (.inl 0)),
  (47, i_zret)]
noncomputable def kc_X10_has : Nat → Option Ins := lkp k_X10_has
noncomputable def f_X10_has : List AV → Mem → Option Rs := den 4 kc_X10_has
abbrev rm_X10_has : Room := { frames := 1, cells := 0, slots := 0, locals := 21 }
set_option maxRecDepth 100000 in
theorem kt_X10_has : TriC kc_X10_has := lkp_tri (fa1 (tri_push 1 (.inl 0)) (fa1 (tri_istore 2 3) (fa1 (tri_iload 3 3) (fa1 (tri_push 5 (.inl 20)) (fa1 (tri_cmpge 8 46) (fa1 (tri_aload 9 1) (fa1 (tri_getR 12 2 8 (fun c => c + 1)) (fa1 (tri_iload 13 3) (fa1 (tri_callI 16 2 (rcv 8) f_X8_at) (fa1 (tri_push 18 (.inl 23)) (fa1 (tri_iload 19 2) (fa1 (tri_bin 20 (fun x y => wr (x + y))) (fa1 (tri_cmpeq 23 38) (fa1 (tri_aload 24 1) (fa1 (tri_getR 27 2 8 (fun c => c + 3)) (fa1 (tri_iload 28 3) (fa1 (tri_callI 31 2 (rcv 8) f_X8_at) (fa1 (tri_push 33 (.inl 23)) (fa1 (tri_iload 34 2) (fa1 (tri_bin 35 (fun x y => wr (x + y))) (fa1 (tri_cmpne 38 40) (fa1 (tri_push 39 (.inl 1)) (fa1 (tri_zret) (fa1 (tri_iinc 43 3 (1)) (fa1 (tri_goto 2) (fa1 (tri_push 47 (.inl 0)) (fa1 (tri_zret) (fa0))))))))))))))))))))))))))))
set_option maxRecDepth 100000 in
set_option maxHeartbeats 4000000 in
theorem ks_X10_has (G : Wp) (l : Launch) : ∀ e ∈ k_X10_has, Snd loC G l RX10 cX10_has 4 (some .boolean) rm_X10_has e.1 e.2 :=
  fa1 (s_iconst (n := 0) (v := 0) (by decide +kernel) (by decide +kernel) (p32 rfl)) <|
  fa1 (s_istore_n (kf := 3) (j := 3) (by decide +kernel) rfl (by decide)) <|
  fa1 (s_iload_n (kf := 3) (j := 3) (by decide +kernel) rfl) <|
  fa1 (s_bipush (n := 20) (v := 20) (by decide +kernel) (by decide +kernel) (p32 rfl)) <|
  fa1 (s_cmpge (off := 41) (by decide +kernel) (by decide)) <|
  fa1 (s_aload_n (kf := 1) (j := 1) (by decide +kernel) rfl) <|
  fa1 (s_getR (t2 := 8) (g := (fun c => c + 1)) (ci := 2) (f := 0) (idx := 91) (C := RX2) (T := TX2) (NF := 11) (by decide +kernel) rfl (by decide) inG_X2 (by decide) w_199 lr_X2_0 (by decide)) <|
  fa1 (s_iload_n (kf := 3) (j := 3) (by decide +kernel) rfl) <|
  fa1 (s_vcallI (n := 1) (ci := 8) (C := RX8) (T := TX8) (NF := 2) (idx := 68) (y := yX8_at) (by decide +kernel) (gg_X8_at) rfl (by decide) yv_X8_at (all5 w_1043 w_667 w_668 w_102 w_669) rfl rfl ⟨by decide, by decide⟩) <|
  fa1 (s_bipush (n := 23) (v := 23) (by decide +kernel) (by decide +kernel) (p32 rfl)) <|
  fa1 (s_iload_n (kf := 2) (j := 2) (by decide +kernel) rfl) <|
  fa1 (s_iadd (by decide +kernel)) <|
  fa1 (s_cmpeq (off := 18) (by decide +kernel) (by decide)) <|
  fa1 (s_aload_n (kf := 1) (j := 1) (by decide +kernel) rfl) <|
  fa1 (s_getR (t2 := 8) (g := (fun c => c + 3)) (ci := 2) (f := 1) (idx := 97) (C := RX2) (T := TX2) (NF := 11) (by decide +kernel) rfl (by decide) inG_X2 (by decide) w_207 lr_X2_1 (by decide)) <|
  fa1 (s_iload_n (kf := 3) (j := 3) (by decide +kernel) rfl) <|
  fa1 (s_vcallI (n := 1) (ci := 8) (C := RX8) (T := TX8) (NF := 2) (idx := 68) (y := yX8_at) (by decide +kernel) (gg_X8_at) rfl (by decide) yv_X8_at (all5 w_1043 w_667 w_668 w_102 w_669) rfl rfl ⟨by decide, by decide⟩) <|
  fa1 (s_bipush (n := 23) (v := 23) (by decide +kernel) (by decide +kernel) (p32 rfl)) <|
  fa1 (s_iload_n (kf := 2) (j := 2) (by decide +kernel) rfl) <|
  fa1 (s_iadd (by decide +kernel)) <|
  fa1 (s_cmpne (off := 5) (by decide +kernel) (by decide)) <|
  fa1 (s_iconst (n := 1) (v := 1) (by decide +kernel) (by decide +kernel) (p32 rfl)) <|
  fa1 (s_zret (by decide +kernel) rfl) <|
  fa1 (s_iinc (j := 3) (d := 1) (by decide +kernel) (by decide)) <|
  fa1 (s_goto (off := -41) (by decide +kernel) (by decide)) <|
  fa1 (s_iconst (n := 0) (v := 0) (by decide +kernel) (by decide +kernel) (p32 rfl)) <|
  fa1 (s_zret (by decide +kernel) rfl) <| fa0
theorem gg_X10_has {G : Wp} {l : Launch} : GoodM loC G l yX10_has cX10_has 4 (some .boolean) rm_X10_has f_X10_has := met_of kt_X10_has (lkp_snd (ks_X10_has G l)) (by decide +kernel) rfl (by decide)
noncomputable def k_X10_isTrue : List (Nat × Ins) := [
  (0, i_aload 1 0),
  (1, i_aload 2 1),
  (2, i_push 3 (.inl 0)),
  (3, i_callI 6 3 (rcv 10) f_X10_has),
  (6, i_ifeq 9 16),
  (9, i_aload 10 0),
  (10, i_getI 13 10 6),
  (13, i_goto 17),
  (16, i_push 17 (.inl 1)),
  (17, i_istore 18 2),
  (18, i_aload 19 0),
  (19, i_aload 20 1),
  (20, i_push 21 (.inl 1)),
  (21, i_callI 24 3 (rcv 10) f_X10_has),
  (24, i_ifeq 27 34),
  (27, i_aload 28 0),
  (28, i_getI 31 10 6),
  (31, i_goto 35),
  (34, i_push 35 (.inl 1)),
  (35, i_istore 36 3),
  (36, i_aload 37 0),
  (37, i_aload 38 1),
  (38, i_push 39 (.inl 2)),
  (39, i_callI 42 3 (rcv 10) f_X10_has),
  (42, i_ifeq 45 52),
  (45, i_aload 46 0),
  (46, i_getI 49 10 6),
  (49, i_goto 53),
  (52, i_push 53 (.inl 1)),
  (53, i_istore 55 4),
  (55, i_push 56 (.inl 0)),
  (56, i_istore 58 5),
  (58, i_iload 60 5),
  (60, i_iload 61 2),
  (61, i_cmpge 64 146),
  (64, i_push 65 (.inl 0)),
  (65, i_istore 67 6),
  (67, i_iload 69 6),
  (69, i_iload 70 3),
  (70, i_cmpge 73 140),
  (73, i_push 74 (.inl 0)),
  (74, i_istore 76 7),
  (76, i_iload 78 7),
  (78, i_iload 80 4),
  (80, i_cmpge 83 134),
  (83, i_aload 84 0),
  (84, i_getR 87 10 20 (fun _ => 778)),
  (87, i_push 88 (.inl 0)),
  (88, i_iload 90 5),
  (90, i_ast 91 20 lnC id),
  (91, i_aload 92 0),
  (92, i_getR 95 10 20 (fun _ => 778)),
  (95, i_push 96 (.inl 1)),
  (96, i_iload 98 6),
  (98, i_ast 99 20 lnC id),
  (99, i_aload 100 0),
  (100, i_getR 103 10 20 (fun _ => 778)),
  (103, i_push 104 (.inl 2)),
  (104, i_iload 106 7),
  (106, i_ast 107 20 lnC id),
  (107, i_aload 108 0),
  (108, i_aload 109 1),
  (109, i_getR 112 2 8 (fun c => c + 1)),
  (112, i_callI 115 2 (rcv 10) f_X10_valueOf),
  (115, i_aload 116 0),
  (116, i_aload 117 1),
  (117, i_getR 120 2 8 (fun c => c + 3)),
  (120, i_callI 123 2 (rcv 10) f_X10_valueOf),
  (123, i_cmpeq 126 128),
  (126, i_push 127 (.inl 0)),
  (127, i_zret),
  (128, i_iinc 131 7 (1)),
  (131, i_goto 76),
  (134, i_iinc 137 6 (1)),
  (137, i_goto 67),
  (140, i_iinc 143 5 (1)),
  (143, i_goto 58),
  (146, i_push 147 (.inl 1)),
  (147, i_zret)]
noncomputable def kc_X10_isTrue : Nat → Option Ins := lkp k_X10_isTrue
noncomputable def f_X10_isTrue : List AV → Mem → Option Rs := den 8 kc_X10_isTrue
abbrev rm_X10_isTrue : Room := { frames := 3, cells := 0, slots := 0, locals := 74 }
set_option maxRecDepth 100000 in
theorem kt_X10_isTrue : TriC kc_X10_isTrue := lkp_tri (fa1 (tri_aload 1 0) (fa1 (tri_aload 2 1) (fa1 (tri_push 3 (.inl 0)) (fa1 (tri_callI 6 3 (rcv 10) f_X10_has) (fa1 (tri_ifeq 9 16) (fa1 (tri_aload 10 0) (fa1 (tri_getI 13 10 6) (fa1 (tri_goto 17) (fa1 (tri_push 17 (.inl 1)) (fa1 (tri_istore 18 2) (fa1 (tri_aload 19 0) (fa1 (tri_aload 20 1) (fa1 (tri_push 21 (.inl 1)) (fa1 (tri_callI 24 3 (rcv 10) f_X10_has) (fa1 (tri_ifeq 27 34) (fa1 (tri_aload 28 0) (fa1 (tri_getI 31 10 6) (fa1 (tri_goto 35) (fa1 (tri_push 35 (.inl 1)) (fa1 (tri_istore 36 3) (fa1 (tri_aload 37 0) (fa1 (tri_aload 38 1) (fa1 (tri_push 39 (.inl 2)) (fa1 (tri_callI 42 3 (rcv 10) f_X10_has) (fa1 (tri_ifeq 45 52) (fa1 (tri_aload 46 0) (fa1 (tri_getI 49 10 6) (fa1 (tri_goto 53) (fa1 (tri_push 53 (.inl 1)) (fa1 (tri_istore 55 4) (fa1 (tri_push 56 (.inl 0)) (fa1 (tri_istore 58 5) (fa1 (tri_iload 60 5) (fa1 (tri_iload 61 2) (fa1 (tri_cmpge 64 146) (fa1 (tri_push 65 (.inl 0)) (fa1 (tri_istore 67 6) (fa1 (tri_iload 69 6) (fa1 (tri_iload 70 3) (fa1 (tri_cmpge 73 140) (fa1 (tri_push 74 (.inl 0)) (fa1 (tri_istore 76 7) (fa1 (tri_iload 78 7) (fa1 (tri_iload 80 4) (fa1 (tri_cmpge 83 134) (fa1 (tri_aload 84 0) (fa1 (tri_getR 87 10 20 (fun _ => 778)) (fa1 (tri_push 88 (.inl 0)) (fa1 (tri_iload 90 5) (fa1 (tri_ast 91 20 lnC id) (fa1 (tri_aload 92 0) (fa1 (tri_getR 95 10 20 (fun _ => 778)) (fa1 (tri_push 96 (.inl 1)) (fa1 (tri_iload 98 6) (fa1 (tri_ast 99 20 lnC id) (fa1 (tri_aload 100 0) (fa1 (tri_getR 103 10 20 (fun _ => 778)) (fa1 (tri_push 104 (.inl 2)) (fa1 (tri_iload 106 7) (fa1 (tri_ast 107 20 lnC id) (fa1 (tri_aload 108 0) (fa1 (tri_aload 109 1) (fa1 (tri_getR 112 2 8 (fun c => c + 1)) (fa1 (tri_callI 115 2 (rcv 10) f_X10_valueOf) (fa1 (tri_aload 116 0) (fa1 (tri_aload 117 1) (fa1 (tri_getR 120 2 8 (fun c => c + 3)) (fa1 (tri_callI 123 2 (rcv 10) f_X10_valueOf) (fa1 (tri_cmpeq 126 128) (fa1 (tri_push 127 (.inl 0)) (fa1 (tri_zret) (fa1 (tri_iinc 131 7 (1)) (fa1 (tri_goto 76) (fa1 (tri_iinc 137 6 (1)) (fa1 (tri_goto 67) (fa1 (tri_iinc 143 5 (1)) (fa1 (tri_goto 58) (fa1 (tri_push 147 (.inl 1)) (fa1 (tri_zret) (fa0))))))))))))))))))))))))))))))))))))))))))))))))))))))))))))))))))))))))))))))))
set_option maxRecDepth 100000 in
set_option maxHeartbeats 4000000 in
theorem ks_X10_isTrue (G : Wp) (l : Launch) : ∀ e ∈ k_X10_isTrue, Snd loC G l RX10 cX10_isTrue 8 (some .boolean) rm_X10_isTrue e.1 e.2 :=
  fa1 (s_aload_n (kf := 0) (j := 0) (by decide +kernel) rfl) <|
  fa1 (s_aload_n (kf := 1) (j := 1) (by decide +kernel) rfl) <|
  fa1 (s_iconst (n := 0) (v := 0) (by decide +kernel) (by decide +kernel) (p32 rfl)) <|
  fa1 (s_vcallI (n := 2) (ci := 10) (C := RX10) (T := TX10) (NF := 8) (idx := 87) (y := yX10_has) (by decide +kernel) (gg_X10_has) rfl (by decide) yv_X10_has (all5 w_1055 w_1057 w_29 w_110 w_1058) rfl rfl ⟨by decide, by decide⟩) <|
  fa1 (s_ifeq (off := 10) (by decide +kernel) (by decide)) <|
  fa1 (s_aload_n (kf := 0) (j := 0) (by decide +kernel) rfl) <|
  fa1 (s_getI (ci := 10) (f := 6) (idx := 37) (C := RX10) (T := TX10) (NF := 8) (by decide +kernel) rfl (by decide) inG_X10 (by decide) w_480 li_X10_6) <|
  fa1 (s_goto (off := 4) (by decide +kernel) (by decide)) <|
  fa1 (s_iconst (n := 1) (v := 1) (by decide +kernel) (by decide +kernel) (p32 rfl)) <|
  fa1 (s_istore_n (kf := 2) (j := 2) (by decide +kernel) rfl (by decide)) <|
  fa1 (s_aload_n (kf := 0) (j := 0) (by decide +kernel) rfl) <|
  fa1 (s_aload_n (kf := 1) (j := 1) (by decide +kernel) rfl) <|
  fa1 (s_iconst (n := 1) (v := 1) (by decide +kernel) (by decide +kernel) (p32 rfl)) <|
  fa1 (s_vcallI (n := 2) (ci := 10) (C := RX10) (T := TX10) (NF := 8) (idx := 87) (y := yX10_has) (by decide +kernel) (gg_X10_has) rfl (by decide) yv_X10_has (all5 w_1055 w_1057 w_29 w_110 w_1058) rfl rfl ⟨by decide, by decide⟩) <|
  fa1 (s_ifeq (off := 10) (by decide +kernel) (by decide)) <|
  fa1 (s_aload_n (kf := 0) (j := 0) (by decide +kernel) rfl) <|
  fa1 (s_getI (ci := 10) (f := 6) (idx := 37) (C := RX10) (T := TX10) (NF := 8) (by decide +kernel) rfl (by decide) inG_X10 (by decide) w_480 li_X10_6) <|
  fa1 (s_goto (off := 4) (by decide +kernel) (by decide)) <|
  fa1 (s_iconst (n := 1) (v := 1) (by decide +kernel) (by decide +kernel) (p32 rfl)) <|
  fa1 (s_istore_n (kf := 3) (j := 3) (by decide +kernel) rfl (by decide)) <|
  fa1 (s_aload_n (kf := 0) (j := 0) (by decide +kernel) rfl) <|
  fa1 (s_aload_n (kf := 1) (j := 1) (by decide +kernel) rfl) <|
  fa1 (s_iconst (n := 2) (v := 2) (by decide +kernel) (by decide +kernel) (p32 rfl)) <|
  fa1 (s_vcallI (n := 2) (ci := 10) (C := RX10) (T := TX10) (NF := 8) (idx := 87) (y := yX10_has) (by decide +kernel) (gg_X10_has) rfl (by decide) yv_X10_has (all5 w_1055 w_1057 w_29 w_110 w_1058) rfl rfl ⟨by decide, by decide⟩) <|
  fa1 (s_ifeq (off := 10) (by decide +kernel) (by decide)) <|
  fa1 (s_aload_n (kf := 0) (j := 0) (by decide +kernel) rfl) <|
  fa1 (s_getI (ci := 10) (f := 6) (idx := 37) (C := RX10) (T := TX10) (NF := 8) (by decide +kernel) rfl (by decide) inG_X10 (by decide) w_480 li_X10_6) <|
  fa1 (s_goto (off := 4) (by decide +kernel) (by decide)) <|
  fa1 (s_iconst (n := 1) (v := 1) (by decide +kernel) (by decide +kernel) (p32 rfl)) <|
  fa1 (s_istore (j := 4) (by decide +kernel) (by decide)) <|
  fa1 (s_iconst (n := 0) (v := 0) (by decide +kernel) (by decide +kernel) (p32 rfl)) <|
  fa1 (s_istore (j := 5) (by decide +kernel) (by decide)) <|
  fa1 (s_iload (j := 5) (by decide +kernel)) <|
  fa1 (s_iload_n (kf := 2) (j := 2) (by decide +kernel) rfl) <|
  fa1 (s_cmpge (off := 85) (by decide +kernel) (by decide)) <|
  fa1 (s_iconst (n := 0) (v := 0) (by decide +kernel) (by decide +kernel) (p32 rfl)) <|
  fa1 (s_istore (j := 6) (by decide +kernel) (by decide)) <|
  fa1 (s_iload (j := 6) (by decide +kernel)) <|
  fa1 (s_iload_n (kf := 3) (j := 3) (by decide +kernel) rfl) <|
  fa1 (s_cmpge (off := 70) (by decide +kernel) (by decide)) <|
  fa1 (s_iconst (n := 0) (v := 0) (by decide +kernel) (by decide +kernel) (p32 rfl)) <|
  fa1 (s_istore (j := 7) (by decide +kernel) (by decide)) <|
  fa1 (s_iload (j := 7) (by decide +kernel)) <|
  fa1 (s_iload (j := 4) (by decide +kernel)) <|
  fa1 (s_cmpge (off := 54) (by decide +kernel) (by decide)) <|
  fa1 (s_aload_n (kf := 0) (j := 0) (by decide +kernel) rfl) <|
  fa1 (s_getR (t2 := 20) (g := (fun _ => 778)) (ci := 10) (f := 4) (idx := 20) (C := RX10) (T := TX10) (NF := 8) (by decide +kernel) rfl (by decide) inG_X10 (by decide) w_478 lr_X10_4 (by decide)) <|
  fa1 (s_iconst (n := 0) (v := 0) (by decide +kernel) (by decide +kernel) (p32 rfl)) <|
  fa1 (s_iload (j := 5) (by decide +kernel)) <|
  fa1 (s_iast (by decide +kernel) lt_loC_20) <|
  fa1 (s_aload_n (kf := 0) (j := 0) (by decide +kernel) rfl) <|
  fa1 (s_getR (t2 := 20) (g := (fun _ => 778)) (ci := 10) (f := 4) (idx := 20) (C := RX10) (T := TX10) (NF := 8) (by decide +kernel) rfl (by decide) inG_X10 (by decide) w_478 lr_X10_4 (by decide)) <|
  fa1 (s_iconst (n := 1) (v := 1) (by decide +kernel) (by decide +kernel) (p32 rfl)) <|
  fa1 (s_iload (j := 6) (by decide +kernel)) <|
  fa1 (s_iast (by decide +kernel) lt_loC_20) <|
  fa1 (s_aload_n (kf := 0) (j := 0) (by decide +kernel) rfl) <|
  fa1 (s_getR (t2 := 20) (g := (fun _ => 778)) (ci := 10) (f := 4) (idx := 20) (C := RX10) (T := TX10) (NF := 8) (by decide +kernel) rfl (by decide) inG_X10 (by decide) w_478 lr_X10_4 (by decide)) <|
  fa1 (s_iconst (n := 2) (v := 2) (by decide +kernel) (by decide +kernel) (p32 rfl)) <|
  fa1 (s_iload (j := 7) (by decide +kernel)) <|
  fa1 (s_iast (by decide +kernel) lt_loC_20) <|
  fa1 (s_aload_n (kf := 0) (j := 0) (by decide +kernel) rfl) <|
  fa1 (s_aload_n (kf := 1) (j := 1) (by decide +kernel) rfl) <|
  fa1 (s_getR (t2 := 8) (g := (fun c => c + 1)) (ci := 2) (f := 0) (idx := 91) (C := RX2) (T := TX2) (NF := 11) (by decide +kernel) rfl (by decide) inG_X2 (by decide) w_199 lr_X2_0 (by decide)) <|
  fa1 (s_vcallI (n := 1) (ci := 10) (C := RX10) (T := TX10) (NF := 8) (idx := 61) (y := yX10_valueOf) (by decide +kernel) (gg_X10_valueOf) rfl (by decide) yv_X10_valueOf (all5 w_1039 w_1041 w_27 w_110 w_1042) rfl rfl ⟨by decide, by decide⟩) <|
  fa1 (s_aload_n (kf := 0) (j := 0) (by decide +kernel) rfl) <|
  fa1 (s_aload_n (kf := 1) (j := 1) (by decide +kernel) rfl) <|
  fa1 (s_getR (t2 := 8) (g := (fun c => c + 3)) (ci := 2) (f := 1) (idx := 97) (C := RX2) (T := TX2) (NF := 11) (by decide +kernel) rfl (by decide) inG_X2 (by decide) w_207 lr_X2_1 (by decide)) <|
  fa1 (s_vcallI (n := 1) (ci := 10) (C := RX10) (T := TX10) (NF := 8) (idx := 61) (y := yX10_valueOf) (by decide +kernel) (gg_X10_valueOf) rfl (by decide) yv_X10_valueOf (all5 w_1039 w_1041 w_27 w_110 w_1042) rfl rfl ⟨by decide, by decide⟩) <|
  fa1 (s_cmpeq (off := 5) (by decide +kernel) (by decide)) <|
  fa1 (s_iconst (n := 0) (v := 0) (by decide +kernel) (by decide +kernel) (p32 rfl)) <|
  fa1 (s_zret (by decide +kernel) rfl) <|
  fa1 (s_iinc (j := 7) (d := 1) (by decide +kernel) (by decide)) <|
  fa1 (s_goto (off := -55) (by decide +kernel) (by decide)) <|
  fa1 (s_iinc (j := 6) (d := 1) (by decide +kernel) (by decide)) <|
  fa1 (s_goto (off := -70) (by decide +kernel) (by decide)) <|
  fa1 (s_iinc (j := 5) (d := 1) (by decide +kernel) (by decide)) <|
  fa1 (s_goto (off := -85) (by decide +kernel) (by decide)) <|
  fa1 (s_iconst (n := 1) (v := 1) (by decide +kernel) (by decide +kernel) (p32 rfl)) <|
  fa1 (s_zret (by decide +kernel) rfl) <| fa0
theorem gg_X10_isTrue {G : Wp} {l : Launch} : GoodM loC G l yX10_isTrue cX10_isTrue 8 (some .boolean) rm_X10_isTrue f_X10_isTrue := met_of kt_X10_isTrue (lkp_snd (ks_X10_isTrue G l)) (by decide +kernel) rfl (by decide)
noncomputable def k_X10_isGrounded : List (Nat × Ins) := [
  (0, i_push 1 (.inl 0)),
  (1, i_istore 2 1),
  (2, i_iload 3 1),
  (3, i_aload 4 0),
  (4, i_getR 7 10 3 (fun _ => 23)),
  (7, i_getI 10 3 9),
  (10, i_cmpge 13 49),
  (13, i_aload 14 0),
  (14, i_getR 17 10 3 (fun _ => 23)),
  (17, i_iload 18 1),
  (18, i_callR 21 2 2 (rcv 3) f_X3_get),
  (21, i_astore 22 2),
  (22, i_aload 23 2),
  (23, i_ifnull 26 43),
  (26, i_aload 27 2),
  (27, i_getI 30 2 2),
  (30, i_ifne 33 43),
  (33, i_aload 34 0),
  (34, i_aload 35 2),
  (35, i_callI 38 2 (rcv 10) f_X10_isTrue),
  (38, i_ifne 41 43),
  (41, i_push 42 (.inl 0)),
  (42, i_zret),
  (43, i_iinc 46 1 (1)),
  (46, i_goto 2),
  (49, i_push 50 (.inl 1)),
  (50, i_zret)]
noncomputable def kc_X10_isGrounded : Nat → Option Ins := lkp k_X10_isGrounded
noncomputable def f_X10_isGrounded : List AV → Mem → Option Rs := den 3 kc_X10_isGrounded
abbrev rm_X10_isGrounded : Room := { frames := 4, cells := 0, slots := 0, locals := 101 }
set_option maxRecDepth 100000 in
theorem kt_X10_isGrounded : TriC kc_X10_isGrounded := lkp_tri (fa1 (tri_push 1 (.inl 0)) (fa1 (tri_istore 2 1) (fa1 (tri_iload 3 1) (fa1 (tri_aload 4 0) (fa1 (tri_getR 7 10 3 (fun _ => 23)) (fa1 (tri_getI 10 3 9) (fa1 (tri_cmpge 13 49) (fa1 (tri_aload 14 0) (fa1 (tri_getR 17 10 3 (fun _ => 23)) (fa1 (tri_iload 18 1) (fa1 (tri_callR 21 2 2 (rcv 3) f_X3_get) (fa1 (tri_astore 22 2) (fa1 (tri_aload 23 2) (fa1 (tri_ifnull 26 43) (fa1 (tri_aload 27 2) (fa1 (tri_getI 30 2 2) (fa1 (tri_ifne 33 43) (fa1 (tri_aload 34 0) (fa1 (tri_aload 35 2) (fa1 (tri_callI 38 2 (rcv 10) f_X10_isTrue) (fa1 (tri_ifne 41 43) (fa1 (tri_push 42 (.inl 0)) (fa1 (tri_zret) (fa1 (tri_iinc 46 1 (1)) (fa1 (tri_goto 2) (fa1 (tri_push 50 (.inl 1)) (fa1 (tri_zret) (fa0))))))))))))))))))))))))))))
set_option maxRecDepth 100000 in
set_option maxHeartbeats 4000000 in
theorem ks_X10_isGrounded (G : Wp) (l : Launch) : ∀ e ∈ k_X10_isGrounded, Snd loC G l RX10 cX10_isGrounded 3 (some .boolean) rm_X10_isGrounded e.1 e.2 :=
  fa1 (s_iconst (n := 0) (v := 0) (by decide +kernel) (by decide +kernel) (p32 rfl)) <|
  fa1 (s_istore_n (kf := 1) (j := 1) (by decide +kernel) rfl (by decide)) <|
  fa1 (s_iload_n (kf := 1) (j := 1) (by decide +kernel) rfl) <|
  fa1 (s_aload_n (kf := 0) (j := 0) (by decide +kernel) rfl) <|
  fa1 (s_getR (t2 := 3) (g := (fun _ => 23)) (ci := 10) (f := 1) (idx := 30) (C := RX10) (T := TX10) (NF := 8) (by decide +kernel) rfl (by decide) inG_X10 (by decide) w_475 lr_X10_1 (by decide)) <|
  fa1 (s_getI (ci := 3) (f := 9) (idx := 100) (C := RX3) (T := TX3) (NF := 11) (by decide +kernel) rfl (by decide) inG_X3 (by decide) w_263 li_X3_9) <|
  fa1 (s_cmpge (off := 39) (by decide +kernel) (by decide)) <|
  fa1 (s_aload_n (kf := 0) (j := 0) (by decide +kernel) rfl) <|
  fa1 (s_getR (t2 := 3) (g := (fun _ => 23)) (ci := 10) (f := 1) (idx := 30) (C := RX10) (T := TX10) (NF := 8) (by decide +kernel) rfl (by decide) inG_X10 (by decide) w_475 lr_X10_1 (by decide)) <|
  fa1 (s_iload_n (kf := 1) (j := 1) (by decide +kernel) rfl) <|
  fa1 (s_vcallR (t := 2) (n := 1) (ci := 3) (C := RX3) (T := TX3) (NF := 11) (idx := 103) (y := yX3_get) (by decide +kernel) (gg_X3_get) rfl (by decide) yv_X3_get (all5 w_1073 w_736 w_737 w_104 w_738) rfl rfl ⟨by decide, by decide⟩) <|
  fa1 (s_astore_n (kf := 2) (j := 2) (by decide +kernel) rfl (by decide)) <|
  fa1 (s_aload_n (kf := 2) (j := 2) (by decide +kernel) rfl) <|
  fa1 (s_ifnull (off := 20) (by decide +kernel) (by decide)) <|
  fa1 (s_aload_n (kf := 2) (j := 2) (by decide +kernel) rfl) <|
  fa1 (s_getI (ci := 2) (f := 2) (idx := 107) (C := RX2) (T := TX2) (NF := 11) (by decide +kernel) rfl (by decide) inG_X2 (by decide) w_212 li_X2_2) <|
  fa1 (s_ifne (off := 13) (by decide +kernel) (by decide)) <|
  fa1 (s_aload_n (kf := 0) (j := 0) (by decide +kernel) rfl) <|
  fa1 (s_aload_n (kf := 2) (j := 2) (by decide +kernel) rfl) <|
  fa1 (s_vcallI (n := 1) (ci := 10) (C := RX10) (T := TX10) (NF := 8) (idx := 110) (y := yX10_isTrue) (by decide +kernel) (gg_X10_isTrue) rfl (by decide) yv_X10_isTrue (all5 w_1074 w_1052 w_1053 w_110 w_1054) rfl rfl ⟨by decide, by decide⟩) <|
  fa1 (s_ifne (off := 5) (by decide +kernel) (by decide)) <|
  fa1 (s_iconst (n := 0) (v := 0) (by decide +kernel) (by decide +kernel) (p32 rfl)) <|
  fa1 (s_zret (by decide +kernel) rfl) <|
  fa1 (s_iinc (j := 1) (d := 1) (by decide +kernel) (by decide)) <|
  fa1 (s_goto (off := -44) (by decide +kernel) (by decide)) <|
  fa1 (s_iconst (n := 1) (v := 1) (by decide +kernel) (by decide +kernel) (p32 rfl)) <|
  fa1 (s_zret (by decide +kernel) rfl) <| fa0
theorem gg_X10_isGrounded {G : Wp} {l : Launch} : GoodM loC G l yX10_isGrounded cX10_isGrounded 3 (some .boolean) rm_X10_isGrounded f_X10_isGrounded := met_of kt_X10_isGrounded (lkp_snd (ks_X10_isGrounded G l)) (by decide +kernel) rfl (by decide)
noncomputable def k_X10_countGrounded : List (Nat × Ins) := [
  (0, i_push 1 (.inl 0)),
  (1, i_istore 2 2),
  (2, i_push 3 (.inl 0)),
  (3, i_istore 4 3),
  (4, i_iload 5 3),
  (5, i_aload 6 0),
  (6, i_iload 7 1),
  (7, i_callI 10 2 (rcv 10) f_X10_howMany),
  (10, i_cmpge 13 35),
  (13, i_aload 14 0),
  (14, i_iload 15 1),
  (15, i_iload 16 3),
  (16, i_callV 19 3 (rcv 10) f_X10_enter),
  (19, i_aload 20 0),
  (20, i_callI 23 1 (rcv 10) f_X10_isGrounded),
  (23, i_ifeq 26 29),
  (26, i_iinc 29 2 (1)),
  (29, i_iinc 32 3 (1)),
  (32, i_goto 4),
  (35, i_iload 36 2),
  (36, i_iret)]
noncomputable def kc_X10_countGrounded : Nat → Option Ins := lkp k_X10_countGrounded
noncomputable def f_X10_countGrounded : List AV → Mem → Option Rs := den 4 kc_X10_countGrounded
abbrev rm_X10_countGrounded : Room := { frames := 5, cells := 0, slots := 0, locals := 124 }
set_option maxRecDepth 100000 in
theorem kt_X10_countGrounded : TriC kc_X10_countGrounded := lkp_tri (fa1 (tri_push 1 (.inl 0)) (fa1 (tri_istore 2 2) (fa1 (tri_push 3 (.inl 0)) (fa1 (tri_istore 4 3) (fa1 (tri_iload 5 3) (fa1 (tri_aload 6 0) (fa1 (tri_iload 7 1) (fa1 (tri_callI 10 2 (rcv 10) f_X10_howMany) (fa1 (tri_cmpge 13 35) (fa1 (tri_aload 14 0) (fa1 (tri_iload 15 1) (fa1 (tri_iload 16 3) (fa1 (tri_callV 19 3 (rcv 10) f_X10_enter) (fa1 (tri_aload 20 0) (fa1 (tri_callI 23 1 (rcv 10) f_X10_isGrounded) (fa1 (tri_ifeq 26 29) (fa1 (tri_iinc 29 2 (1)) (fa1 (tri_iinc 32 3 (1)) (fa1 (tri_goto 4) (fa1 (tri_iload 36 2) (fa1 (tri_iret) (fa0))))))))))))))))))))))
set_option maxRecDepth 100000 in
set_option maxHeartbeats 4000000 in
theorem ks_X10_countGrounded (G : Wp) (l : Launch) : ∀ e ∈ k_X10_countGrounded, Snd loC G l RX10 cX10_countGrounded 4 (some .int) rm_X10_countGrounded e.1 e.2 :=
  fa1 (s_iconst (n := 0) (v := 0) (by decide +kernel) (by decide +kernel) (p32 rfl)) <|
  fa1 (s_istore_n (kf := 2) (j := 2) (by decide +kernel) rfl (by decide)) <|
  fa1 (s_iconst (n := 0) (v := 0) (by decide +kernel) (by decide +kernel) (p32 rfl)) <|
  fa1 (s_istore_n (kf := 3) (j := 3) (by decide +kernel) rfl (by decide)) <|
  fa1 (s_iload_n (kf := 3) (j := 3) (by decide +kernel) rfl) <|
  fa1 (s_aload_n (kf := 0) (j := 0) (by decide +kernel) rfl) <|
  fa1 (s_iload_n (kf := 1) (j := 1) (by decide +kernel) rfl) <|
  fa1 (s_vcallI (n := 1) (ci := 10) (C := RX10) (T := TX10) (NF := 8) (idx := 114) (y := yX10_howMany) (by decide +kernel) (gg_X10_howMany) rfl (by decide) yv_X10_howMany (all5 w_1067 w_1024 w_1025 w_110 w_1026) rfl rfl ⟨by decide, by decide⟩) <|
  fa1 (s_cmpge (off := 25) (by decide +kernel) (by decide)) <|
  fa1 (s_aload_n (kf := 0) (j := 0) (by decide +kernel) rfl) <|
  fa1 (s_iload_n (kf := 1) (j := 1) (by decide +kernel) rfl) <|
  fa1 (s_iload_n (kf := 3) (j := 3) (by decide +kernel) rfl) <|
  fa1 (s_vcallV (n := 2) (ci := 10) (C := RX10) (T := TX10) (NF := 8) (idx := 117) (y := yX10_enter) (by decide +kernel) (gg_X10_enter) rfl (by decide) yv_X10_enter (all5 w_1068 w_1030 w_1031 w_110 w_1032) rfl rfl ⟨by decide, by decide⟩) <|
  fa1 (s_aload_n (kf := 0) (j := 0) (by decide +kernel) rfl) <|
  fa1 (s_vcallI (n := 0) (ci := 10) (C := RX10) (T := TX10) (NF := 8) (idx := 121) (y := yX10_isGrounded) (by decide +kernel) (gg_X10_isGrounded) rfl (by decide) yv_X10_isGrounded (all5 w_1069 w_1071 w_30 w_110 w_1072) rfl rfl ⟨by decide, by decide⟩) <|
  fa1 (s_ifeq (off := 6) (by decide +kernel) (by decide)) <|
  fa1 (s_iinc (j := 2) (d := 1) (by decide +kernel) (by decide)) <|
  fa1 (s_iinc (j := 3) (d := 1) (by decide +kernel) (by decide)) <|
  fa1 (s_goto (off := -28) (by decide +kernel) (by decide)) <|
  fa1 (s_iload_n (kf := 2) (j := 2) (by decide +kernel) rfl) <|
  fa1 (s_iret (by decide +kernel) rfl) <| fa0
theorem gg_X10_countGrounded {G : Wp} {l : Launch} : GoodM loC G l yX10_countGrounded cX10_countGrounded 4 (some .int) rm_X10_countGrounded f_X10_countGrounded := met_of kt_X10_countGrounded (lkp_snd (ks_X10_countGrounded G l)) (by decide +kernel) rfl (by decide)
noncomputable def k_X10_leastGrounded : List (Nat × Ins) := [
  (0, i_push 1 (.inl 0)),
  (1, i_istore 2 3),
  (2, i_iload 3 3),
  (3, i_aload 4 0),
  (4, i_iload 5 1),
  (5, i_callI 8 2 (rcv 10) f_X10_howMany),
  (8, i_cmpge 11 44),
  (11, i_aload 12 0),
  (12, i_iload 13 1),
  (13, i_iload 14 3),
  (14, i_callV 17 3 (rcv 10) f_X10_enter),
  (17, i_aload 18 0),
  (18, i_callI 21 1 (rcv 10) f_X10_isGrounded),
  (21, i_ifeq 24 38),
  (24, i_aload 25 2),
  (25, i_ifnull 28 36),
  (28, i_aload 29 0),
  (29, i_aload 30 2),
  (30, i_callI 33 2 (rcv 10) f_X10_isTrue),
  (33, i_ifne 36 38),
  (36, i_iload 37 3),
  (37, i_iret),
  (38, i_iinc 41 3 (1)),
  (41, i_goto 2),
  (44, i_push 46 (.inl (-4))),
  (46, i_iret)]
noncomputable def kc_X10_leastGrounded : Nat → Option Ins := lkp k_X10_leastGrounded
noncomputable def f_X10_leastGrounded : List AV → Mem → Option Rs := den 4 kc_X10_leastGrounded
abbrev rm_X10_leastGrounded : Room := { frames := 5, cells := 0, slots := 0, locals := 124 }
set_option maxRecDepth 100000 in
theorem kt_X10_leastGrounded : TriC kc_X10_leastGrounded := lkp_tri (fa1 (tri_push 1 (.inl 0)) (fa1 (tri_istore 2 3) (fa1 (tri_iload 3 3) (fa1 (tri_aload 4 0) (fa1 (tri_iload 5 1) (fa1 (tri_callI 8 2 (rcv 10) f_X10_howMany) (fa1 (tri_cmpge 11 44) (fa1 (tri_aload 12 0) (fa1 (tri_iload 13 1) (fa1 (tri_iload 14 3) (fa1 (tri_callV 17 3 (rcv 10) f_X10_enter) (fa1 (tri_aload 18 0) (fa1 (tri_callI 21 1 (rcv 10) f_X10_isGrounded) (fa1 (tri_ifeq 24 38) (fa1 (tri_aload 25 2) (fa1 (tri_ifnull 28 36) (fa1 (tri_aload 29 0) (fa1 (tri_aload 30 2) (fa1 (tri_callI 33 2 (rcv 10) f_X10_isTrue) (fa1 (tri_ifne 36 38) (fa1 (tri_iload 37 3) (fa1 (tri_iret) (fa1 (tri_iinc 41 3 (1)) (fa1 (tri_goto 2) (fa1 (tri_push 46 (.inl (-4))) (fa1 (tri_iret) (fa0)))))))))))))))))))))))))))
set_option maxRecDepth 100000 in
set_option maxHeartbeats 4000000 in
theorem ks_X10_leastGrounded (G : Wp) (l : Launch) : ∀ e ∈ k_X10_leastGrounded, Snd loC G l RX10 cX10_leastGrounded 4 (some .int) rm_X10_leastGrounded e.1 e.2 :=
  fa1 (s_iconst (n := 0) (v := 0) (by decide +kernel) (by decide +kernel) (p32 rfl)) <|
  fa1 (s_istore_n (kf := 3) (j := 3) (by decide +kernel) rfl (by decide)) <|
  fa1 (s_iload_n (kf := 3) (j := 3) (by decide +kernel) rfl) <|
  fa1 (s_aload_n (kf := 0) (j := 0) (by decide +kernel) rfl) <|
  fa1 (s_iload_n (kf := 1) (j := 1) (by decide +kernel) rfl) <|
  fa1 (s_vcallI (n := 1) (ci := 10) (C := RX10) (T := TX10) (NF := 8) (idx := 114) (y := yX10_howMany) (by decide +kernel) (gg_X10_howMany) rfl (by decide) yv_X10_howMany (all5 w_1067 w_1024 w_1025 w_110 w_1026) rfl rfl ⟨by decide, by decide⟩) <|
  fa1 (s_cmpge (off := 36) (by decide +kernel) (by decide)) <|
  fa1 (s_aload_n (kf := 0) (j := 0) (by decide +kernel) rfl) <|
  fa1 (s_iload_n (kf := 1) (j := 1) (by decide +kernel) rfl) <|
  fa1 (s_iload_n (kf := 3) (j := 3) (by decide +kernel) rfl) <|
  fa1 (s_vcallV (n := 2) (ci := 10) (C := RX10) (T := TX10) (NF := 8) (idx := 117) (y := yX10_enter) (by decide +kernel) (gg_X10_enter) rfl (by decide) yv_X10_enter (all5 w_1068 w_1030 w_1031 w_110 w_1032) rfl rfl ⟨by decide, by decide⟩) <|
  fa1 (s_aload_n (kf := 0) (j := 0) (by decide +kernel) rfl) <|
  fa1 (s_vcallI (n := 0) (ci := 10) (C := RX10) (T := TX10) (NF := 8) (idx := 121) (y := yX10_isGrounded) (by decide +kernel) (gg_X10_isGrounded) rfl (by decide) yv_X10_isGrounded (all5 w_1069 w_1071 w_30 w_110 w_1072) rfl rfl ⟨by decide, by decide⟩) <|
  fa1 (s_ifeq (off := 17) (by decide +kernel) (by decide)) <|
  fa1 (s_aload_n (kf := 2) (j := 2) (by decide +kernel) rfl) <|
  fa1 (s_ifnull (off := 11) (by decide +kernel) (by decide)) <|
  fa1 (s_aload_n (kf := 0) (j := 0) (by decide +kernel) rfl) <|
  fa1 (s_aload_n (kf := 2) (j := 2) (by decide +kernel) rfl) <|
  fa1 (s_vcallI (n := 1) (ci := 10) (C := RX10) (T := TX10) (NF := 8) (idx := 110) (y := yX10_isTrue) (by decide +kernel) (gg_X10_isTrue) rfl (by decide) yv_X10_isTrue (all5 w_1074 w_1052 w_1053 w_110 w_1054) rfl rfl ⟨by decide, by decide⟩) <|
  fa1 (s_ifne (off := 5) (by decide +kernel) (by decide)) <|
  fa1 (s_iload_n (kf := 3) (j := 3) (by decide +kernel) rfl) <|
  fa1 (s_iret (by decide +kernel) rfl) <|
  fa1 (s_iinc (j := 3) (d := 1) (by decide +kernel) (by decide)) <|
  fa1 (s_goto (off := -39) (by decide +kernel) (by decide)) <|
  fa1 (s_bipush (n := -4) (v := -4) (by decide +kernel) (by decide +kernel) (p32 rfl)) <|
  fa1 (s_iret (by decide +kernel) rfl) <| fa0
theorem gg_X10_leastGrounded {G : Wp} {l : Launch} : GoodM loC G l yX10_leastGrounded cX10_leastGrounded 4 (some .int) rm_X10_leastGrounded f_X10_leastGrounded := met_of kt_X10_leastGrounded (lkp_snd (ks_X10_leastGrounded G l)) (by decide +kernel) rfl (by decide)
noncomputable def k_X11_feed : List (Nat × Ins) := [
  (0, i_aload 1 0),
  (1, i_getR 4 11 7 (fun _ => 151)),
  (4, i_lload 5 1),
  (5, i_callI 8 2 (rcv 7) f_X7_append),
  (8, i_ifeq 11 21),
  (11, i_aload 12 0),
  (12, i_getR 15 11 7 (fun _ => 151)),
  (15, i_getI 18 7 8),
  (18, i_goto 23),
  (21, i_push 23 (.inl (-3))),
  (23, i_iret)]
noncomputable def kc_X11_feed : Nat → Option Ins := lkp k_X11_feed
noncomputable def f_X11_feed : List AV → Mem → Option Rs := den 3 kc_X11_feed
abbrev rm_X11_feed : Room := { frames := 1, cells := 0, slots := 0, locals := 23 }
set_option maxRecDepth 100000 in
theorem kt_X11_feed : TriC kc_X11_feed := lkp_tri (fa1 (tri_aload 1 0) (fa1 (tri_getR 4 11 7 (fun _ => 151)) (fa1 (tri_lload 5 1) (fa1 (tri_callI 8 2 (rcv 7) f_X7_append) (fa1 (tri_ifeq 11 21) (fa1 (tri_aload 12 0) (fa1 (tri_getR 15 11 7 (fun _ => 151)) (fa1 (tri_getI 18 7 8) (fa1 (tri_goto 23) (fa1 (tri_push 23 (.inl (-3))) (fa1 (tri_iret) (fa0))))))))))))
set_option maxRecDepth 100000 in
set_option maxHeartbeats 4000000 in
theorem ks_X11_feed (G : Wp) (l : Launch) : ∀ e ∈ k_X11_feed, Snd loC G l RX11 cX11_feed 3 (some .int) rm_X11_feed e.1 e.2 :=
  fa1 (s_aload_n (kf := 0) (j := 0) (by decide +kernel) rfl) <|
  fa1 (s_getR (t2 := 7) (g := (fun _ => 151)) (ci := 11) (f := 2) (idx := 28) (C := RX11) (T := TX11) (NF := 11) (by decide +kernel) rfl (by decide) inG_X11 (by decide) w_560 lr_X11_2 (by decide)) <|
  fa1 (s_lload_n (kf := 1) (j := 1) (by decide +kernel) rfl) <|
  fa1 (s_vcallI (n := 1) (ci := 7) (C := RX7) (T := TX7) (NF := 10) (idx := 84) (y := yX7_append) (by decide +kernel) (gg_X7_append) rfl (by decide) yv_X7_append (all5 w_596 w_597 w_598 w_106 w_599) rfl rfl ⟨by decide, by decide⟩) <|
  fa1 (s_ifeq (off := 13) (by decide +kernel) (by decide)) <|
  fa1 (s_aload_n (kf := 0) (j := 0) (by decide +kernel) rfl) <|
  fa1 (s_getR (t2 := 7) (g := (fun _ => 151)) (ci := 11) (f := 2) (idx := 28) (C := RX11) (T := TX11) (NF := 11) (by decide +kernel) rfl (by decide) inG_X11 (by decide) w_560 lr_X11_2 (by decide)) <|
  fa1 (s_getI (ci := 7) (f := 8) (idx := 88) (C := RX7) (T := TX7) (NF := 10) (by decide +kernel) rfl (by decide) inG_X7 (by decide) w_307 li_X7_8) <|
  fa1 (s_goto (off := 5) (by decide +kernel) (by decide)) <|
  fa1 (s_bipush (n := -3) (v := -3) (by decide +kernel) (by decide +kernel) (p32 rfl)) <|
  fa1 (s_iret (by decide +kernel) rfl) <| fa0
theorem gg_X11_feed {G : Wp} {l : Launch} : GoodM loC G l yX11_feed cX11_feed 3 (some .int) rm_X11_feed f_X11_feed := met_of kt_X11_feed (lkp_snd (ks_X11_feed G l)) (by decide +kernel) rfl (by decide)
noncomputable def k_X11_end : List (Nat × Ins) := [
  (0, i_iload 1 1),
  (1, i_iflt 4 15),
  (4, i_iload 5 1),
  (5, i_aload 6 0),
  (6, i_getR 9 11 7 (fun _ => 151)),
  (9, i_getI 12 7 8),
  (12, i_cmple 15 17),
  (15, i_push 16 (.inl (-1))),
  (16, i_iret),
  (17, i_aload 18 0),
  (18, i_getR 21 11 7 (fun _ => 151)),
  (21, i_getI 24 7 8),
  (24, i_istore 25 2),
  (25, i_aload 26 0),
  (26, i_getR 29 11 7 (fun _ => 151)),
  (29, i_iload 30 1),
  (30, i_putI 33 7 8),
  (33, i_iload 34 2),
  (34, i_iret)]
noncomputable def kc_X11_end : Nat → Option Ins := lkp k_X11_end
noncomputable def f_X11_end : List AV → Mem → Option Rs := den 3 kc_X11_end
abbrev rm_X11_end : Room := { frames := 0, cells := 0, slots := 0, locals := 0 }
set_option maxRecDepth 100000 in
theorem kt_X11_end : TriC kc_X11_end := lkp_tri (fa1 (tri_iload 1 1) (fa1 (tri_iflt 4 15) (fa1 (tri_iload 5 1) (fa1 (tri_aload 6 0) (fa1 (tri_getR 9 11 7 (fun _ => 151)) (fa1 (tri_getI 12 7 8) (fa1 (tri_cmple 15 17) (fa1 (tri_push 16 (.inl (-1))) (fa1 (tri_iret) (fa1 (tri_aload 18 0) (fa1 (tri_getR 21 11 7 (fun _ => 151)) (fa1 (tri_getI 24 7 8) (fa1 (tri_istore 25 2) (fa1 (tri_aload 26 0) (fa1 (tri_getR 29 11 7 (fun _ => 151)) (fa1 (tri_iload 30 1) (fa1 (tri_putI 33 7 8) (fa1 (tri_iload 34 2) (fa1 (tri_iret) (fa0))))))))))))))))))))
set_option maxRecDepth 100000 in
set_option maxHeartbeats 4000000 in
theorem ks_X11_end (G : Wp) (l : Launch) : ∀ e ∈ k_X11_end, Snd loC G l RX11 cX11_end 3 (some .int) rm_X11_end e.1 e.2 :=
  fa1 (s_iload_n (kf := 1) (j := 1) (by decide +kernel) rfl) <|
  fa1 (s_iflt (off := 14) (by decide +kernel) (by decide)) <|
  fa1 (s_iload_n (kf := 1) (j := 1) (by decide +kernel) rfl) <|
  fa1 (s_aload_n (kf := 0) (j := 0) (by decide +kernel) rfl) <|
  fa1 (s_getR (t2 := 7) (g := (fun _ => 151)) (ci := 11) (f := 2) (idx := 28) (C := RX11) (T := TX11) (NF := 11) (by decide +kernel) rfl (by decide) inG_X11 (by decide) w_560 lr_X11_2 (by decide)) <|
  fa1 (s_getI (ci := 7) (f := 8) (idx := 88) (C := RX7) (T := TX7) (NF := 10) (by decide +kernel) rfl (by decide) inG_X7 (by decide) w_307 li_X7_8) <|
  fa1 (s_cmple (off := 5) (by decide +kernel) (by decide)) <|
  fa1 (s_iconst (n := -1) (v := -1) (by decide +kernel) (by decide +kernel) (p32 rfl)) <|
  fa1 (s_iret (by decide +kernel) rfl) <|
  fa1 (s_aload_n (kf := 0) (j := 0) (by decide +kernel) rfl) <|
  fa1 (s_getR (t2 := 7) (g := (fun _ => 151)) (ci := 11) (f := 2) (idx := 28) (C := RX11) (T := TX11) (NF := 11) (by decide +kernel) rfl (by decide) inG_X11 (by decide) w_560 lr_X11_2 (by decide)) <|
  fa1 (s_getI (ci := 7) (f := 8) (idx := 88) (C := RX7) (T := TX7) (NF := 10) (by decide +kernel) rfl (by decide) inG_X7 (by decide) w_307 li_X7_8) <|
  fa1 (s_istore_n (kf := 2) (j := 2) (by decide +kernel) rfl (by decide)) <|
  fa1 (s_aload_n (kf := 0) (j := 0) (by decide +kernel) rfl) <|
  fa1 (s_getR (t2 := 7) (g := (fun _ => 151)) (ci := 11) (f := 2) (idx := 28) (C := RX11) (T := TX11) (NF := 11) (by decide +kernel) rfl (by decide) inG_X11 (by decide) w_560 lr_X11_2 (by decide)) <|
  fa1 (s_iload_n (kf := 1) (j := 1) (by decide +kernel) rfl) <|
  fa1 (s_putI (ci := 7) (f := 8) (idx := 88) (C := RX7) (T := TX7) (NF := 10) (by decide +kernel) rfl (by decide) inG_X7 (by decide) w_307 tyX7 tyX7_ok nmX7 rfl (by decide +kernel) li_X7_8) <|
  fa1 (s_iload_n (kf := 2) (j := 2) (by decide +kernel) rfl) <|
  fa1 (s_iret (by decide +kernel) rfl) <| fa0
theorem gg_X11_end {G : Wp} {l : Launch} : GoodM loC G l yX11_end cX11_end 3 (some .int) rm_X11_end f_X11_end := met_of kt_X11_end (lkp_snd (ks_X11_end G l)) (by decide +kernel) rfl (by decide)
noncomputable def k_X11_text : List (Nat × Ins) := [
  (0, i_aload 1 0),
  (1, i_getR 4 11 7 (fun _ => 151)),
  (4, i_aload 5 0),
  (5, i_getI 8 11 9),
  (8, i_aload 9 0),
  (9, i_getI 12 11 10),
  (12, i_callI 15 3 (rcv 7) f_X7_tellLines),
  (15, i_iret)]
noncomputable def kc_X11_text : Nat → Option Ins := lkp k_X11_text
noncomputable def f_X11_text : List AV → Mem → Option Rs := den 1 kc_X11_text
abbrev rm_X11_text : Room := { frames := 7, cells := 0, slots := 0, locals := 167 }
set_option maxRecDepth 100000 in
theorem kt_X11_text : TriC kc_X11_text := lkp_tri (fa1 (tri_aload 1 0) (fa1 (tri_getR 4 11 7 (fun _ => 151)) (fa1 (tri_aload 5 0) (fa1 (tri_getI 8 11 9) (fa1 (tri_aload 9 0) (fa1 (tri_getI 12 11 10) (fa1 (tri_callI 15 3 (rcv 7) f_X7_tellLines) (fa1 (tri_iret) (fa0)))))))))
set_option maxRecDepth 100000 in
set_option maxHeartbeats 4000000 in
theorem ks_X11_text (G : Wp) (l : Launch) : ∀ e ∈ k_X11_text, Snd loC G l RX11 cX11_text 1 (some .int) rm_X11_text e.1 e.2 :=
  fa1 (s_aload_n (kf := 0) (j := 0) (by decide +kernel) rfl) <|
  fa1 (s_getR (t2 := 7) (g := (fun _ => 151)) (ci := 11) (f := 2) (idx := 28) (C := RX11) (T := TX11) (NF := 11) (by decide +kernel) rfl (by decide) inG_X11 (by decide) w_560 lr_X11_2 (by decide)) <|
  fa1 (s_aload_n (kf := 0) (j := 0) (by decide +kernel) rfl) <|
  fa1 (s_getI (ci := 11) (f := 9) (idx := 77) (C := RX11) (T := TX11) (NF := 11) (by decide +kernel) rfl (by decide) inG_X11 (by decide) w_567 li_X11_9) <|
  fa1 (s_aload_n (kf := 0) (j := 0) (by decide +kernel) rfl) <|
  fa1 (s_getI (ci := 11) (f := 10) (idx := 81) (C := RX11) (T := TX11) (NF := 11) (by decide +kernel) rfl (by decide) inG_X11 (by decide) w_568 li_X11_10) <|
  fa1 (s_vcallI (n := 2) (ci := 7) (C := RX7) (T := TX7) (NF := 10) (idx := 91) (y := yX7_tellLines) (by decide +kernel) (gg_X7_tellLines) rfl (by decide) yv_X7_tellLines (all5 w_608 w_609 w_610 w_106 w_611) rfl rfl ⟨by decide, by decide⟩) <|
  fa1 (s_iret (by decide +kernel) rfl) <| fa0
theorem gg_X11_text {G : Wp} {l : Launch} : GoodM loC G l yX11_text cX11_text 1 (some .int) rm_X11_text f_X11_text := met_of kt_X11_text (lkp_snd (ks_X11_text G l)) (by decide +kernel) rfl (by decide)
noncomputable def k_X11_fault : List (Nat × Ins) := [
  (0, i_aload 1 0),
  (1, i_getR 4 11 7 (fun _ => 151)),
  (4, i_getI 7 7 9),
  (7, i_iret)]
noncomputable def kc_X11_fault : Nat → Option Ins := lkp k_X11_fault
noncomputable def f_X11_fault : List AV → Mem → Option Rs := den 1 kc_X11_fault
abbrev rm_X11_fault : Room := { frames := 0, cells := 0, slots := 0, locals := 0 }
set_option maxRecDepth 100000 in
theorem kt_X11_fault : TriC kc_X11_fault := lkp_tri (fa1 (tri_aload 1 0) (fa1 (tri_getR 4 11 7 (fun _ => 151)) (fa1 (tri_getI 7 7 9) (fa1 (tri_iret) (fa0)))))
set_option maxRecDepth 100000 in
set_option maxHeartbeats 4000000 in
theorem ks_X11_fault (G : Wp) (l : Launch) : ∀ e ∈ k_X11_fault, Snd loC G l RX11 cX11_fault 1 (some .int) rm_X11_fault e.1 e.2 :=
  fa1 (s_aload_n (kf := 0) (j := 0) (by decide +kernel) rfl) <|
  fa1 (s_getR (t2 := 7) (g := (fun _ => 151)) (ci := 11) (f := 2) (idx := 28) (C := RX11) (T := TX11) (NF := 11) (by decide +kernel) rfl (by decide) inG_X11 (by decide) w_560 lr_X11_2 (by decide)) <|
  fa1 (s_getI (ci := 7) (f := 9) (idx := 95) (C := RX7) (T := TX7) (NF := 10) (by decide +kernel) rfl (by decide) inG_X7 (by decide) w_308 li_X7_9) <|
  fa1 (s_iret (by decide +kernel) rfl) <| fa0
theorem gg_X11_fault {G : Wp} {l : Launch} : GoodM loC G l yX11_fault cX11_fault 1 (some .int) rm_X11_fault f_X11_fault := met_of kt_X11_fault (lkp_snd (ks_X11_fault G l)) (by decide +kernel) rfl (by decide)
noncomputable def k_X11_hand : List (Nat × Ins) := [
  (0, i_iload 1 1),
  (1, i_iflt 4 10),
  (4, i_iload 5 1),
  (5, i_push 7 (.inl 9)),
  (7, i_cmple 10 12),
  (10, i_push 11 (.inl (-1))),
  (11, i_iret),
  (12, i_aload 13 0),
  (13, i_getI 16 11 9),
  (16, i_istore 17 2),
  (17, i_aload 18 0),
  (18, i_iload 19 1),
  (19, i_putI 22 11 9),
  (22, i_iload 23 2),
  (23, i_iret)]
noncomputable def kc_X11_hand : Nat → Option Ins := lkp k_X11_hand
noncomputable def f_X11_hand : List AV → Mem → Option Rs := den 3 kc_X11_hand
abbrev rm_X11_hand : Room := { frames := 0, cells := 0, slots := 0, locals := 0 }
set_option maxRecDepth 100000 in
theorem kt_X11_hand : TriC kc_X11_hand := lkp_tri (fa1 (tri_iload 1 1) (fa1 (tri_iflt 4 10) (fa1 (tri_iload 5 1) (fa1 (tri_push 7 (.inl 9)) (fa1 (tri_cmple 10 12) (fa1 (tri_push 11 (.inl (-1))) (fa1 (tri_iret) (fa1 (tri_aload 13 0) (fa1 (tri_getI 16 11 9) (fa1 (tri_istore 17 2) (fa1 (tri_aload 18 0) (fa1 (tri_iload 19 1) (fa1 (tri_putI 22 11 9) (fa1 (tri_iload 23 2) (fa1 (tri_iret) (fa0))))))))))))))))
set_option maxRecDepth 100000 in
set_option maxHeartbeats 4000000 in
theorem ks_X11_hand (G : Wp) (l : Launch) : ∀ e ∈ k_X11_hand, Snd loC G l RX11 cX11_hand 3 (some .int) rm_X11_hand e.1 e.2 :=
  fa1 (s_iload_n (kf := 1) (j := 1) (by decide +kernel) rfl) <|
  fa1 (s_iflt (off := 9) (by decide +kernel) (by decide)) <|
  fa1 (s_iload_n (kf := 1) (j := 1) (by decide +kernel) rfl) <|
  fa1 (s_bipush (n := 9) (v := 9) (by decide +kernel) (by decide +kernel) (p32 rfl)) <|
  fa1 (s_cmple (off := 5) (by decide +kernel) (by decide)) <|
  fa1 (s_iconst (n := -1) (v := -1) (by decide +kernel) (by decide +kernel) (p32 rfl)) <|
  fa1 (s_iret (by decide +kernel) rfl) <|
  fa1 (s_aload_n (kf := 0) (j := 0) (by decide +kernel) rfl) <|
  fa1 (s_getI (ci := 11) (f := 9) (idx := 77) (C := RX11) (T := TX11) (NF := 11) (by decide +kernel) rfl (by decide) inG_X11 (by decide) w_567 li_X11_9) <|
  fa1 (s_istore_n (kf := 2) (j := 2) (by decide +kernel) rfl (by decide)) <|
  fa1 (s_aload_n (kf := 0) (j := 0) (by decide +kernel) rfl) <|
  fa1 (s_iload_n (kf := 1) (j := 1) (by decide +kernel) rfl) <|
  fa1 (s_putI (ci := 11) (f := 9) (idx := 77) (C := RX11) (T := TX11) (NF := 11) (by decide +kernel) rfl (by decide) inG_X11 (by decide) w_567 tyX11 tyX11_ok nmX11 rfl (by decide +kernel) li_X11_9) <|
  fa1 (s_iload_n (kf := 2) (j := 2) (by decide +kernel) rfl) <|
  fa1 (s_iret (by decide +kernel) rfl) <| fa0
theorem gg_X11_hand {G : Wp} {l : Launch} : GoodM loC G l yX11_hand cX11_hand 3 (some .int) rm_X11_hand f_X11_hand := met_of kt_X11_hand (lkp_snd (ks_X11_hand G l)) (by decide +kernel) rfl (by decide)
noncomputable def k_X11_day : List (Nat × Ins) := [
  (0, i_iload 1 1),
  (1, i_aload 2 0),
  (2, i_getI 5 11 10),
  (5, i_cmplt 8 15),
  (8, i_iload 9 1),
  (9, i_push 12 (.inl 999)),
  (12, i_cmple 15 17),
  (15, i_push 16 (.inl (-1))),
  (16, i_iret),
  (17, i_aload 18 0),
  (18, i_getI 21 11 10),
  (21, i_istore 22 2),
  (22, i_aload 23 0),
  (23, i_iload 24 1),
  (24, i_putI 27 11 10),
  (27, i_iload 28 2),
  (28, i_iret)]
noncomputable def kc_X11_day : Nat → Option Ins := lkp k_X11_day
noncomputable def f_X11_day : List AV → Mem → Option Rs := den 3 kc_X11_day
abbrev rm_X11_day : Room := { frames := 0, cells := 0, slots := 0, locals := 0 }
set_option maxRecDepth 100000 in
theorem kt_X11_day : TriC kc_X11_day := lkp_tri (fa1 (tri_iload 1 1) (fa1 (tri_aload 2 0) (fa1 (tri_getI 5 11 10) (fa1 (tri_cmplt 8 15) (fa1 (tri_iload 9 1) (fa1 (tri_push 12 (.inl 999)) (fa1 (tri_cmple 15 17) (fa1 (tri_push 16 (.inl (-1))) (fa1 (tri_iret) (fa1 (tri_aload 18 0) (fa1 (tri_getI 21 11 10) (fa1 (tri_istore 22 2) (fa1 (tri_aload 23 0) (fa1 (tri_iload 24 1) (fa1 (tri_putI 27 11 10) (fa1 (tri_iload 28 2) (fa1 (tri_iret) (fa0))))))))))))))))))
set_option maxRecDepth 100000 in
set_option maxHeartbeats 4000000 in
theorem ks_X11_day (G : Wp) (l : Launch) : ∀ e ∈ k_X11_day, Snd loC G l RX11 cX11_day 3 (some .int) rm_X11_day e.1 e.2 :=
  fa1 (s_iload_n (kf := 1) (j := 1) (by decide +kernel) rfl) <|
  fa1 (s_aload_n (kf := 0) (j := 0) (by decide +kernel) rfl) <|
  fa1 (s_getI (ci := 11) (f := 10) (idx := 81) (C := RX11) (T := TX11) (NF := 11) (by decide +kernel) rfl (by decide) inG_X11 (by decide) w_568 li_X11_10) <|
  fa1 (s_cmplt (off := 10) (by decide +kernel) (by decide)) <|
  fa1 (s_iload_n (kf := 1) (j := 1) (by decide +kernel) rfl) <|
  fa1 (s_sipush (n := 999) (v := 999) (by decide +kernel) (by decide +kernel) (p32 rfl)) <|
  fa1 (s_cmple (off := 5) (by decide +kernel) (by decide)) <|
  fa1 (s_iconst (n := -1) (v := -1) (by decide +kernel) (by decide +kernel) (p32 rfl)) <|
  fa1 (s_iret (by decide +kernel) rfl) <|
  fa1 (s_aload_n (kf := 0) (j := 0) (by decide +kernel) rfl) <|
  fa1 (s_getI (ci := 11) (f := 10) (idx := 81) (C := RX11) (T := TX11) (NF := 11) (by decide +kernel) rfl (by decide) inG_X11 (by decide) w_568 li_X11_10) <|
  fa1 (s_istore_n (kf := 2) (j := 2) (by decide +kernel) rfl (by decide)) <|
  fa1 (s_aload_n (kf := 0) (j := 0) (by decide +kernel) rfl) <|
  fa1 (s_iload_n (kf := 1) (j := 1) (by decide +kernel) rfl) <|
  fa1 (s_putI (ci := 11) (f := 10) (idx := 81) (C := RX11) (T := TX11) (NF := 11) (by decide +kernel) rfl (by decide) inG_X11 (by decide) w_568 tyX11 tyX11_ok nmX11 rfl (by decide +kernel) li_X11_10) <|
  fa1 (s_iload_n (kf := 2) (j := 2) (by decide +kernel) rfl) <|
  fa1 (s_iret (by decide +kernel) rfl) <| fa0
theorem gg_X11_day {G : Wp} {l : Launch} : GoodM loC G l yX11_day cX11_day 3 (some .int) rm_X11_day f_X11_day := met_of kt_X11_day (lkp_snd (ks_X11_day G l)) (by decide +kernel) rfl (by decide)
noncomputable def k_X11_of : List (Nat × Ins) := [
  (0, i_aload 1 0),
  (1, i_getR 4 11 3 (fun _ => 23)),
  (4, i_iload 5 1),
  (5, i_callR 8 2 2 (rcv 3) f_X3_get),
  (8, i_astore 9 3),
  (9, i_aload 10 3),
  (10, i_ifnonnull 13 15),
  (13, i_push 14 (.inl (-1))),
  (14, i_iret),
  (15, i_iload 16 2),
  (16, i_switch 146 (0) [68, 73, 78, 83, 91, 99, 104, 122, 134]),
  (68, i_aload 69 3),
  (69, i_getI 72 2 2),
  (72, i_iret),
  (73, i_aload 74 3),
  (74, i_getI 77 2 3),
  (77, i_iret),
  (78, i_aload 79 3),
  (79, i_getI 82 2 4),
  (82, i_iret),
  (83, i_aload 84 3),
  (84, i_getR 87 2 8 (fun c => c + 1)),
  (87, i_getI 90 8 1),
  (90, i_iret),
  (91, i_aload 92 3),
  (92, i_getR 95 2 8 (fun c => c + 3)),
  (95, i_getI 98 8 1),
  (98, i_iret),
  (99, i_aload 100 3),
  (100, i_getI 103 2 6),
  (103, i_iret),
  (104, i_aload 105 3),
  (105, i_getI 108 2 2),
  (108, i_push 109 (.inl 3)),
  (109, i_cmpne 112 119),
  (112, i_aload 113 3),
  (113, i_getI 116 2 7),
  (116, i_goto 121),
  (119, i_push 121 (.inl (-4))),
  (121, i_iret),
  (122, i_aload 123 0),
  (123, i_getR 126 11 3 (fun _ => 23)),
  (126, i_iload 127 1),
  (127, i_callI 130 2 (rcv 3) f_X3_underOf),
  (130, i_callI 133 1 anyv f_J6_bitCount_0f7a4),
  (133, i_iret),
  (134, i_aload 135 0),
  (135, i_getR 138 11 3 (fun _ => 23)),
  (138, i_iload 139 1),
  (139, i_callI 142 2 (rcv 3) f_X3_overOf),
  (142, i_callI 145 1 anyv f_J6_bitCount_0f7a4),
  (145, i_iret),
  (146, i_push 147 (.inl (-1))),
  (147, i_iret)]
noncomputable def kc_X11_of : Nat → Option Ins := lkp k_X11_of
noncomputable def f_X11_of : List AV → Mem → Option Rs := den 4 kc_X11_of
abbrev rm_X11_of : Room := { frames := 3, cells := 0, slots := 0, locals := 66 }
set_option maxRecDepth 100000 in
theorem kt_X11_of : TriC kc_X11_of := lkp_tri (fa1 (tri_aload 1 0) (fa1 (tri_getR 4 11 3 (fun _ => 23)) (fa1 (tri_iload 5 1) (fa1 (tri_callR 8 2 2 (rcv 3) f_X3_get) (fa1 (tri_astore 9 3) (fa1 (tri_aload 10 3) (fa1 (tri_ifnonnull 13 15) (fa1 (tri_push 14 (.inl (-1))) (fa1 (tri_iret) (fa1 (tri_iload 16 2) (fa1 (tri_switch 146 (0) [68, 73, 78, 83, 91, 99, 104, 122, 134]) (fa1 (tri_aload 69 3) (fa1 (tri_getI 72 2 2) (fa1 (tri_iret) (fa1 (tri_aload 74 3) (fa1 (tri_getI 77 2 3) (fa1 (tri_iret) (fa1 (tri_aload 79 3) (fa1 (tri_getI 82 2 4) (fa1 (tri_iret) (fa1 (tri_aload 84 3) (fa1 (tri_getR 87 2 8 (fun c => c + 1)) (fa1 (tri_getI 90 8 1) (fa1 (tri_iret) (fa1 (tri_aload 92 3) (fa1 (tri_getR 95 2 8 (fun c => c + 3)) (fa1 (tri_getI 98 8 1) (fa1 (tri_iret) (fa1 (tri_aload 100 3) (fa1 (tri_getI 103 2 6) (fa1 (tri_iret) (fa1 (tri_aload 105 3) (fa1 (tri_getI 108 2 2) (fa1 (tri_push 109 (.inl 3)) (fa1 (tri_cmpne 112 119) (fa1 (tri_aload 113 3) (fa1 (tri_getI 116 2 7) (fa1 (tri_goto 121) (fa1 (tri_push 121 (.inl (-4))) (fa1 (tri_iret) (fa1 (tri_aload 123 0) (fa1 (tri_getR 126 11 3 (fun _ => 23)) (fa1 (tri_iload 127 1) (fa1 (tri_callI 130 2 (rcv 3) f_X3_underOf) (fa1 (tri_callI 133 1 anyv f_J6_bitCount_0f7a4) (fa1 (tri_iret) (fa1 (tri_aload 135 0) (fa1 (tri_getR 138 11 3 (fun _ => 23)) (fa1 (tri_iload 139 1) (fa1 (tri_callI 142 2 (rcv 3) f_X3_overOf) (fa1 (tri_callI 145 1 anyv f_J6_bitCount_0f7a4) (fa1 (tri_iret) (fa1 (tri_push 147 (.inl (-1))) (fa1 (tri_iret) (fa0)))))))))))))))))))))))))))))))))))))))))))))))))))))))
set_option maxRecDepth 100000 in
set_option maxHeartbeats 4000000 in
theorem ks_X11_of (G : Wp) (l : Launch) : ∀ e ∈ k_X11_of, Snd loC G l RX11 cX11_of 4 (some .int) rm_X11_of e.1 e.2 :=
  fa1 (s_aload_n (kf := 0) (j := 0) (by decide +kernel) rfl) <|
  fa1 (s_getR (t2 := 3) (g := (fun _ => 23)) (ci := 11) (f := 1) (idx := 19) (C := RX11) (T := TX11) (NF := 11) (by decide +kernel) rfl (by decide) inG_X11 (by decide) w_559 lr_X11_1 (by decide)) <|
  fa1 (s_iload_n (kf := 1) (j := 1) (by decide +kernel) rfl) <|
  fa1 (s_vcallR (t := 2) (n := 1) (ci := 3) (C := RX3) (T := TX3) (NF := 11) (idx := 98) (y := yX3_get) (by decide +kernel) (gg_X3_get) rfl (by decide) yv_X3_get (all5 w_735 w_736 w_737 w_104 w_738) rfl rfl ⟨by decide, by decide⟩) <|
  fa1 (s_astore_n (kf := 3) (j := 3) (by decide +kernel) rfl (by decide)) <|
  fa1 (s_aload_n (kf := 3) (j := 3) (by decide +kernel) rfl) <|
  fa1 (s_ifnonnull (off := 5) (by decide +kernel) (by decide)) <|
  fa1 (s_iconst (n := -1) (v := -1) (by decide +kernel) (by decide +kernel) (p32 rfl)) <|
  fa1 (s_iret (by decide +kernel) rfl) <|
  fa1 (s_iload_n (kf := 2) (j := 2) (by decide +kernel) rfl) <|
  fa1 (s_switch (dflt := 130) (lo := 0) (hhi := 8) (offs := #[52, 57, 62, 67, 75, 83, 88, 106, 118]) (len := 52) (by decide +kernel) (by decide) (by decide +kernel) (by decide)) <|
  fa1 (s_aload_n (kf := 3) (j := 3) (by decide +kernel) rfl) <|
  fa1 (s_getI (ci := 2) (f := 2) (idx := 102) (C := RX2) (T := TX2) (NF := 11) (by decide +kernel) rfl (by decide) inG_X2 (by decide) w_211 li_X2_2) <|
  fa1 (s_iret (by decide +kernel) rfl) <|
  fa1 (s_aload_n (kf := 3) (j := 3) (by decide +kernel) rfl) <|
  fa1 (s_getI (ci := 2) (f := 3) (idx := 107) (C := RX2) (T := TX2) (NF := 11) (by decide +kernel) rfl (by decide) inG_X2 (by decide) w_214 li_X2_3) <|
  fa1 (s_iret (by decide +kernel) rfl) <|
  fa1 (s_aload_n (kf := 3) (j := 3) (by decide +kernel) rfl) <|
  fa1 (s_getI (ci := 2) (f := 4) (idx := 110) (C := RX2) (T := TX2) (NF := 11) (by decide +kernel) rfl (by decide) inG_X2 (by decide) w_216 li_X2_4) <|
  fa1 (s_iret (by decide +kernel) rfl) <|
  fa1 (s_aload_n (kf := 3) (j := 3) (by decide +kernel) rfl) <|
  fa1 (s_getR (t2 := 8) (g := (fun c => c + 1)) (ci := 2) (f := 0) (idx := 113) (C := RX2) (T := TX2) (NF := 11) (by decide +kernel) rfl (by decide) inG_X2 (by decide) w_200 lr_X2_0 (by decide)) <|
  fa1 (s_getI (ci := 8) (f := 1) (idx := 117) (C := RX8) (T := TX8) (NF := 2) (by decide +kernel) rfl (by decide) inG_X8 (by decide) w_146 li_X8_1) <|
  fa1 (s_iret (by decide +kernel) rfl) <|
  fa1 (s_aload_n (kf := 3) (j := 3) (by decide +kernel) rfl) <|
  fa1 (s_getR (t2 := 8) (g := (fun c => c + 3)) (ci := 2) (f := 1) (idx := 122) (C := RX2) (T := TX2) (NF := 11) (by decide +kernel) rfl (by decide) inG_X2 (by decide) w_208 lr_X2_1 (by decide)) <|
  fa1 (s_getI (ci := 8) (f := 1) (idx := 117) (C := RX8) (T := TX8) (NF := 2) (by decide +kernel) rfl (by decide) inG_X8 (by decide) w_146 li_X8_1) <|
  fa1 (s_iret (by decide +kernel) rfl) <|
  fa1 (s_aload_n (kf := 3) (j := 3) (by decide +kernel) rfl) <|
  fa1 (s_getI (ci := 2) (f := 6) (idx := 125) (C := RX2) (T := TX2) (NF := 11) (by decide +kernel) rfl (by decide) inG_X2 (by decide) w_220 li_X2_6) <|
  fa1 (s_iret (by decide +kernel) rfl) <|
  fa1 (s_aload_n (kf := 3) (j := 3) (by decide +kernel) rfl) <|
  fa1 (s_getI (ci := 2) (f := 2) (idx := 102) (C := RX2) (T := TX2) (NF := 11) (by decide +kernel) rfl (by decide) inG_X2 (by decide) w_211 li_X2_2) <|
  fa1 (s_iconst (n := 3) (v := 3) (by decide +kernel) (by decide +kernel) (p32 rfl)) <|
  fa1 (s_cmpne (off := 10) (by decide +kernel) (by decide)) <|
  fa1 (s_aload_n (kf := 3) (j := 3) (by decide +kernel) rfl) <|
  fa1 (s_getI (ci := 2) (f := 7) (idx := 128) (C := RX2) (T := TX2) (NF := 11) (by decide +kernel) rfl (by decide) inG_X2 (by decide) w_221 li_X2_7) <|
  fa1 (s_goto (off := 5) (by decide +kernel) (by decide)) <|
  fa1 (s_bipush (n := -4) (v := -4) (by decide +kernel) (by decide +kernel) (p32 rfl)) <|
  fa1 (s_iret (by decide +kernel) rfl) <|
  fa1 (s_aload_n (kf := 0) (j := 0) (by decide +kernel) rfl) <|
  fa1 (s_getR (t2 := 3) (g := (fun _ => 23)) (ci := 11) (f := 1) (idx := 19) (C := RX11) (T := TX11) (NF := 11) (by decide +kernel) rfl (by decide) inG_X11 (by decide) w_559 lr_X11_1 (by decide)) <|
  fa1 (s_iload_n (kf := 1) (j := 1) (by decide +kernel) rfl) <|
  fa1 (s_vcallI (n := 1) (ci := 3) (C := RX3) (T := TX3) (NF := 11) (idx := 131) (y := yX3_underOf) (by decide +kernel) (gg_X3_underOf) rfl (by decide) yv_X3_underOf (all5 w_739 w_740 w_741 w_104 w_742) rfl rfl ⟨by decide, by decide⟩) <|
  fa1 (s_scallI (n := 1) (idx := 135) (y := yJ6_bitCount_0f7a4) (by decide +kernel) (gg_J6_bitCount_0f7a4) yv_J6_bitCount_0f7a4 (all4 w_744 w_745 w_114 w_746) rfl rfl ⟨by decide, by decide⟩) <|
  fa1 (s_iret (by decide +kernel) rfl) <|
  fa1 (s_aload_n (kf := 0) (j := 0) (by decide +kernel) rfl) <|
  fa1 (s_getR (t2 := 3) (g := (fun _ => 23)) (ci := 11) (f := 1) (idx := 19) (C := RX11) (T := TX11) (NF := 11) (by decide +kernel) rfl (by decide) inG_X11 (by decide) w_559 lr_X11_1 (by decide)) <|
  fa1 (s_iload_n (kf := 1) (j := 1) (by decide +kernel) rfl) <|
  fa1 (s_vcallI (n := 1) (ci := 3) (C := RX3) (T := TX3) (NF := 11) (idx := 140) (y := yX3_overOf) (by decide +kernel) (gg_X3_overOf) rfl (by decide) yv_X3_overOf (all5 w_750 w_751 w_752 w_104 w_753) rfl rfl ⟨by decide, by decide⟩) <|
  fa1 (s_scallI (n := 1) (idx := 135) (y := yJ6_bitCount_0f7a4) (by decide +kernel) (gg_J6_bitCount_0f7a4) yv_J6_bitCount_0f7a4 (all4 w_744 w_745 w_114 w_746) rfl rfl ⟨by decide, by decide⟩) <|
  fa1 (s_iret (by decide +kernel) rfl) <|
  fa1 (s_iconst (n := -1) (v := -1) (by decide +kernel) (by decide +kernel) (p32 rfl)) <|
  fa1 (s_iret (by decide +kernel) rfl) <| fa0
theorem gg_X11_of {G : Wp} {l : Launch} : GoodM loC G l yX11_of cX11_of 4 (some .int) rm_X11_of f_X11_of := met_of kt_X11_of (lkp_snd (ks_X11_of G l)) (by decide +kernel) rfl (by decide)
noncomputable def k_X11_sign : List (Nat × Ins) := [
  (0, i_aload 1 0),
  (1, i_getR 4 11 3 (fun _ => 23)),
  (4, i_iload 5 1),
  (5, i_callR 8 2 2 (rcv 3) f_X3_get),
  (8, i_astore 10 4),
  (10, i_aload 12 4),
  (12, i_ifnull 15 28),
  (15, i_iload 16 2),
  (16, i_iflt 19 28),
  (19, i_iload 20 2),
  (20, i_push 21 (.inl 1)),
  (21, i_cmpgt 24 28),
  (24, i_iload 25 3),
  (25, i_ifge 28 30),
  (28, i_push 29 (.inl (-1))),
  (29, i_iret),
  (30, i_iload 31 2),
  (31, i_ifne 34 46),
  (34, i_aload 36 4),
  (36, i_getR 39 2 8 (fun c => c + 1)),
  (39, i_iload 40 3),
  (40, i_callI 43 2 (rcv 8) f_X8_at),
  (43, i_goto 55),
  (46, i_aload 48 4),
  (48, i_getR 51 2 8 (fun c => c + 3)),
  (51, i_iload 52 3),
  (52, i_callI 55 2 (rcv 8) f_X8_at),
  (55, i_iret)]
noncomputable def kc_X11_sign : Nat → Option Ins := lkp k_X11_sign
noncomputable def f_X11_sign : List AV → Mem → Option Rs := den 5 kc_X11_sign
abbrev rm_X11_sign : Room := { frames := 1, cells := 0, slots := 0, locals := 21 }
set_option maxRecDepth 100000 in
theorem kt_X11_sign : TriC kc_X11_sign := lkp_tri (fa1 (tri_aload 1 0) (fa1 (tri_getR 4 11 3 (fun _ => 23)) (fa1 (tri_iload 5 1) (fa1 (tri_callR 8 2 2 (rcv 3) f_X3_get) (fa1 (tri_astore 10 4) (fa1 (tri_aload 12 4) (fa1 (tri_ifnull 15 28) (fa1 (tri_iload 16 2) (fa1 (tri_iflt 19 28) (fa1 (tri_iload 20 2) (fa1 (tri_push 21 (.inl 1)) (fa1 (tri_cmpgt 24 28) (fa1 (tri_iload 25 3) (fa1 (tri_ifge 28 30) (fa1 (tri_push 29 (.inl (-1))) (fa1 (tri_iret) (fa1 (tri_iload 31 2) (fa1 (tri_ifne 34 46) (fa1 (tri_aload 36 4) (fa1 (tri_getR 39 2 8 (fun c => c + 1)) (fa1 (tri_iload 40 3) (fa1 (tri_callI 43 2 (rcv 8) f_X8_at) (fa1 (tri_goto 55) (fa1 (tri_aload 48 4) (fa1 (tri_getR 51 2 8 (fun c => c + 3)) (fa1 (tri_iload 52 3) (fa1 (tri_callI 55 2 (rcv 8) f_X8_at) (fa1 (tri_iret) (fa0)))))))))))))))))))))))))))))
set_option maxRecDepth 100000 in
set_option maxHeartbeats 4000000 in
theorem ks_X11_sign (G : Wp) (l : Launch) : ∀ e ∈ k_X11_sign, Snd loC G l RX11 cX11_sign 5 (some .int) rm_X11_sign e.1 e.2 :=
  fa1 (s_aload_n (kf := 0) (j := 0) (by decide +kernel) rfl) <|
  fa1 (s_getR (t2 := 3) (g := (fun _ => 23)) (ci := 11) (f := 1) (idx := 19) (C := RX11) (T := TX11) (NF := 11) (by decide +kernel) rfl (by decide) inG_X11 (by decide) w_559 lr_X11_1 (by decide)) <|
  fa1 (s_iload_n (kf := 1) (j := 1) (by decide +kernel) rfl) <|
  fa1 (s_vcallR (t := 2) (n := 1) (ci := 3) (C := RX3) (T := TX3) (NF := 11) (idx := 98) (y := yX3_get) (by decide +kernel) (gg_X3_get) rfl (by decide) yv_X3_get (all5 w_735 w_736 w_737 w_104 w_738) rfl rfl ⟨by decide, by decide⟩) <|
  fa1 (s_astore (j := 4) (by decide +kernel) (by decide)) <|
  fa1 (s_aload (j := 4) (by decide +kernel)) <|
  fa1 (s_ifnull (off := 16) (by decide +kernel) (by decide)) <|
  fa1 (s_iload_n (kf := 2) (j := 2) (by decide +kernel) rfl) <|
  fa1 (s_iflt (off := 12) (by decide +kernel) (by decide)) <|
  fa1 (s_iload_n (kf := 2) (j := 2) (by decide +kernel) rfl) <|
  fa1 (s_iconst (n := 1) (v := 1) (by decide +kernel) (by decide +kernel) (p32 rfl)) <|
  fa1 (s_cmpgt (off := 7) (by decide +kernel) (by decide)) <|
  fa1 (s_iload_n (kf := 3) (j := 3) (by decide +kernel) rfl) <|
  fa1 (s_ifge (off := 5) (by decide +kernel) (by decide)) <|
  fa1 (s_iconst (n := -1) (v := -1) (by decide +kernel) (by decide +kernel) (p32 rfl)) <|
  fa1 (s_iret (by decide +kernel) rfl) <|
  fa1 (s_iload_n (kf := 2) (j := 2) (by decide +kernel) rfl) <|
  fa1 (s_ifne (off := 15) (by decide +kernel) (by decide)) <|
  fa1 (s_aload (j := 4) (by decide +kernel)) <|
  fa1 (s_getR (t2 := 8) (g := (fun c => c + 1)) (ci := 2) (f := 0) (idx := 113) (C := RX2) (T := TX2) (NF := 11) (by decide +kernel) rfl (by decide) inG_X2 (by decide) w_200 lr_X2_0 (by decide)) <|
  fa1 (s_iload_n (kf := 3) (j := 3) (by decide +kernel) rfl) <|
  fa1 (s_vcallI (n := 1) (ci := 8) (C := RX8) (T := TX8) (NF := 2) (idx := 143) (y := yX8_at) (by decide +kernel) (gg_X8_at) rfl (by decide) yv_X8_at (all5 w_759 w_667 w_668 w_102 w_669) rfl rfl ⟨by decide, by decide⟩) <|
  fa1 (s_goto (off := 12) (by decide +kernel) (by decide)) <|
  fa1 (s_aload (j := 4) (by decide +kernel)) <|
  fa1 (s_getR (t2 := 8) (g := (fun c => c + 3)) (ci := 2) (f := 1) (idx := 122) (C := RX2) (T := TX2) (NF := 11) (by decide +kernel) rfl (by decide) inG_X2 (by decide) w_208 lr_X2_1 (by decide)) <|
  fa1 (s_iload_n (kf := 3) (j := 3) (by decide +kernel) rfl) <|
  fa1 (s_vcallI (n := 1) (ci := 8) (C := RX8) (T := TX8) (NF := 2) (idx := 143) (y := yX8_at) (by decide +kernel) (gg_X8_at) rfl (by decide) yv_X8_at (all5 w_759 w_667 w_668 w_102 w_669) rfl rfl ⟨by decide, by decide⟩) <|
  fa1 (s_iret (by decide +kernel) rfl) <| fa0
theorem gg_X11_sign {G : Wp} {l : Launch} : GoodM loC G l yX11_sign cX11_sign 5 (some .int) rm_X11_sign f_X11_sign := met_of kt_X11_sign (lkp_snd (ks_X11_sign G l)) (by decide +kernel) rfl (by decide)
noncomputable def k_X11_letterAt : List (Nat × Ins) := [
  (0, i_iload 1 2),
  (1, i_push 3 (.inl 10)),
  (3, i_cmplt 6 17),
  (6, i_iload 7 2),
  (7, i_push 9 (.inl 10)),
  (9, i_bin 10 (fun x y => wr (x - y))),
  (10, i_aload 11 1),
  (11, i_getI 14 8 1),
  (14, i_cmplt 17 19),
  (17, i_push 18 (.inl (-1))),
  (18, i_iret),
  (19, i_aload 20 1),
  (20, i_iload 21 2),
  (21, i_push 23 (.inl 10)),
  (23, i_bin 24 (fun x y => wr (x - y))),
  (24, i_callI 27 2 (rcv 8) f_X8_at),
  (27, i_iret)]
noncomputable def kc_X11_letterAt : Nat → Option Ins := lkp k_X11_letterAt
noncomputable def f_X11_letterAt : List AV → Mem → Option Rs := den 3 kc_X11_letterAt
abbrev rm_X11_letterAt : Room := { frames := 1, cells := 0, slots := 0, locals := 21 }
set_option maxRecDepth 100000 in
theorem kt_X11_letterAt : TriC kc_X11_letterAt := lkp_tri (fa1 (tri_iload 1 2) (fa1 (tri_push 3 (.inl 10)) (fa1 (tri_cmplt 6 17) (fa1 (tri_iload 7 2) (fa1 (tri_push 9 (.inl 10)) (fa1 (tri_bin 10 (fun x y => wr (x - y))) (fa1 (tri_aload 11 1) (fa1 (tri_getI 14 8 1) (fa1 (tri_cmplt 17 19) (fa1 (tri_push 18 (.inl (-1))) (fa1 (tri_iret) (fa1 (tri_aload 20 1) (fa1 (tri_iload 21 2) (fa1 (tri_push 23 (.inl 10)) (fa1 (tri_bin 24 (fun x y => wr (x - y))) (fa1 (tri_callI 27 2 (rcv 8) f_X8_at) (fa1 (tri_iret) (fa0))))))))))))))))))
set_option maxRecDepth 100000 in
set_option maxHeartbeats 4000000 in
theorem ks_X11_letterAt (G : Wp) (l : Launch) : ∀ e ∈ k_X11_letterAt, Snd loC G l RX11 cX11_letterAt 3 (some .int) rm_X11_letterAt e.1 e.2 :=
  fa1 (s_iload_n (kf := 2) (j := 2) (by decide +kernel) rfl) <|
  fa1 (s_bipush (n := 10) (v := 10) (by decide +kernel) (by decide +kernel) (p32 rfl)) <|
  fa1 (s_cmplt (off := 14) (by decide +kernel) (by decide)) <|
  fa1 (s_iload_n (kf := 2) (j := 2) (by decide +kernel) rfl) <|
  fa1 (s_bipush (n := 10) (v := 10) (by decide +kernel) (by decide +kernel) (p32 rfl)) <|
  fa1 (s_isub (by decide +kernel)) <|
  fa1 (s_aload_n (kf := 1) (j := 1) (by decide +kernel) rfl) <|
  fa1 (s_getI (ci := 8) (f := 1) (idx := 117) (C := RX8) (T := TX8) (NF := 2) (by decide +kernel) rfl (by decide) inG_X8 (by decide) w_146 li_X8_1) <|
  fa1 (s_cmplt (off := 5) (by decide +kernel) (by decide)) <|
  fa1 (s_iconst (n := -1) (v := -1) (by decide +kernel) (by decide +kernel) (p32 rfl)) <|
  fa1 (s_iret (by decide +kernel) rfl) <|
  fa1 (s_aload_n (kf := 1) (j := 1) (by decide +kernel) rfl) <|
  fa1 (s_iload_n (kf := 2) (j := 2) (by decide +kernel) rfl) <|
  fa1 (s_bipush (n := 10) (v := 10) (by decide +kernel) (by decide +kernel) (p32 rfl)) <|
  fa1 (s_isub (by decide +kernel)) <|
  fa1 (s_vcallI (n := 1) (ci := 8) (C := RX8) (T := TX8) (NF := 2) (idx := 143) (y := yX8_at) (by decide +kernel) (gg_X8_at) rfl (by decide) yv_X8_at (all5 w_759 w_667 w_668 w_102 w_669) rfl rfl ⟨by decide, by decide⟩) <|
  fa1 (s_iret (by decide +kernel) rfl) <| fa0
theorem gg_X11_letterAt {G : Wp} {l : Launch} : GoodM loC G l yX11_letterAt cX11_letterAt 3 (some .int) rm_X11_letterAt f_X11_letterAt := met_of kt_X11_letterAt (lkp_snd (ks_X11_letterAt G l)) (by decide +kernel) rfl (by decide)
noncomputable def k_X11_word : List (Nat × Ins) := [
  (0, i_aload 1 0),
  (1, i_getR 4 11 9 (fun _ => 1)),
  (4, i_iload 5 1),
  (5, i_callR 8 2 8 (rcv 9) f_X9_meaningOf),
  (8, i_astore 9 3),
  (9, i_aload 10 3),
  (10, i_ifnonnull 13 15),
  (13, i_push 14 (.inl (-1))),
  (14, i_iret),
  (15, i_iload 16 2),
  (16, i_switch 80 (0) [48, 57, 66, 71]),
  (48, i_aload 49 0),
  (49, i_getR 52 11 9 (fun _ => 1)),
  (52, i_iload 53 1),
  (53, i_callI 56 2 (rcv 9) f_X9_letterOf),
  (56, i_iret),
  (57, i_aload 58 0),
  (58, i_getR 61 11 9 (fun _ => 1)),
  (61, i_iload 62 1),
  (62, i_callI 65 2 (rcv 9) f_X9_needOf),
  (65, i_iret),
  (66, i_aload 67 3),
  (67, i_getI 70 8 1),
  (70, i_iret),
  (71, i_aload 72 0),
  (72, i_getR 75 11 3 (fun _ => 23)),
  (75, i_iload 76 1),
  (76, i_callI 79 2 (rcv 3) f_X3_shownPutting),
  (79, i_iret),
  (80, i_aload 81 0),
  (81, i_aload 82 3),
  (82, i_iload 83 2),
  (83, i_callI 86 3 (rcv 11) f_X11_letterAt),
  (86, i_iret)]
noncomputable def kc_X11_word : Nat → Option Ins := lkp k_X11_word
noncomputable def f_X11_word : List AV → Mem → Option Rs := den 4 kc_X11_word
abbrev rm_X11_word : Room := { frames := 2, cells := 0, slots := 0, locals := 43 }
set_option maxRecDepth 100000 in
theorem kt_X11_word : TriC kc_X11_word := lkp_tri (fa1 (tri_aload 1 0) (fa1 (tri_getR 4 11 9 (fun _ => 1)) (fa1 (tri_iload 5 1) (fa1 (tri_callR 8 2 8 (rcv 9) f_X9_meaningOf) (fa1 (tri_astore 9 3) (fa1 (tri_aload 10 3) (fa1 (tri_ifnonnull 13 15) (fa1 (tri_push 14 (.inl (-1))) (fa1 (tri_iret) (fa1 (tri_iload 16 2) (fa1 (tri_switch 80 (0) [48, 57, 66, 71]) (fa1 (tri_aload 49 0) (fa1 (tri_getR 52 11 9 (fun _ => 1)) (fa1 (tri_iload 53 1) (fa1 (tri_callI 56 2 (rcv 9) f_X9_letterOf) (fa1 (tri_iret) (fa1 (tri_aload 58 0) (fa1 (tri_getR 61 11 9 (fun _ => 1)) (fa1 (tri_iload 62 1) (fa1 (tri_callI 65 2 (rcv 9) f_X9_needOf) (fa1 (tri_iret) (fa1 (tri_aload 67 3) (fa1 (tri_getI 70 8 1) (fa1 (tri_iret) (fa1 (tri_aload 72 0) (fa1 (tri_getR 75 11 3 (fun _ => 23)) (fa1 (tri_iload 76 1) (fa1 (tri_callI 79 2 (rcv 3) f_X3_shownPutting) (fa1 (tri_iret) (fa1 (tri_aload 81 0) (fa1 (tri_aload 82 3) (fa1 (tri_iload 83 2) (fa1 (tri_callI 86 3 (rcv 11) f_X11_letterAt) (fa1 (tri_iret) (fa0)))))))))))))))))))))))))))))))))))
set_option maxRecDepth 100000 in
set_option maxHeartbeats 4000000 in
theorem ks_X11_word (G : Wp) (l : Launch) : ∀ e ∈ k_X11_word, Snd loC G l RX11 cX11_word 4 (some .int) rm_X11_word e.1 e.2 :=
  fa1 (s_aload_n (kf := 0) (j := 0) (by decide +kernel) rfl) <|
  fa1 (s_getR (t2 := 9) (g := (fun _ => 1)) (ci := 11) (f := 0) (idx := 10) (C := RX11) (T := TX11) (NF := 11) (by decide +kernel) rfl (by decide) inG_X11 (by decide) w_558 lr_X11_0 (by decide)) <|
  fa1 (s_iload_n (kf := 1) (j := 1) (by decide +kernel) rfl) <|
  fa1 (s_vcallR (t := 8) (n := 1) (ci := 9) (C := RX9) (T := TX9) (NF := 6) (idx := 146) (y := yX9_meaningOf) (by decide +kernel) (gg_X9_meaningOf) rfl (by decide) yv_X9_meaningOf (all5 w_764 w_765 w_766 w_101 w_767) rfl rfl ⟨by decide, by decide⟩) <|
  fa1 (s_astore_n (kf := 3) (j := 3) (by decide +kernel) rfl (by decide)) <|
  fa1 (s_aload_n (kf := 3) (j := 3) (by decide +kernel) rfl) <|
  fa1 (s_ifnonnull (off := 5) (by decide +kernel) (by decide)) <|
  fa1 (s_iconst (n := -1) (v := -1) (by decide +kernel) (by decide +kernel) (p32 rfl)) <|
  fa1 (s_iret (by decide +kernel) rfl) <|
  fa1 (s_iload_n (kf := 2) (j := 2) (by decide +kernel) rfl) <|
  fa1 (s_switch (dflt := 64) (lo := 0) (hhi := 3) (offs := #[32, 41, 50, 55]) (len := 32) (by decide +kernel) (by decide) (by decide +kernel) (by decide)) <|
  fa1 (s_aload_n (kf := 0) (j := 0) (by decide +kernel) rfl) <|
  fa1 (s_getR (t2 := 9) (g := (fun _ => 1)) (ci := 11) (f := 0) (idx := 10) (C := RX11) (T := TX11) (NF := 11) (by decide +kernel) rfl (by decide) inG_X11 (by decide) w_558 lr_X11_0 (by decide)) <|
  fa1 (s_iload_n (kf := 1) (j := 1) (by decide +kernel) rfl) <|
  fa1 (s_vcallI (n := 1) (ci := 9) (C := RX9) (T := TX9) (NF := 6) (idx := 150) (y := yX9_letterOf) (by decide +kernel) (gg_X9_letterOf) rfl (by decide) yv_X9_letterOf (all5 w_768 w_769 w_770 w_101 w_771) rfl rfl ⟨by decide, by decide⟩) <|
  fa1 (s_iret (by decide +kernel) rfl) <|
  fa1 (s_aload_n (kf := 0) (j := 0) (by decide +kernel) rfl) <|
  fa1 (s_getR (t2 := 9) (g := (fun _ => 1)) (ci := 11) (f := 0) (idx := 10) (C := RX11) (T := TX11) (NF := 11) (by decide +kernel) rfl (by decide) inG_X11 (by decide) w_558 lr_X11_0 (by decide)) <|
  fa1 (s_iload_n (kf := 1) (j := 1) (by decide +kernel) rfl) <|
  fa1 (s_vcallI (n := 1) (ci := 9) (C := RX9) (T := TX9) (NF := 6) (idx := 153) (y := yX9_needOf) (by decide +kernel) (gg_X9_needOf) rfl (by decide) yv_X9_needOf (all5 w_772 w_773 w_774 w_101 w_775) rfl rfl ⟨by decide, by decide⟩) <|
  fa1 (s_iret (by decide +kernel) rfl) <|
  fa1 (s_aload_n (kf := 3) (j := 3) (by decide +kernel) rfl) <|
  fa1 (s_getI (ci := 8) (f := 1) (idx := 117) (C := RX8) (T := TX8) (NF := 2) (by decide +kernel) rfl (by decide) inG_X8 (by decide) w_146 li_X8_1) <|
  fa1 (s_iret (by decide +kernel) rfl) <|
  fa1 (s_aload_n (kf := 0) (j := 0) (by decide +kernel) rfl) <|
  fa1 (s_getR (t2 := 3) (g := (fun _ => 23)) (ci := 11) (f := 1) (idx := 19) (C := RX11) (T := TX11) (NF := 11) (by decide +kernel) rfl (by decide) inG_X11 (by decide) w_559 lr_X11_1 (by decide)) <|
  fa1 (s_iload_n (kf := 1) (j := 1) (by decide +kernel) rfl) <|
  fa1 (s_vcallI (n := 1) (ci := 3) (C := RX3) (T := TX3) (NF := 11) (idx := 156) (y := yX3_shownPutting) (by decide +kernel) (gg_X3_shownPutting) rfl (by decide) yv_X3_shownPutting (all5 w_776 w_777 w_778 w_104 w_779) rfl rfl ⟨by decide, by decide⟩) <|
  fa1 (s_iret (by decide +kernel) rfl) <|
  fa1 (s_aload_n (kf := 0) (j := 0) (by decide +kernel) rfl) <|
  fa1 (s_aload_n (kf := 3) (j := 3) (by decide +kernel) rfl) <|
  fa1 (s_iload_n (kf := 2) (j := 2) (by decide +kernel) rfl) <|
  fa1 (s_vcallI (n := 2) (ci := 11) (C := RX11) (T := TX11) (NF := 11) (idx := 159) (y := yX11_letterAt) (by decide +kernel) (gg_X11_letterAt) rfl (by decide) yv_X11_letterAt (all5 w_780 w_782 w_12 w_100 w_783) rfl rfl ⟨by decide, by decide⟩) <|
  fa1 (s_iret (by decide +kernel) rfl) <| fa0
theorem gg_X11_word {G : Wp} {l : Launch} : GoodM loC G l yX11_word cX11_word 4 (some .int) rm_X11_word f_X11_word := met_of kt_X11_word (lkp_snd (ks_X11_word G l)) (by decide +kernel) rfl (by decide)
noncomputable def k_X11_as : List (Nat × Ins) := [
  (0, i_aload 1 0),
  (1, i_getR 4 11 3 (fun _ => 23)),
  (4, i_iload 5 1),
  (5, i_callR 8 2 2 (rcv 3) f_X3_get),
  (8, i_ifnull 11 22),
  (11, i_iload 12 2),
  (12, i_iflt 15 22),
  (15, i_iload 16 2),
  (16, i_push 19 (.inl 999)),
  (19, i_cmple 22 24),
  (22, i_push 23 (.inl (-1))),
  (23, i_iret),
  (24, i_aload 25 0),
  (25, i_getR 28 11 3 (fun _ => 23)),
  (28, i_iload 29 1),
  (29, i_iload 30 2),
  (30, i_callI 33 3 (rcv 3) f_X3_stateOn),
  (33, i_iret)]
noncomputable def kc_X11_as : Nat → Option Ins := lkp k_X11_as
noncomputable def f_X11_as : List AV → Mem → Option Rs := den 3 kc_X11_as
abbrev rm_X11_as : Room := { frames := 2, cells := 0, slots := 0, locals := 46 }
set_option maxRecDepth 100000 in
theorem kt_X11_as : TriC kc_X11_as := lkp_tri (fa1 (tri_aload 1 0) (fa1 (tri_getR 4 11 3 (fun _ => 23)) (fa1 (tri_iload 5 1) (fa1 (tri_callR 8 2 2 (rcv 3) f_X3_get) (fa1 (tri_ifnull 11 22) (fa1 (tri_iload 12 2) (fa1 (tri_iflt 15 22) (fa1 (tri_iload 16 2) (fa1 (tri_push 19 (.inl 999)) (fa1 (tri_cmple 22 24) (fa1 (tri_push 23 (.inl (-1))) (fa1 (tri_iret) (fa1 (tri_aload 25 0) (fa1 (tri_getR 28 11 3 (fun _ => 23)) (fa1 (tri_iload 29 1) (fa1 (tri_iload 30 2) (fa1 (tri_callI 33 3 (rcv 3) f_X3_stateOn) (fa1 (tri_iret) (fa0)))))))))))))))))))
set_option maxRecDepth 100000 in
set_option maxHeartbeats 4000000 in
theorem ks_X11_as (G : Wp) (l : Launch) : ∀ e ∈ k_X11_as, Snd loC G l RX11 cX11_as 3 (some .int) rm_X11_as e.1 e.2 :=
  fa1 (s_aload_n (kf := 0) (j := 0) (by decide +kernel) rfl) <|
  fa1 (s_getR (t2 := 3) (g := (fun _ => 23)) (ci := 11) (f := 1) (idx := 19) (C := RX11) (T := TX11) (NF := 11) (by decide +kernel) rfl (by decide) inG_X11 (by decide) w_559 lr_X11_1 (by decide)) <|
  fa1 (s_iload_n (kf := 1) (j := 1) (by decide +kernel) rfl) <|
  fa1 (s_vcallR (t := 2) (n := 1) (ci := 3) (C := RX3) (T := TX3) (NF := 11) (idx := 98) (y := yX3_get) (by decide +kernel) (gg_X3_get) rfl (by decide) yv_X3_get (all5 w_735 w_736 w_737 w_104 w_738) rfl rfl ⟨by decide, by decide⟩) <|
  fa1 (s_ifnull (off := 14) (by decide +kernel) (by decide)) <|
  fa1 (s_iload_n (kf := 2) (j := 2) (by decide +kernel) rfl) <|
  fa1 (s_iflt (off := 10) (by decide +kernel) (by decide)) <|
  fa1 (s_iload_n (kf := 2) (j := 2) (by decide +kernel) rfl) <|
  fa1 (s_sipush (n := 999) (v := 999) (by decide +kernel) (by decide +kernel) (p32 rfl)) <|
  fa1 (s_cmple (off := 5) (by decide +kernel) (by decide)) <|
  fa1 (s_iconst (n := -1) (v := -1) (by decide +kernel) (by decide +kernel) (p32 rfl)) <|
  fa1 (s_iret (by decide +kernel) rfl) <|
  fa1 (s_aload_n (kf := 0) (j := 0) (by decide +kernel) rfl) <|
  fa1 (s_getR (t2 := 3) (g := (fun _ => 23)) (ci := 11) (f := 1) (idx := 19) (C := RX11) (T := TX11) (NF := 11) (by decide +kernel) rfl (by decide) inG_X11 (by decide) w_559 lr_X11_1 (by decide)) <|
  fa1 (s_iload_n (kf := 1) (j := 1) (by decide +kernel) rfl) <|
  fa1 (s_iload_n (kf := 2) (j := 2) (by decide +kernel) rfl) <|
  fa1 (s_vcallI (n := 2) (ci := 3) (C := RX3) (T := TX3) (NF := 11) (idx := 163) (y := yX3_stateOn) (by decide +kernel) (gg_X3_stateOn) rfl (by decide) yv_X3_stateOn (all5 w_788 w_789 w_790 w_104 w_791) rfl rfl ⟨by decide, by decide⟩) <|
  fa1 (s_iret (by decide +kernel) rfl) <| fa0
theorem gg_X11_as {G : Wp} {l : Launch} : GoodM loC G l yX11_as cX11_as 3 (some .int) rm_X11_as f_X11_as := met_of kt_X11_as (lkp_snd (ks_X11_as G l)) (by decide +kernel) rfl (by decide)
noncomputable def k_X11_prove : List (Nat × Ins) := [
  (0, i_aload 1 0),
  (1, i_getR 4 11 3 (fun _ => 23)),
  (4, i_iload 5 1),
  (5, i_callR 8 2 2 (rcv 3) f_X3_get),
  (8, i_astore 9 2),
  (9, i_aload 10 2),
  (10, i_ifnonnull 13 15),
  (13, i_push 14 (.inl (-1))),
  (14, i_iret),
  (15, i_aload 16 2),
  (16, i_callI 19 1 (rcv 2) f_X2_isOpen),
  (19, i_ifne 22 25),
  (22, i_push 24 (.inl (-2))),
  (24, i_iret),
  (25, i_aload 26 0),
  (26, i_getR 29 11 1 (fun _ => 163)),
  (29, i_iload 30 1),
  (30, i_callV 33 2 (rcv 1) f_X1_begin),
  (33, i_aload 34 0),
  (34, i_getR 37 11 1 (fun _ => 163)),
  (37, i_callR 40 1 8 (rcv 1) f_X1_now),
  (40, i_getI 43 8 1),
  (43, i_iret)]
noncomputable def kc_X11_prove : Nat → Option Ins := lkp k_X11_prove
noncomputable def f_X11_prove : List AV → Mem → Option Rs := den 3 kc_X11_prove
abbrev rm_X11_prove : Room := { frames := 3, cells := 0, slots := 0, locals := 67 }
set_option maxRecDepth 100000 in
theorem kt_X11_prove : TriC kc_X11_prove := lkp_tri (fa1 (tri_aload 1 0) (fa1 (tri_getR 4 11 3 (fun _ => 23)) (fa1 (tri_iload 5 1) (fa1 (tri_callR 8 2 2 (rcv 3) f_X3_get) (fa1 (tri_astore 9 2) (fa1 (tri_aload 10 2) (fa1 (tri_ifnonnull 13 15) (fa1 (tri_push 14 (.inl (-1))) (fa1 (tri_iret) (fa1 (tri_aload 16 2) (fa1 (tri_callI 19 1 (rcv 2) f_X2_isOpen) (fa1 (tri_ifne 22 25) (fa1 (tri_push 24 (.inl (-2))) (fa1 (tri_iret) (fa1 (tri_aload 26 0) (fa1 (tri_getR 29 11 1 (fun _ => 163)) (fa1 (tri_iload 30 1) (fa1 (tri_callV 33 2 (rcv 1) f_X1_begin) (fa1 (tri_aload 34 0) (fa1 (tri_getR 37 11 1 (fun _ => 163)) (fa1 (tri_callR 40 1 8 (rcv 1) f_X1_now) (fa1 (tri_getI 43 8 1) (fa1 (tri_iret) (fa0))))))))))))))))))))))))
set_option maxRecDepth 100000 in
set_option maxHeartbeats 4000000 in
theorem ks_X11_prove (G : Wp) (l : Launch) : ∀ e ∈ k_X11_prove, Snd loC G l RX11 cX11_prove 3 (some .int) rm_X11_prove e.1 e.2 :=
  fa1 (s_aload_n (kf := 0) (j := 0) (by decide +kernel) rfl) <|
  fa1 (s_getR (t2 := 3) (g := (fun _ => 23)) (ci := 11) (f := 1) (idx := 19) (C := RX11) (T := TX11) (NF := 11) (by decide +kernel) rfl (by decide) inG_X11 (by decide) w_559 lr_X11_1 (by decide)) <|
  fa1 (s_iload_n (kf := 1) (j := 1) (by decide +kernel) rfl) <|
  fa1 (s_vcallR (t := 2) (n := 1) (ci := 3) (C := RX3) (T := TX3) (NF := 11) (idx := 98) (y := yX3_get) (by decide +kernel) (gg_X3_get) rfl (by decide) yv_X3_get (all5 w_735 w_736 w_737 w_104 w_738) rfl rfl ⟨by decide, by decide⟩) <|
  fa1 (s_astore_n (kf := 2) (j := 2) (by decide +kernel) rfl (by decide)) <|
  fa1 (s_aload_n (kf := 2) (j := 2) (by decide +kernel) rfl) <|
  fa1 (s_ifnonnull (off := 5) (by decide +kernel) (by decide)) <|
  fa1 (s_iconst (n := -1) (v := -1) (by decide +kernel) (by decide +kernel) (p32 rfl)) <|
  fa1 (s_iret (by decide +kernel) rfl) <|
  fa1 (s_aload_n (kf := 2) (j := 2) (by decide +kernel) rfl) <|
  fa1 (s_vcallI (n := 0) (ci := 2) (C := RX2) (T := TX2) (NF := 11) (idx := 166) (y := yX2_isOpen) (by decide +kernel) (gg_X2_isOpen) rfl (by decide) yv_X2_isOpen (all5 w_796 w_797 w_798 w_105 w_799) rfl rfl ⟨by decide, by decide⟩) <|
  fa1 (s_ifne (off := 6) (by decide +kernel) (by decide)) <|
  fa1 (s_bipush (n := -2) (v := -2) (by decide +kernel) (by decide +kernel) (p32 rfl)) <|
  fa1 (s_iret (by decide +kernel) rfl) <|
  fa1 (s_aload_n (kf := 0) (j := 0) (by decide +kernel) rfl) <|
  fa1 (s_getR (t2 := 1) (g := (fun _ => 163)) (ci := 11) (f := 3) (idx := 40) (C := RX11) (T := TX11) (NF := 11) (by decide +kernel) rfl (by decide) inG_X11 (by decide) w_561 lr_X11_3 (by decide)) <|
  fa1 (s_iload_n (kf := 1) (j := 1) (by decide +kernel) rfl) <|
  fa1 (s_vcallV (n := 1) (ci := 1) (C := RX1) (T := TX1) (NF := 9) (idx := 170) (y := yX1_begin) (by decide +kernel) (gg_X1_begin) rfl (by decide) yv_X1_begin (all5 w_800 w_801 w_802 w_108 w_803) rfl rfl ⟨by decide, by decide⟩) <|
  fa1 (s_aload_n (kf := 0) (j := 0) (by decide +kernel) rfl) <|
  fa1 (s_getR (t2 := 1) (g := (fun _ => 163)) (ci := 11) (f := 3) (idx := 40) (C := RX11) (T := TX11) (NF := 11) (by decide +kernel) rfl (by decide) inG_X11 (by decide) w_561 lr_X11_3 (by decide)) <|
  fa1 (s_vcallR (t := 8) (n := 0) (ci := 1) (C := RX1) (T := TX1) (NF := 9) (idx := 174) (y := yX1_now) (by decide +kernel) (gg_X1_now) rfl (by decide) yv_X1_now (all5 w_806 w_807 w_808 w_108 w_809) rfl rfl ⟨by decide, by decide⟩) <|
  fa1 (s_getI (ci := 8) (f := 1) (idx := 117) (C := RX8) (T := TX8) (NF := 2) (by decide +kernel) rfl (by decide) inG_X8 (by decide) w_146 li_X8_1) <|
  fa1 (s_iret (by decide +kernel) rfl) <| fa0
theorem gg_X11_prove {G : Wp} {l : Launch} : GoodM loC G l yX11_prove cX11_prove 3 (some .int) rm_X11_prove f_X11_prove := met_of kt_X11_prove (lkp_snd (ks_X11_prove G l)) (by decide +kernel) rfl (by decide)
noncomputable def k_X11_step : List (Nat × Ins) := [
  (0, i_iload 1 1),
  (1, i_iflt 4 9),
  (4, i_iload 5 1),
  (5, i_push 6 (.inl 3)),
  (6, i_cmple 9 11),
  (9, i_push 10 (.inl (-1))),
  (10, i_iret),
  (11, i_aload 12 0),
  (12, i_getR 15 11 1 (fun _ => 163)),
  (15, i_callI 18 1 (rcv 1) f_X1_isDropped),
  (18, i_ifeq 21 26),
  (21, i_push 23 (.inl (-2))),
  (23, i_goto 36),
  (26, i_aload 27 0),
  (27, i_getR 30 11 1 (fun _ => 163)),
  (30, i_iload 31 1),
  (31, i_iload 32 2),
  (32, i_iload 33 3),
  (33, i_callI 36 4 (rcv 1) f_X1_go),
  (36, i_iret)]
noncomputable def kc_X11_step : Nat → Option Ins := lkp k_X11_step
noncomputable def f_X11_step : List AV → Mem → Option Rs := den 4 kc_X11_step
abbrev rm_X11_step : Room := { frames := 4, cells := 0, slots := 0, locals := 105 }
set_option maxRecDepth 100000 in
theorem kt_X11_step : TriC kc_X11_step := lkp_tri (fa1 (tri_iload 1 1) (fa1 (tri_iflt 4 9) (fa1 (tri_iload 5 1) (fa1 (tri_push 6 (.inl 3)) (fa1 (tri_cmple 9 11) (fa1 (tri_push 10 (.inl (-1))) (fa1 (tri_iret) (fa1 (tri_aload 12 0) (fa1 (tri_getR 15 11 1 (fun _ => 163)) (fa1 (tri_callI 18 1 (rcv 1) f_X1_isDropped) (fa1 (tri_ifeq 21 26) (fa1 (tri_push 23 (.inl (-2))) (fa1 (tri_goto 36) (fa1 (tri_aload 27 0) (fa1 (tri_getR 30 11 1 (fun _ => 163)) (fa1 (tri_iload 31 1) (fa1 (tri_iload 32 2) (fa1 (tri_iload 33 3) (fa1 (tri_callI 36 4 (rcv 1) f_X1_go) (fa1 (tri_iret) (fa0)))))))))))))))))))))
set_option maxRecDepth 100000 in
set_option maxHeartbeats 4000000 in
theorem ks_X11_step (G : Wp) (l : Launch) : ∀ e ∈ k_X11_step, Snd loC G l RX11 cX11_step 4 (some .int) rm_X11_step e.1 e.2 :=
  fa1 (s_iload_n (kf := 1) (j := 1) (by decide +kernel) rfl) <|
  fa1 (s_iflt (off := 8) (by decide +kernel) (by decide)) <|
  fa1 (s_iload_n (kf := 1) (j := 1) (by decide +kernel) rfl) <|
  fa1 (s_iconst (n := 3) (v := 3) (by decide +kernel) (by decide +kernel) (p32 rfl)) <|
  fa1 (s_cmple (off := 5) (by decide +kernel) (by decide)) <|
  fa1 (s_iconst (n := -1) (v := -1) (by decide +kernel) (by decide +kernel) (p32 rfl)) <|
  fa1 (s_iret (by decide +kernel) rfl) <|
  fa1 (s_aload_n (kf := 0) (j := 0) (by decide +kernel) rfl) <|
  fa1 (s_getR (t2 := 1) (g := (fun _ => 163)) (ci := 11) (f := 3) (idx := 40) (C := RX11) (T := TX11) (NF := 11) (by decide +kernel) rfl (by decide) inG_X11 (by decide) w_561 lr_X11_3 (by decide)) <|
  fa1 (s_vcallI (n := 0) (ci := 1) (C := RX1) (T := TX1) (NF := 9) (idx := 178) (y := yX1_isDropped) (by decide +kernel) (gg_X1_isDropped) rfl (by decide) yv_X1_isDropped (all5 w_814 w_815 w_816 w_108 w_817) rfl rfl ⟨by decide, by decide⟩) <|
  fa1 (s_ifeq (off := 8) (by decide +kernel) (by decide)) <|
  fa1 (s_bipush (n := -2) (v := -2) (by decide +kernel) (by decide +kernel) (p32 rfl)) <|
  fa1 (s_goto (off := 13) (by decide +kernel) (by decide)) <|
  fa1 (s_aload_n (kf := 0) (j := 0) (by decide +kernel) rfl) <|
  fa1 (s_getR (t2 := 1) (g := (fun _ => 163)) (ci := 11) (f := 3) (idx := 40) (C := RX11) (T := TX11) (NF := 11) (by decide +kernel) rfl (by decide) inG_X11 (by decide) w_561 lr_X11_3 (by decide)) <|
  fa1 (s_iload_n (kf := 1) (j := 1) (by decide +kernel) rfl) <|
  fa1 (s_iload_n (kf := 2) (j := 2) (by decide +kernel) rfl) <|
  fa1 (s_iload_n (kf := 3) (j := 3) (by decide +kernel) rfl) <|
  fa1 (s_vcallI (n := 3) (ci := 1) (C := RX1) (T := TX1) (NF := 9) (idx := 181) (y := yX1_go) (by decide +kernel) (gg_X1_go) rfl (by decide) yv_X1_go (all5 w_818 w_819 w_820 w_108 w_821) rfl rfl ⟨by decide, by decide⟩) <|
  fa1 (s_iret (by decide +kernel) rfl) <| fa0
theorem gg_X11_step {G : Wp} {l : Launch} : GoodM loC G l yX11_step cX11_step 4 (some .int) rm_X11_step f_X11_step := met_of kt_X11_step (lkp_snd (ks_X11_step G l)) (by decide +kernel) rfl (by decide)
noncomputable def k_X11_undo : List (Nat × Ins) := [
  (0, i_aload 1 0),
  (1, i_getR 4 11 1 (fun _ => 163)),
  (4, i_callI 7 1 (rcv 1) f_X1_goBack),
  (7, i_iret)]
noncomputable def kc_X11_undo : Nat → Option Ins := lkp k_X11_undo
noncomputable def f_X11_undo : List AV → Mem → Option Rs := den 1 kc_X11_undo
abbrev rm_X11_undo : Room := { frames := 1, cells := 0, slots := 0, locals := 20 }
set_option maxRecDepth 100000 in
theorem kt_X11_undo : TriC kc_X11_undo := lkp_tri (fa1 (tri_aload 1 0) (fa1 (tri_getR 4 11 1 (fun _ => 163)) (fa1 (tri_callI 7 1 (rcv 1) f_X1_goBack) (fa1 (tri_iret) (fa0)))))
set_option maxRecDepth 100000 in
set_option maxHeartbeats 4000000 in
theorem ks_X11_undo (G : Wp) (l : Launch) : ∀ e ∈ k_X11_undo, Snd loC G l RX11 cX11_undo 1 (some .int) rm_X11_undo e.1 e.2 :=
  fa1 (s_aload_n (kf := 0) (j := 0) (by decide +kernel) rfl) <|
  fa1 (s_getR (t2 := 1) (g := (fun _ => 163)) (ci := 11) (f := 3) (idx := 40) (C := RX11) (T := TX11) (NF := 11) (by decide +kernel) rfl (by decide) inG_X11 (by decide) w_561 lr_X11_3 (by decide)) <|
  fa1 (s_vcallI (n := 0) (ci := 1) (C := RX1) (T := TX1) (NF := 9) (idx := 185) (y := yX1_goBack) (by decide +kernel) (gg_X1_goBack) rfl (by decide) yv_X1_goBack (all5 w_866 w_867 w_868 w_108 w_869) rfl rfl ⟨by decide, by decide⟩) <|
  fa1 (s_iret (by decide +kernel) rfl) <| fa0
theorem gg_X11_undo {G : Wp} {l : Launch} : GoodM loC G l yX11_undo cX11_undo 1 (some .int) rm_X11_undo f_X11_undo := met_of kt_X11_undo (lkp_snd (ks_X11_undo G l)) (by decide +kernel) rfl (by decide)
noncomputable def k_X11_proof : List (Nat × Ins) := [
  (0, i_iload 1 1),
  (1, i_push 3 (.inl 10)),
  (3, i_cmplt 6 29),
  (6, i_aload 7 0),
  (7, i_getR 10 11 1 (fun _ => 163)),
  (10, i_callI 13 1 (rcv 1) f_X1_isDropped),
  (13, i_ifne 16 29),
  (16, i_aload 17 0),
  (17, i_aload 18 0),
  (18, i_getR 21 11 1 (fun _ => 163)),
  (21, i_callR 24 1 8 (rcv 1) f_X1_now),
  (24, i_iload 25 1),
  (25, i_callI 28 3 (rcv 11) f_X11_letterAt),
  (28, i_iret),
  (29, i_iload 30 1),
  (30, i_iflt 33 38),
  (33, i_iload 34 1),
  (34, i_push 35 (.inl 3)),
  (35, i_cmple 38 40),
  (38, i_push 39 (.inl (-1))),
  (39, i_iret),
  (40, i_aload 41 0),
  (41, i_getR 44 11 1 (fun _ => 163)),
  (44, i_callI 47 1 (rcv 1) f_X1_isDropped),
  (47, i_ifeq 50 53),
  (50, i_push 52 (.inl (-2))),
  (52, i_iret),
  (53, i_iload 54 1),
  (54, i_switch 107 (0) [80, 88, 96]),
  (80, i_aload 81 0),
  (81, i_getR 84 11 1 (fun _ => 163)),
  (84, i_getI 87 1 7),
  (87, i_iret),
  (88, i_aload 89 0),
  (89, i_getR 92 11 1 (fun _ => 163)),
  (92, i_getI 95 1 8),
  (95, i_iret),
  (96, i_aload 97 0),
  (97, i_getR 100 11 1 (fun _ => 163)),
  (100, i_callR 103 1 8 (rcv 1) f_X1_now),
  (103, i_getI 106 8 1),
  (106, i_iret),
  (107, i_aload 108 0),
  (108, i_getR 111 11 1 (fun _ => 163)),
  (111, i_callI 114 1 (rcv 1) f_X1_arrived),
  (114, i_ifeq 117 121),
  (117, i_push 118 (.inl 1)),
  (118, i_goto 122),
  (121, i_push 122 (.inl 0)),
  (122, i_iret)]
noncomputable def kc_X11_proof : Nat → Option Ins := lkp k_X11_proof
noncomputable def f_X11_proof : List AV → Mem → Option Rs := den 2 kc_X11_proof
abbrev rm_X11_proof : Room := { frames := 3, cells := 0, slots := 0, locals := 67 }
set_option maxRecDepth 100000 in
theorem kt_X11_proof : TriC kc_X11_proof := lkp_tri (fa1 (tri_iload 1 1) (fa1 (tri_push 3 (.inl 10)) (fa1 (tri_cmplt 6 29) (fa1 (tri_aload 7 0) (fa1 (tri_getR 10 11 1 (fun _ => 163)) (fa1 (tri_callI 13 1 (rcv 1) f_X1_isDropped) (fa1 (tri_ifne 16 29) (fa1 (tri_aload 17 0) (fa1 (tri_aload 18 0) (fa1 (tri_getR 21 11 1 (fun _ => 163)) (fa1 (tri_callR 24 1 8 (rcv 1) f_X1_now) (fa1 (tri_iload 25 1) (fa1 (tri_callI 28 3 (rcv 11) f_X11_letterAt) (fa1 (tri_iret) (fa1 (tri_iload 30 1) (fa1 (tri_iflt 33 38) (fa1 (tri_iload 34 1) (fa1 (tri_push 35 (.inl 3)) (fa1 (tri_cmple 38 40) (fa1 (tri_push 39 (.inl (-1))) (fa1 (tri_iret) (fa1 (tri_aload 41 0) (fa1 (tri_getR 44 11 1 (fun _ => 163)) (fa1 (tri_callI 47 1 (rcv 1) f_X1_isDropped) (fa1 (tri_ifeq 50 53) (fa1 (tri_push 52 (.inl (-2))) (fa1 (tri_iret) (fa1 (tri_iload 54 1) (fa1 (tri_switch 107 (0) [80, 88, 96]) (fa1 (tri_aload 81 0) (fa1 (tri_getR 84 11 1 (fun _ => 163)) (fa1 (tri_getI 87 1 7) (fa1 (tri_iret) (fa1 (tri_aload 89 0) (fa1 (tri_getR 92 11 1 (fun _ => 163)) (fa1 (tri_getI 95 1 8) (fa1 (tri_iret) (fa1 (tri_aload 97 0) (fa1 (tri_getR 100 11 1 (fun _ => 163)) (fa1 (tri_callR 103 1 8 (rcv 1) f_X1_now) (fa1 (tri_getI 106 8 1) (fa1 (tri_iret) (fa1 (tri_aload 108 0) (fa1 (tri_getR 111 11 1 (fun _ => 163)) (fa1 (tri_callI 114 1 (rcv 1) f_X1_arrived) (fa1 (tri_ifeq 117 121) (fa1 (tri_push 118 (.inl 1)) (fa1 (tri_goto 122) (fa1 (tri_push 122 (.inl 0)) (fa1 (tri_iret) (fa0)))))))))))))))))))))))))))))))))))))))))))))))))))
set_option maxRecDepth 100000 in
set_option maxHeartbeats 4000000 in
theorem ks_X11_proof (G : Wp) (l : Launch) : ∀ e ∈ k_X11_proof, Snd loC G l RX11 cX11_proof 2 (some .int) rm_X11_proof e.1 e.2 :=
  fa1 (s_iload_n (kf := 1) (j := 1) (by decide +kernel) rfl) <|
  fa1 (s_bipush (n := 10) (v := 10) (by decide +kernel) (by decide +kernel) (p32 rfl)) <|
  fa1 (s_cmplt (off := 26) (by decide +kernel) (by decide)) <|
  fa1 (s_aload_n (kf := 0) (j := 0) (by decide +kernel) rfl) <|
  fa1 (s_getR (t2 := 1) (g := (fun _ => 163)) (ci := 11) (f := 3) (idx := 40) (C := RX11) (T := TX11) (NF := 11) (by decide +kernel) rfl (by decide) inG_X11 (by decide) w_561 lr_X11_3 (by decide)) <|
  fa1 (s_vcallI (n := 0) (ci := 1) (C := RX1) (T := TX1) (NF := 9) (idx := 178) (y := yX1_isDropped) (by decide +kernel) (gg_X1_isDropped) rfl (by decide) yv_X1_isDropped (all5 w_814 w_815 w_816 w_108 w_817) rfl rfl ⟨by decide, by decide⟩) <|
  fa1 (s_ifne (off := 16) (by decide +kernel) (by decide)) <|
  fa1 (s_aload_n (kf := 0) (j := 0) (by decide +kernel) rfl) <|
  fa1 (s_aload_n (kf := 0) (j := 0) (by decide +kernel) rfl) <|
  fa1 (s_getR (t2 := 1) (g := (fun _ => 163)) (ci := 11) (f := 3) (idx := 40) (C := RX11) (T := TX11) (NF := 11) (by decide +kernel) rfl (by decide) inG_X11 (by decide) w_561 lr_X11_3 (by decide)) <|
  fa1 (s_vcallR (t := 8) (n := 0) (ci := 1) (C := RX1) (T := TX1) (NF := 9) (idx := 174) (y := yX1_now) (by decide +kernel) (gg_X1_now) rfl (by decide) yv_X1_now (all5 w_806 w_807 w_808 w_108 w_809) rfl rfl ⟨by decide, by decide⟩) <|
  fa1 (s_iload_n (kf := 1) (j := 1) (by decide +kernel) rfl) <|
  fa1 (s_vcallI (n := 2) (ci := 11) (C := RX11) (T := TX11) (NF := 11) (idx := 159) (y := yX11_letterAt) (by decide +kernel) (gg_X11_letterAt) rfl (by decide) yv_X11_letterAt (all5 w_780 w_782 w_12 w_100 w_783) rfl rfl ⟨by decide, by decide⟩) <|
  fa1 (s_iret (by decide +kernel) rfl) <|
  fa1 (s_iload_n (kf := 1) (j := 1) (by decide +kernel) rfl) <|
  fa1 (s_iflt (off := 8) (by decide +kernel) (by decide)) <|
  fa1 (s_iload_n (kf := 1) (j := 1) (by decide +kernel) rfl) <|
  fa1 (s_iconst (n := 3) (v := 3) (by decide +kernel) (by decide +kernel) (p32 rfl)) <|
  fa1 (s_cmple (off := 5) (by decide +kernel) (by decide)) <|
  fa1 (s_iconst (n := -1) (v := -1) (by decide +kernel) (by decide +kernel) (p32 rfl)) <|
  fa1 (s_iret (by decide +kernel) rfl) <|
  fa1 (s_aload_n (kf := 0) (j := 0) (by decide +kernel) rfl) <|
  fa1 (s_getR (t2 := 1) (g := (fun _ => 163)) (ci := 11) (f := 3) (idx := 40) (C := RX11) (T := TX11) (NF := 11) (by decide +kernel) rfl (by decide) inG_X11 (by decide) w_561 lr_X11_3 (by decide)) <|
  fa1 (s_vcallI (n := 0) (ci := 1) (C := RX1) (T := TX1) (NF := 9) (idx := 178) (y := yX1_isDropped) (by decide +kernel) (gg_X1_isDropped) rfl (by decide) yv_X1_isDropped (all5 w_814 w_815 w_816 w_108 w_817) rfl rfl ⟨by decide, by decide⟩) <|
  fa1 (s_ifeq (off := 6) (by decide +kernel) (by decide)) <|
  fa1 (s_bipush (n := -2) (v := -2) (by decide +kernel) (by decide +kernel) (p32 rfl)) <|
  fa1 (s_iret (by decide +kernel) rfl) <|
  fa1 (s_iload_n (kf := 1) (j := 1) (by decide +kernel) rfl) <|
  fa1 (s_switch (dflt := 53) (lo := 0) (hhi := 2) (offs := #[26, 34, 42]) (len := 26) (by decide +kernel) (by decide) (by decide +kernel) (by decide)) <|
  fa1 (s_aload_n (kf := 0) (j := 0) (by decide +kernel) rfl) <|
  fa1 (s_getR (t2 := 1) (g := (fun _ => 163)) (ci := 11) (f := 3) (idx := 40) (C := RX11) (T := TX11) (NF := 11) (by decide +kernel) rfl (by decide) inG_X11 (by decide) w_561 lr_X11_3 (by decide)) <|
  fa1 (s_getI (ci := 1) (f := 7) (idx := 189) (C := RX1) (T := TX1) (NF := 9) (by decide +kernel) rfl (by decide) inG_X1 (by decide) w_379 li_X1_7) <|
  fa1 (s_iret (by decide +kernel) rfl) <|
  fa1 (s_aload_n (kf := 0) (j := 0) (by decide +kernel) rfl) <|
  fa1 (s_getR (t2 := 1) (g := (fun _ => 163)) (ci := 11) (f := 3) (idx := 40) (C := RX11) (T := TX11) (NF := 11) (by decide +kernel) rfl (by decide) inG_X11 (by decide) w_561 lr_X11_3 (by decide)) <|
  fa1 (s_getI (ci := 1) (f := 8) (idx := 192) (C := RX1) (T := TX1) (NF := 9) (by decide +kernel) rfl (by decide) inG_X1 (by decide) w_382 li_X1_8) <|
  fa1 (s_iret (by decide +kernel) rfl) <|
  fa1 (s_aload_n (kf := 0) (j := 0) (by decide +kernel) rfl) <|
  fa1 (s_getR (t2 := 1) (g := (fun _ => 163)) (ci := 11) (f := 3) (idx := 40) (C := RX11) (T := TX11) (NF := 11) (by decide +kernel) rfl (by decide) inG_X11 (by decide) w_561 lr_X11_3 (by decide)) <|
  fa1 (s_vcallR (t := 8) (n := 0) (ci := 1) (C := RX1) (T := TX1) (NF := 9) (idx := 174) (y := yX1_now) (by decide +kernel) (gg_X1_now) rfl (by decide) yv_X1_now (all5 w_806 w_807 w_808 w_108 w_809) rfl rfl ⟨by decide, by decide⟩) <|
  fa1 (s_getI (ci := 8) (f := 1) (idx := 117) (C := RX8) (T := TX8) (NF := 2) (by decide +kernel) rfl (by decide) inG_X8 (by decide) w_146 li_X8_1) <|
  fa1 (s_iret (by decide +kernel) rfl) <|
  fa1 (s_aload_n (kf := 0) (j := 0) (by decide +kernel) rfl) <|
  fa1 (s_getR (t2 := 1) (g := (fun _ => 163)) (ci := 11) (f := 3) (idx := 40) (C := RX11) (T := TX11) (NF := 11) (by decide +kernel) rfl (by decide) inG_X11 (by decide) w_561 lr_X11_3 (by decide)) <|
  fa1 (s_vcallI (n := 0) (ci := 1) (C := RX1) (T := TX1) (NF := 9) (idx := 193) (y := yX1_arrived) (by decide +kernel) (gg_X1_arrived) rfl (by decide) yv_X1_arrived (all5 w_874 w_875 w_876 w_108 w_877) rfl rfl ⟨by decide, by decide⟩) <|
  fa1 (s_ifeq (off := 7) (by decide +kernel) (by decide)) <|
  fa1 (s_iconst (n := 1) (v := 1) (by decide +kernel) (by decide +kernel) (p32 rfl)) <|
  fa1 (s_goto (off := 4) (by decide +kernel) (by decide)) <|
  fa1 (s_iconst (n := 0) (v := 0) (by decide +kernel) (by decide +kernel) (p32 rfl)) <|
  fa1 (s_iret (by decide +kernel) rfl) <| fa0
theorem gg_X11_proof {G : Wp} {l : Launch} : GoodM loC G l yX11_proof cX11_proof 2 (some .int) rm_X11_proof f_X11_proof := met_of kt_X11_proof (lkp_snd (ks_X11_proof G l)) (by decide +kernel) rfl (by decide)
noncomputable def k_X11_tell : List (Nat × Ins) := [
  (0, i_aload 1 1),
  (1, i_getI 4 1 8),
  (4, i_istore 5 2),
  (5, i_aload 6 0),
  (6, i_getR 9 11 3 (fun _ => 23)),
  (9, i_aload 10 1),
  (10, i_aload 11 0),
  (11, i_getI 14 11 10),
  (14, i_callI 17 3 (rcv 3) f_X3_tellProof),
  (17, i_ifne 20 23),
  (20, i_push 22 (.inl (-3))),
  (22, i_iret),
  (23, i_aload 24 0),
  (24, i_getR 27 11 1 (fun _ => 163)),
  (27, i_getI 30 1 7),
  (30, i_aload 31 1),
  (31, i_getI 34 1 7),
  (34, i_cmpne 37 44),
  (37, i_aload 38 0),
  (38, i_getR 41 11 1 (fun _ => 163)),
  (41, i_callV 44 1 (rcv 1) f_X1_drop),
  (44, i_iload 45 2),
  (45, i_iret)]
noncomputable def kc_X11_tell : Nat → Option Ins := lkp k_X11_tell
noncomputable def f_X11_tell : List AV → Mem → Option Rs := den 3 kc_X11_tell
abbrev rm_X11_tell : Room := { frames := 4, cells := 0, slots := 0, locals := 90 }
set_option maxRecDepth 100000 in
theorem kt_X11_tell : TriC kc_X11_tell := lkp_tri (fa1 (tri_aload 1 1) (fa1 (tri_getI 4 1 8) (fa1 (tri_istore 5 2) (fa1 (tri_aload 6 0) (fa1 (tri_getR 9 11 3 (fun _ => 23)) (fa1 (tri_aload 10 1) (fa1 (tri_aload 11 0) (fa1 (tri_getI 14 11 10) (fa1 (tri_callI 17 3 (rcv 3) f_X3_tellProof) (fa1 (tri_ifne 20 23) (fa1 (tri_push 22 (.inl (-3))) (fa1 (tri_iret) (fa1 (tri_aload 24 0) (fa1 (tri_getR 27 11 1 (fun _ => 163)) (fa1 (tri_getI 30 1 7) (fa1 (tri_aload 31 1) (fa1 (tri_getI 34 1 7) (fa1 (tri_cmpne 37 44) (fa1 (tri_aload 38 0) (fa1 (tri_getR 41 11 1 (fun _ => 163)) (fa1 (tri_callV 44 1 (rcv 1) f_X1_drop) (fa1 (tri_iload 45 2) (fa1 (tri_iret) (fa0))))))))))))))))))))))))
set_option maxRecDepth 100000 in
set_option maxHeartbeats 4000000 in
theorem ks_X11_tell (G : Wp) (l : Launch) : ∀ e ∈ k_X11_tell, Snd loC G l RX11 cX11_tell 3 (some .int) rm_X11_tell e.1 e.2 :=
  fa1 (s_aload_n (kf := 1) (j := 1) (by decide +kernel) rfl) <|
  fa1 (s_getI (ci := 1) (f := 8) (idx := 192) (C := RX1) (T := TX1) (NF := 9) (by decide +kernel) rfl (by decide) inG_X1 (by decide) w_382 li_X1_8) <|
  fa1 (s_istore_n (kf := 2) (j := 2) (by decide +kernel) rfl (by decide)) <|
  fa1 (s_aload_n (kf := 0) (j := 0) (by decide +kernel) rfl) <|
  fa1 (s_getR (t2 := 3) (g := (fun _ => 23)) (ci := 11) (f := 1) (idx := 19) (C := RX11) (T := TX11) (NF := 11) (by decide +kernel) rfl (by decide) inG_X11 (by decide) w_559 lr_X11_1 (by decide)) <|
  fa1 (s_aload_n (kf := 1) (j := 1) (by decide +kernel) rfl) <|
  fa1 (s_aload_n (kf := 0) (j := 0) (by decide +kernel) rfl) <|
  fa1 (s_getI (ci := 11) (f := 10) (idx := 81) (C := RX11) (T := TX11) (NF := 11) (by decide +kernel) rfl (by decide) inG_X11 (by decide) w_568 li_X11_10) <|
  fa1 (s_vcallI (n := 2) (ci := 3) (C := RX3) (T := TX3) (NF := 11) (idx := 293) (y := yX3_tellProof) (by decide +kernel) (gg_X3_tellProof) rfl (by decide) yv_X3_tellProof (all5 w_892 w_893 w_894 w_104 w_895) rfl rfl ⟨by decide, by decide⟩) <|
  fa1 (s_ifne (off := 6) (by decide +kernel) (by decide)) <|
  fa1 (s_bipush (n := -3) (v := -3) (by decide +kernel) (by decide +kernel) (p32 rfl)) <|
  fa1 (s_iret (by decide +kernel) rfl) <|
  fa1 (s_aload_n (kf := 0) (j := 0) (by decide +kernel) rfl) <|
  fa1 (s_getR (t2 := 1) (g := (fun _ => 163)) (ci := 11) (f := 3) (idx := 40) (C := RX11) (T := TX11) (NF := 11) (by decide +kernel) rfl (by decide) inG_X11 (by decide) w_561 lr_X11_3 (by decide)) <|
  fa1 (s_getI (ci := 1) (f := 7) (idx := 189) (C := RX1) (T := TX1) (NF := 9) (by decide +kernel) rfl (by decide) inG_X1 (by decide) w_379 li_X1_7) <|
  fa1 (s_aload_n (kf := 1) (j := 1) (by decide +kernel) rfl) <|
  fa1 (s_getI (ci := 1) (f := 7) (idx := 189) (C := RX1) (T := TX1) (NF := 9) (by decide +kernel) rfl (by decide) inG_X1 (by decide) w_379 li_X1_7) <|
  fa1 (s_cmpne (off := 10) (by decide +kernel) (by decide)) <|
  fa1 (s_aload_n (kf := 0) (j := 0) (by decide +kernel) rfl) <|
  fa1 (s_getR (t2 := 1) (g := (fun _ => 163)) (ci := 11) (f := 3) (idx := 40) (C := RX11) (T := TX11) (NF := 11) (by decide +kernel) rfl (by decide) inG_X11 (by decide) w_561 lr_X11_3 (by decide)) <|
  fa1 (s_vcallV (n := 0) (ci := 1) (C := RX1) (T := TX1) (NF := 9) (idx := 212) (y := yX1_drop) (by decide +kernel) (gg_X1_drop) rfl (by decide) yv_X1_drop (all5 w_924 w_925 w_926 w_108 w_927) rfl rfl ⟨by decide, by decide⟩) <|
  fa1 (s_iload_n (kf := 2) (j := 2) (by decide +kernel) rfl) <|
  fa1 (s_iret (by decide +kernel) rfl) <| fa0
theorem gg_X11_tell {G : Wp} {l : Launch} : GoodM loC G l yX11_tell cX11_tell 3 (some .int) rm_X11_tell f_X11_tell := met_of kt_X11_tell (lkp_snd (ks_X11_tell G l)) (by decide +kernel) rfl (by decide)
noncomputable def k_X11_show : List (Nat × Ins) := [
  (0, i_aload 1 0),
  (1, i_getR 4 11 1 (fun _ => 163)),
  (4, i_callI 7 1 (rcv 1) f_X1_isDropped),
  (7, i_ifne 10 20),
  (10, i_aload 11 0),
  (11, i_getR 14 11 1 (fun _ => 163)),
  (14, i_callI 17 1 (rcv 1) f_X1_arrived),
  (17, i_ifne 20 23),
  (20, i_push 22 (.inl (-2))),
  (22, i_iret),
  (23, i_aload 24 0),
  (24, i_aload 25 0),
  (25, i_getR 28 11 1 (fun _ => 163)),
  (28, i_callI 31 2 (rcv 11) f_X11_tell),
  (31, i_iret)]
noncomputable def kc_X11_show : Nat → Option Ins := lkp k_X11_show
noncomputable def f_X11_show : List AV → Mem → Option Rs := den 1 kc_X11_show
abbrev rm_X11_show : Room := { frames := 5, cells := 0, slots := 0, locals := 112 }
set_option maxRecDepth 100000 in
theorem kt_X11_show : TriC kc_X11_show := lkp_tri (fa1 (tri_aload 1 0) (fa1 (tri_getR 4 11 1 (fun _ => 163)) (fa1 (tri_callI 7 1 (rcv 1) f_X1_isDropped) (fa1 (tri_ifne 10 20) (fa1 (tri_aload 11 0) (fa1 (tri_getR 14 11 1 (fun _ => 163)) (fa1 (tri_callI 17 1 (rcv 1) f_X1_arrived) (fa1 (tri_ifne 20 23) (fa1 (tri_push 22 (.inl (-2))) (fa1 (tri_iret) (fa1 (tri_aload 24 0) (fa1 (tri_aload 25 0) (fa1 (tri_getR 28 11 1 (fun _ => 163)) (fa1 (tri_callI 31 2 (rcv 11) f_X11_tell) (fa1 (tri_iret) (fa0))))))))))))))))
set_option maxRecDepth 100000 in
set_option maxHeartbeats 4000000 in
theorem ks_X11_show (G : Wp) (l : Launch) : ∀ e ∈ k_X11_show, Snd loC G l RX11 cX11_show 1 (some .int) rm_X11_show e.1 e.2 :=
  fa1 (s_aload_n (kf := 0) (j := 0) (by decide +kernel) rfl) <|
  fa1 (s_getR (t2 := 1) (g := (fun _ => 163)) (ci := 11) (f := 3) (idx := 40) (C := RX11) (T := TX11) (NF := 11) (by decide +kernel) rfl (by decide) inG_X11 (by decide) w_561 lr_X11_3 (by decide)) <|
  fa1 (s_vcallI (n := 0) (ci := 1) (C := RX1) (T := TX1) (NF := 9) (idx := 178) (y := yX1_isDropped) (by decide +kernel) (gg_X1_isDropped) rfl (by decide) yv_X1_isDropped (all5 w_814 w_815 w_816 w_108 w_817) rfl rfl ⟨by decide, by decide⟩) <|
  fa1 (s_ifne (off := 13) (by decide +kernel) (by decide)) <|
  fa1 (s_aload_n (kf := 0) (j := 0) (by decide +kernel) rfl) <|
  fa1 (s_getR (t2 := 1) (g := (fun _ => 163)) (ci := 11) (f := 3) (idx := 40) (C := RX11) (T := TX11) (NF := 11) (by decide +kernel) rfl (by decide) inG_X11 (by decide) w_561 lr_X11_3 (by decide)) <|
  fa1 (s_vcallI (n := 0) (ci := 1) (C := RX1) (T := TX1) (NF := 9) (idx := 193) (y := yX1_arrived) (by decide +kernel) (gg_X1_arrived) rfl (by decide) yv_X1_arrived (all5 w_874 w_875 w_876 w_108 w_877) rfl rfl ⟨by decide, by decide⟩) <|
  fa1 (s_ifne (off := 6) (by decide +kernel) (by decide)) <|
  fa1 (s_bipush (n := -2) (v := -2) (by decide +kernel) (by decide +kernel) (p32 rfl)) <|
  fa1 (s_iret (by decide +kernel) rfl) <|
  fa1 (s_aload_n (kf := 0) (j := 0) (by decide +kernel) rfl) <|
  fa1 (s_aload_n (kf := 0) (j := 0) (by decide +kernel) rfl) <|
  fa1 (s_getR (t2 := 1) (g := (fun _ => 163)) (ci := 11) (f := 3) (idx := 40) (C := RX11) (T := TX11) (NF := 11) (by decide +kernel) rfl (by decide) inG_X11 (by decide) w_561 lr_X11_3 (by decide)) <|
  fa1 (s_vcallI (n := 1) (ci := 11) (C := RX11) (T := TX11) (NF := 11) (idx := 196) (y := yX11_tell) (by decide +kernel) (gg_X11_tell) rfl (by decide) yv_X11_tell (all5 w_888 w_890 w_16 w_100 w_891) rfl rfl ⟨by decide, by decide⟩) <|
  fa1 (s_iret (by decide +kernel) rfl) <| fa0
theorem gg_X11_show {G : Wp} {l : Launch} : GoodM loC G l yX11_show cX11_show 1 (some .int) rm_X11_show f_X11_show := met_of kt_X11_show (lkp_snd (ks_X11_show G l)) (by decide +kernel) rfl (by decide)
noncomputable def k_X11_stepOf : List (Nat × Ins) := [
  (0, i_aload 1 0),
  (1, i_getR 4 11 3 (fun _ => 23)),
  (4, i_iload 5 1),
  (5, i_callR 8 2 2 (rcv 3) f_X3_get),
  (8, i_astore 10 4),
  (10, i_aload 12 4),
  (12, i_ifnull 15 28),
  (15, i_iload 16 2),
  (16, i_iflt 19 28),
  (19, i_iload 20 3),
  (20, i_iflt 23 28),
  (23, i_iload 24 3),
  (24, i_push 25 (.inl 2)),
  (25, i_cmple 28 30),
  (28, i_push 29 (.inl (-1))),
  (29, i_iret),
  (30, i_aload 32 4),
  (32, i_getI 35 2 6),
  (35, i_ifge 38 41),
  (38, i_push 40 (.inl (-4))),
  (40, i_iret),
  (41, i_iload 42 2),
  (42, i_aload 44 4),
  (44, i_getI 47 2 6),
  (47, i_cmpge 50 68),
  (50, i_aload 51 0),
  (51, i_getR 54 11 3 (fun _ => 23)),
  (54, i_aload 56 4),
  (56, i_getI 59 2 5),
  (59, i_iload 60 2),
  (60, i_bin 61 (fun x y => wr (x + y))),
  (61, i_iload 62 3),
  (62, i_callI 65 3 (rcv 3) f_X3_toldAt),
  (65, i_goto 69),
  (68, i_push 69 (.inl (-1))),
  (69, i_iret)]
noncomputable def kc_X11_stepOf : Nat → Option Ins := lkp k_X11_stepOf
noncomputable def f_X11_stepOf : List AV → Mem → Option Rs := den 5 kc_X11_stepOf
abbrev rm_X11_stepOf : Room := { frames := 1, cells := 0, slots := 0, locals := 22 }
set_option maxRecDepth 100000 in
theorem kt_X11_stepOf : TriC kc_X11_stepOf := lkp_tri (fa1 (tri_aload 1 0) (fa1 (tri_getR 4 11 3 (fun _ => 23)) (fa1 (tri_iload 5 1) (fa1 (tri_callR 8 2 2 (rcv 3) f_X3_get) (fa1 (tri_astore 10 4) (fa1 (tri_aload 12 4) (fa1 (tri_ifnull 15 28) (fa1 (tri_iload 16 2) (fa1 (tri_iflt 19 28) (fa1 (tri_iload 20 3) (fa1 (tri_iflt 23 28) (fa1 (tri_iload 24 3) (fa1 (tri_push 25 (.inl 2)) (fa1 (tri_cmple 28 30) (fa1 (tri_push 29 (.inl (-1))) (fa1 (tri_iret) (fa1 (tri_aload 32 4) (fa1 (tri_getI 35 2 6) (fa1 (tri_ifge 38 41) (fa1 (tri_push 40 (.inl (-4))) (fa1 (tri_iret) (fa1 (tri_iload 42 2) (fa1 (tri_aload 44 4) (fa1 (tri_getI 47 2 6) (fa1 (tri_cmpge 50 68) (fa1 (tri_aload 51 0) (fa1 (tri_getR 54 11 3 (fun _ => 23)) (fa1 (tri_aload 56 4) (fa1 (tri_getI 59 2 5) (fa1 (tri_iload 60 2) (fa1 (tri_bin 61 (fun x y => wr (x + y))) (fa1 (tri_iload 62 3) (fa1 (tri_callI 65 3 (rcv 3) f_X3_toldAt) (fa1 (tri_goto 69) (fa1 (tri_push 69 (.inl (-1))) (fa1 (tri_iret) (fa0)))))))))))))))))))))))))))))))))))))
set_option maxRecDepth 100000 in
set_option maxHeartbeats 4000000 in
theorem ks_X11_stepOf (G : Wp) (l : Launch) : ∀ e ∈ k_X11_stepOf, Snd loC G l RX11 cX11_stepOf 5 (some .int) rm_X11_stepOf e.1 e.2 :=
  fa1 (s_aload_n (kf := 0) (j := 0) (by decide +kernel) rfl) <|
  fa1 (s_getR (t2 := 3) (g := (fun _ => 23)) (ci := 11) (f := 1) (idx := 19) (C := RX11) (T := TX11) (NF := 11) (by decide +kernel) rfl (by decide) inG_X11 (by decide) w_559 lr_X11_1 (by decide)) <|
  fa1 (s_iload_n (kf := 1) (j := 1) (by decide +kernel) rfl) <|
  fa1 (s_vcallR (t := 2) (n := 1) (ci := 3) (C := RX3) (T := TX3) (NF := 11) (idx := 98) (y := yX3_get) (by decide +kernel) (gg_X3_get) rfl (by decide) yv_X3_get (all5 w_735 w_736 w_737 w_104 w_738) rfl rfl ⟨by decide, by decide⟩) <|
  fa1 (s_astore (j := 4) (by decide +kernel) (by decide)) <|
  fa1 (s_aload (j := 4) (by decide +kernel)) <|
  fa1 (s_ifnull (off := 16) (by decide +kernel) (by decide)) <|
  fa1 (s_iload_n (kf := 2) (j := 2) (by decide +kernel) rfl) <|
  fa1 (s_iflt (off := 12) (by decide +kernel) (by decide)) <|
  fa1 (s_iload_n (kf := 3) (j := 3) (by decide +kernel) rfl) <|
  fa1 (s_iflt (off := 8) (by decide +kernel) (by decide)) <|
  fa1 (s_iload_n (kf := 3) (j := 3) (by decide +kernel) rfl) <|
  fa1 (s_iconst (n := 2) (v := 2) (by decide +kernel) (by decide +kernel) (p32 rfl)) <|
  fa1 (s_cmple (off := 5) (by decide +kernel) (by decide)) <|
  fa1 (s_iconst (n := -1) (v := -1) (by decide +kernel) (by decide +kernel) (p32 rfl)) <|
  fa1 (s_iret (by decide +kernel) rfl) <|
  fa1 (s_aload (j := 4) (by decide +kernel)) <|
  fa1 (s_getI (ci := 2) (f := 6) (idx := 125) (C := RX2) (T := TX2) (NF := 11) (by decide +kernel) rfl (by decide) inG_X2 (by decide) w_220 li_X2_6) <|
  fa1 (s_ifge (off := 6) (by decide +kernel) (by decide)) <|
  fa1 (s_bipush (n := -4) (v := -4) (by decide +kernel) (by decide +kernel) (p32 rfl)) <|
  fa1 (s_iret (by decide +kernel) rfl) <|
  fa1 (s_iload_n (kf := 2) (j := 2) (by decide +kernel) rfl) <|
  fa1 (s_aload (j := 4) (by decide +kernel)) <|
  fa1 (s_getI (ci := 2) (f := 6) (idx := 125) (C := RX2) (T := TX2) (NF := 11) (by decide +kernel) rfl (by decide) inG_X2 (by decide) w_220 li_X2_6) <|
  fa1 (s_cmpge (off := 21) (by decide +kernel) (by decide)) <|
  fa1 (s_aload_n (kf := 0) (j := 0) (by decide +kernel) rfl) <|
  fa1 (s_getR (t2 := 3) (g := (fun _ => 23)) (ci := 11) (f := 1) (idx := 19) (C := RX11) (T := TX11) (NF := 11) (by decide +kernel) rfl (by decide) inG_X11 (by decide) w_559 lr_X11_1 (by decide)) <|
  fa1 (s_aload (j := 4) (by decide +kernel)) <|
  fa1 (s_getI (ci := 2) (f := 5) (idx := 200) (C := RX2) (T := TX2) (NF := 11) (by decide +kernel) rfl (by decide) inG_X2 (by decide) w_218 li_X2_5) <|
  fa1 (s_iload_n (kf := 2) (j := 2) (by decide +kernel) rfl) <|
  fa1 (s_iadd (by decide +kernel)) <|
  fa1 (s_iload_n (kf := 3) (j := 3) (by decide +kernel) rfl) <|
  fa1 (s_vcallI (n := 2) (ci := 3) (C := RX3) (T := TX3) (NF := 11) (idx := 203) (y := yX3_toldAt) (by decide +kernel) (gg_X3_toldAt) rfl (by decide) yv_X3_toldAt (all5 w_932 w_933 w_934 w_104 w_935) rfl rfl ⟨by decide, by decide⟩) <|
  fa1 (s_goto (off := 4) (by decide +kernel) (by decide)) <|
  fa1 (s_iconst (n := -1) (v := -1) (by decide +kernel) (by decide +kernel) (p32 rfl)) <|
  fa1 (s_iret (by decide +kernel) rfl) <| fa0
theorem gg_X11_stepOf {G : Wp} {l : Launch} : GoodM loC G l yX11_stepOf cX11_stepOf 5 (some .int) rm_X11_stepOf f_X11_stepOf := met_of kt_X11_stepOf (lkp_snd (ks_X11_stepOf G l)) (by decide +kernel) rfl (by decide)
noncomputable def k_X11_leans : List (Nat × Ins) := [
  (0, i_aload 1 0),
  (1, i_getR 4 11 3 (fun _ => 23)),
  (4, i_iload 5 1),
  (5, i_callR 8 2 2 (rcv 3) f_X3_get),
  (8, i_ifnonnull 11 13),
  (11, i_push 12 (.inl (-1))),
  (12, i_iret),
  (13, i_iload 14 2),
  (14, i_switch 76 (0) [40, 49, 67]),
  (40, i_aload 41 0),
  (41, i_getR 44 11 3 (fun _ => 23)),
  (44, i_iload 45 1),
  (45, i_callI 48 2 (rcv 3) f_X3_underOf),
  (48, i_iret),
  (49, i_aload 50 0),
  (50, i_getR 53 11 3 (fun _ => 23)),
  (53, i_iload 54 1),
  (54, i_callI 57 2 (rcv 3) f_X3_underOf),
  (57, i_aload 58 0),
  (58, i_getR 61 11 3 (fun _ => 23)),
  (61, i_push 62 (.inl 0)),
  (62, i_callI 65 2 (rcv 3) f_X3_maskOf),
  (65, i_bin 66 bAnd),
  (66, i_iret),
  (67, i_aload 68 0),
  (68, i_getR 71 11 3 (fun _ => 23)),
  (71, i_iload 72 1),
  (72, i_callI 75 2 (rcv 3) f_X3_overOf),
  (75, i_iret),
  (76, i_push 77 (.inl (-1))),
  (77, i_iret)]
noncomputable def kc_X11_leans : Nat → Option Ins := lkp k_X11_leans
noncomputable def f_X11_leans : List AV → Mem → Option Rs := den 3 kc_X11_leans
abbrev rm_X11_leans : Room := { frames := 3, cells := 0, slots := 0, locals := 66 }
set_option maxRecDepth 100000 in
theorem kt_X11_leans : TriC kc_X11_leans := lkp_tri (fa1 (tri_aload 1 0) (fa1 (tri_getR 4 11 3 (fun _ => 23)) (fa1 (tri_iload 5 1) (fa1 (tri_callR 8 2 2 (rcv 3) f_X3_get) (fa1 (tri_ifnonnull 11 13) (fa1 (tri_push 12 (.inl (-1))) (fa1 (tri_iret) (fa1 (tri_iload 14 2) (fa1 (tri_switch 76 (0) [40, 49, 67]) (fa1 (tri_aload 41 0) (fa1 (tri_getR 44 11 3 (fun _ => 23)) (fa1 (tri_iload 45 1) (fa1 (tri_callI 48 2 (rcv 3) f_X3_underOf) (fa1 (tri_iret) (fa1 (tri_aload 50 0) (fa1 (tri_getR 53 11 3 (fun _ => 23)) (fa1 (tri_iload 54 1) (fa1 (tri_callI 57 2 (rcv 3) f_X3_underOf) (fa1 (tri_aload 58 0) (fa1 (tri_getR 61 11 3 (fun _ => 23)) (fa1 (tri_push 62 (.inl 0)) (fa1 (tri_callI 65 2 (rcv 3) f_X3_maskOf) (fa1 (tri_bin 66 bAnd) (fa1 (tri_iret) (fa1 (tri_aload 68 0) (fa1 (tri_getR 71 11 3 (fun _ => 23)) (fa1 (tri_iload 72 1) (fa1 (tri_callI 75 2 (rcv 3) f_X3_overOf) (fa1 (tri_iret) (fa1 (tri_push 77 (.inl (-1))) (fa1 (tri_iret) (fa0))))))))))))))))))))))))))))))))
set_option maxRecDepth 100000 in
set_option maxHeartbeats 4000000 in
theorem ks_X11_leans (G : Wp) (l : Launch) : ∀ e ∈ k_X11_leans, Snd loC G l RX11 cX11_leans 3 (some .int) rm_X11_leans e.1 e.2 :=
  fa1 (s_aload_n (kf := 0) (j := 0) (by decide +kernel) rfl) <|
  fa1 (s_getR (t2 := 3) (g := (fun _ => 23)) (ci := 11) (f := 1) (idx := 19) (C := RX11) (T := TX11) (NF := 11) (by decide +kernel) rfl (by decide) inG_X11 (by decide) w_559 lr_X11_1 (by decide)) <|
  fa1 (s_iload_n (kf := 1) (j := 1) (by decide +kernel) rfl) <|
  fa1 (s_vcallR (t := 2) (n := 1) (ci := 3) (C := RX3) (T := TX3) (NF := 11) (idx := 98) (y := yX3_get) (by decide +kernel) (gg_X3_get) rfl (by decide) yv_X3_get (all5 w_735 w_736 w_737 w_104 w_738) rfl rfl ⟨by decide, by decide⟩) <|
  fa1 (s_ifnonnull (off := 5) (by decide +kernel) (by decide)) <|
  fa1 (s_iconst (n := -1) (v := -1) (by decide +kernel) (by decide +kernel) (p32 rfl)) <|
  fa1 (s_iret (by decide +kernel) rfl) <|
  fa1 (s_iload_n (kf := 2) (j := 2) (by decide +kernel) rfl) <|
  fa1 (s_switch (dflt := 62) (lo := 0) (hhi := 2) (offs := #[26, 35, 53]) (len := 26) (by decide +kernel) (by decide) (by decide +kernel) (by decide)) <|
  fa1 (s_aload_n (kf := 0) (j := 0) (by decide +kernel) rfl) <|
  fa1 (s_getR (t2 := 3) (g := (fun _ => 23)) (ci := 11) (f := 1) (idx := 19) (C := RX11) (T := TX11) (NF := 11) (by decide +kernel) rfl (by decide) inG_X11 (by decide) w_559 lr_X11_1 (by decide)) <|
  fa1 (s_iload_n (kf := 1) (j := 1) (by decide +kernel) rfl) <|
  fa1 (s_vcallI (n := 1) (ci := 3) (C := RX3) (T := TX3) (NF := 11) (idx := 131) (y := yX3_underOf) (by decide +kernel) (gg_X3_underOf) rfl (by decide) yv_X3_underOf (all5 w_739 w_740 w_741 w_104 w_742) rfl rfl ⟨by decide, by decide⟩) <|
  fa1 (s_iret (by decide +kernel) rfl) <|
  fa1 (s_aload_n (kf := 0) (j := 0) (by decide +kernel) rfl) <|
  fa1 (s_getR (t2 := 3) (g := (fun _ => 23)) (ci := 11) (f := 1) (idx := 19) (C := RX11) (T := TX11) (NF := 11) (by decide +kernel) rfl (by decide) inG_X11 (by decide) w_559 lr_X11_1 (by decide)) <|
  fa1 (s_iload_n (kf := 1) (j := 1) (by decide +kernel) rfl) <|
  fa1 (s_vcallI (n := 1) (ci := 3) (C := RX3) (T := TX3) (NF := 11) (idx := 131) (y := yX3_underOf) (by decide +kernel) (gg_X3_underOf) rfl (by decide) yv_X3_underOf (all5 w_739 w_740 w_741 w_104 w_742) rfl rfl ⟨by decide, by decide⟩) <|
  fa1 (s_aload_n (kf := 0) (j := 0) (by decide +kernel) rfl) <|
  fa1 (s_getR (t2 := 3) (g := (fun _ => 23)) (ci := 11) (f := 1) (idx := 19) (C := RX11) (T := TX11) (NF := 11) (by decide +kernel) rfl (by decide) inG_X11 (by decide) w_559 lr_X11_1 (by decide)) <|
  fa1 (s_iconst (n := 0) (v := 0) (by decide +kernel) (by decide +kernel) (p32 rfl)) <|
  fa1 (s_vcallI (n := 1) (ci := 3) (C := RX3) (T := TX3) (NF := 11) (idx := 206) (y := yX3_maskOf) (by decide +kernel) (gg_X3_maskOf) rfl (by decide) yv_X3_maskOf (all5 w_940 w_941 w_942 w_104 w_943) rfl rfl ⟨by decide, by decide⟩) <|
  fa1 (s_iand (by decide +kernel)) <|
  fa1 (s_iret (by decide +kernel) rfl) <|
  fa1 (s_aload_n (kf := 0) (j := 0) (by decide +kernel) rfl) <|
  fa1 (s_getR (t2 := 3) (g := (fun _ => 23)) (ci := 11) (f := 1) (idx := 19) (C := RX11) (T := TX11) (NF := 11) (by decide +kernel) rfl (by decide) inG_X11 (by decide) w_559 lr_X11_1 (by decide)) <|
  fa1 (s_iload_n (kf := 1) (j := 1) (by decide +kernel) rfl) <|
  fa1 (s_vcallI (n := 1) (ci := 3) (C := RX3) (T := TX3) (NF := 11) (idx := 140) (y := yX3_overOf) (by decide +kernel) (gg_X3_overOf) rfl (by decide) yv_X3_overOf (all5 w_750 w_751 w_752 w_104 w_753) rfl rfl ⟨by decide, by decide⟩) <|
  fa1 (s_iret (by decide +kernel) rfl) <|
  fa1 (s_iconst (n := -1) (v := -1) (by decide +kernel) (by decide +kernel) (p32 rfl)) <|
  fa1 (s_iret (by decide +kernel) rfl) <| fa0
theorem gg_X11_leans {G : Wp} {l : Launch} : GoodM loC G l yX11_leans cX11_leans 3 (some .int) rm_X11_leans f_X11_leans := met_of kt_X11_leans (lkp_snd (ks_X11_leans G l)) (by decide +kernel) rfl (by decide)
noncomputable def k_X11_change : List (Nat × Ins) := [
  (0, i_aload 1 0),
  (1, i_getR 4 11 9 (fun _ => 1)),
  (4, i_iload 5 1),
  (5, i_callR 8 2 8 (rcv 9) f_X9_meaningOf),
  (8, i_ifnonnull 11 13),
  (11, i_push 12 (.inl (-1))),
  (12, i_iret),
  (13, i_aload 14 0),
  (14, i_getR 17 11 7 (fun _ => 151)),
  (17, i_iload 18 1),
  (18, i_callI 21 2 (rcv 7) f_X7_tellMeaning),
  (21, i_istore 22 2),
  (22, i_iload 23 2),
  (23, i_ifge 26 28),
  (26, i_iload 27 2),
  (27, i_iret),
  (28, i_aload 29 0),
  (29, i_getR 32 11 1 (fun _ => 163)),
  (32, i_callV 35 1 (rcv 1) f_X1_drop),
  (35, i_aload 36 0),
  (36, i_getR 39 11 3 (fun _ => 23)),
  (39, i_iload 40 1),
  (40, i_aload 41 0),
  (41, i_getR 44 11 1 (fun _ => 211)),
  (44, i_aload 45 0),
  (45, i_getI 48 11 10),
  (48, i_callI 51 4 (rcv 3) f_X3_tryAgain),
  (51, i_iret)]
noncomputable def kc_X11_change : Nat → Option Ins := lkp k_X11_change
noncomputable def f_X11_change : List AV → Mem → Option Rs := den 3 kc_X11_change
abbrev rm_X11_change : Room := { frames := 6, cells := 0, slots := 0, locals := 158 }
set_option maxRecDepth 100000 in
theorem kt_X11_change : TriC kc_X11_change := lkp_tri (fa1 (tri_aload 1 0) (fa1 (tri_getR 4 11 9 (fun _ => 1)) (fa1 (tri_iload 5 1) (fa1 (tri_callR 8 2 8 (rcv 9) f_X9_meaningOf) (fa1 (tri_ifnonnull 11 13) (fa1 (tri_push 12 (.inl (-1))) (fa1 (tri_iret) (fa1 (tri_aload 14 0) (fa1 (tri_getR 17 11 7 (fun _ => 151)) (fa1 (tri_iload 18 1) (fa1 (tri_callI 21 2 (rcv 7) f_X7_tellMeaning) (fa1 (tri_istore 22 2) (fa1 (tri_iload 23 2) (fa1 (tri_ifge 26 28) (fa1 (tri_iload 27 2) (fa1 (tri_iret) (fa1 (tri_aload 29 0) (fa1 (tri_getR 32 11 1 (fun _ => 163)) (fa1 (tri_callV 35 1 (rcv 1) f_X1_drop) (fa1 (tri_aload 36 0) (fa1 (tri_getR 39 11 3 (fun _ => 23)) (fa1 (tri_iload 40 1) (fa1 (tri_aload 41 0) (fa1 (tri_getR 44 11 1 (fun _ => 211)) (fa1 (tri_aload 45 0) (fa1 (tri_getI 48 11 10) (fa1 (tri_callI 51 4 (rcv 3) f_X3_tryAgain) (fa1 (tri_iret) (fa0)))))))))))))))))))))))))))))
set_option maxRecDepth 100000 in
set_option maxHeartbeats 4000000 in
theorem ks_X11_change (G : Wp) (l : Launch) : ∀ e ∈ k_X11_change, Snd loC G l RX11 cX11_change 3 (some .int) rm_X11_change e.1 e.2 :=
  fa1 (s_aload_n (kf := 0) (j := 0) (by decide +kernel) rfl) <|
  fa1 (s_getR (t2 := 9) (g := (fun _ => 1)) (ci := 11) (f := 0) (idx := 10) (C := RX11) (T := TX11) (NF := 11) (by decide +kernel) rfl (by decide) inG_X11 (by decide) w_558 lr_X11_0 (by decide)) <|
  fa1 (s_iload_n (kf := 1) (j := 1) (by decide +kernel) rfl) <|
  fa1 (s_vcallR (t := 8) (n := 1) (ci := 9) (C := RX9) (T := TX9) (NF := 6) (idx := 146) (y := yX9_meaningOf) (by decide +kernel) (gg_X9_meaningOf) rfl (by decide) yv_X9_meaningOf (all5 w_764 w_765 w_766 w_101 w_767) rfl rfl ⟨by decide, by decide⟩) <|
  fa1 (s_ifnonnull (off := 5) (by decide +kernel) (by decide)) <|
  fa1 (s_iconst (n := -1) (v := -1) (by decide +kernel) (by decide +kernel) (p32 rfl)) <|
  fa1 (s_iret (by decide +kernel) rfl) <|
  fa1 (s_aload_n (kf := 0) (j := 0) (by decide +kernel) rfl) <|
  fa1 (s_getR (t2 := 7) (g := (fun _ => 151)) (ci := 11) (f := 2) (idx := 28) (C := RX11) (T := TX11) (NF := 11) (by decide +kernel) rfl (by decide) inG_X11 (by decide) w_560 lr_X11_2 (by decide)) <|
  fa1 (s_iload_n (kf := 1) (j := 1) (by decide +kernel) rfl) <|
  fa1 (s_vcallI (n := 1) (ci := 7) (C := RX7) (T := TX7) (NF := 10) (idx := 209) (y := yX7_tellMeaning) (by decide +kernel) (gg_X7_tellMeaning) rfl (by decide) yv_X7_tellMeaning (all5 w_948 w_949 w_950 w_106 w_951) rfl rfl ⟨by decide, by decide⟩) <|
  fa1 (s_istore_n (kf := 2) (j := 2) (by decide +kernel) rfl (by decide)) <|
  fa1 (s_iload_n (kf := 2) (j := 2) (by decide +kernel) rfl) <|
  fa1 (s_ifge (off := 5) (by decide +kernel) (by decide)) <|
  fa1 (s_iload_n (kf := 2) (j := 2) (by decide +kernel) rfl) <|
  fa1 (s_iret (by decide +kernel) rfl) <|
  fa1 (s_aload_n (kf := 0) (j := 0) (by decide +kernel) rfl) <|
  fa1 (s_getR (t2 := 1) (g := (fun _ => 163)) (ci := 11) (f := 3) (idx := 40) (C := RX11) (T := TX11) (NF := 11) (by decide +kernel) rfl (by decide) inG_X11 (by decide) w_561 lr_X11_3 (by decide)) <|
  fa1 (s_vcallV (n := 0) (ci := 1) (C := RX1) (T := TX1) (NF := 9) (idx := 212) (y := yX1_drop) (by decide +kernel) (gg_X1_drop) rfl (by decide) yv_X1_drop (all5 w_924 w_925 w_926 w_108 w_927) rfl rfl ⟨by decide, by decide⟩) <|
  fa1 (s_aload_n (kf := 0) (j := 0) (by decide +kernel) rfl) <|
  fa1 (s_getR (t2 := 3) (g := (fun _ => 23)) (ci := 11) (f := 1) (idx := 19) (C := RX11) (T := TX11) (NF := 11) (by decide +kernel) rfl (by decide) inG_X11 (by decide) w_559 lr_X11_1 (by decide)) <|
  fa1 (s_iload_n (kf := 1) (j := 1) (by decide +kernel) rfl) <|
  fa1 (s_aload_n (kf := 0) (j := 0) (by decide +kernel) rfl) <|
  fa1 (s_getR (t2 := 1) (g := (fun _ => 211)) (ci := 11) (f := 4) (idx := 44) (C := RX11) (T := TX11) (NF := 11) (by decide +kernel) rfl (by decide) inG_X11 (by decide) w_562 lr_X11_4 (by decide)) <|
  fa1 (s_aload_n (kf := 0) (j := 0) (by decide +kernel) rfl) <|
  fa1 (s_getI (ci := 11) (f := 10) (idx := 81) (C := RX11) (T := TX11) (NF := 11) (by decide +kernel) rfl (by decide) inG_X11 (by decide) w_568 li_X11_10) <|
  fa1 (s_vcallI (n := 3) (ci := 3) (C := RX3) (T := TX3) (NF := 11) (idx := 215) (y := yX3_tryAgain) (by decide +kernel) (gg_X3_tryAgain) rfl (by decide) yv_X3_tryAgain (all5 w_955 w_956 w_957 w_104 w_958) rfl rfl ⟨by decide, by decide⟩) <|
  fa1 (s_iret (by decide +kernel) rfl) <| fa0
theorem gg_X11_change {G : Wp} {l : Launch} : GoodM loC G l yX11_change cX11_change 3 (some .int) rm_X11_change f_X11_change := met_of kt_X11_change (lkp_snd (ks_X11_change G l)) (by decide +kernel) rfl (by decide)
noncomputable def k_X11_sought : List (Nat × Ins) := [
  (0, i_aload 1 0),
  (1, i_getR 4 11 3 (fun _ => 23)),
  (4, i_iload 5 1),
  (5, i_callR 8 2 2 (rcv 3) f_X3_get),
  (8, i_astore 10 4),
  (10, i_aload 12 4),
  (12, i_ifnull 15 36),
  (15, i_iload 16 2),
  (16, i_iflt 19 36),
  (19, i_iload 20 2),
  (20, i_push 22 (.inl 8)),
  (22, i_cmpgt 25 36),
  (25, i_iload 26 3),
  (26, i_push 27 (.inl 1)),
  (27, i_cmplt 30 36),
  (30, i_iload 31 3),
  (31, i_push 33 (.inl 20)),
  (33, i_cmple 36 38),
  (36, i_push 37 (.inl (-1))),
  (37, i_iret),
  (38, i_aload 40 4),
  (40, i_callI 43 1 (rcv 2) f_X2_isOpen),
  (43, i_ifeq 46 59),
  (46, i_aload 47 0),
  (47, i_getR 50 11 4 (fun _ => 259)),
  (50, i_iload 51 1),
  (51, i_iload 52 2),
  (52, i_iload 53 3),
  (53, i_callI 56 4 (rcv 4) f_X4_run),
  (56, i_goto 61),
  (59, i_push 61 (.inl (-2))),
  (61, i_iret)]
noncomputable def kc_X11_sought : Nat → Option Ins := lkp k_X11_sought
noncomputable def f_X11_sought : List AV → Mem → Option Rs := den 5 kc_X11_sought
abbrev rm_X11_sought : Room := { frames := 6, cells := 0, slots := 0, locals := 155 }
set_option maxRecDepth 100000 in
theorem kt_X11_sought : TriC kc_X11_sought := lkp_tri (fa1 (tri_aload 1 0) (fa1 (tri_getR 4 11 3 (fun _ => 23)) (fa1 (tri_iload 5 1) (fa1 (tri_callR 8 2 2 (rcv 3) f_X3_get) (fa1 (tri_astore 10 4) (fa1 (tri_aload 12 4) (fa1 (tri_ifnull 15 36) (fa1 (tri_iload 16 2) (fa1 (tri_iflt 19 36) (fa1 (tri_iload 20 2) (fa1 (tri_push 22 (.inl 8)) (fa1 (tri_cmpgt 25 36) (fa1 (tri_iload 26 3) (fa1 (tri_push 27 (.inl 1)) (fa1 (tri_cmplt 30 36) (fa1 (tri_iload 31 3) (fa1 (tri_push 33 (.inl 20)) (fa1 (tri_cmple 36 38) (fa1 (tri_push 37 (.inl (-1))) (fa1 (tri_iret) (fa1 (tri_aload 40 4) (fa1 (tri_callI 43 1 (rcv 2) f_X2_isOpen) (fa1 (tri_ifeq 46 59) (fa1 (tri_aload 47 0) (fa1 (tri_getR 50 11 4 (fun _ => 259)) (fa1 (tri_iload 51 1) (fa1 (tri_iload 52 2) (fa1 (tri_iload 53 3) (fa1 (tri_callI 56 4 (rcv 4) f_X4_run) (fa1 (tri_goto 61) (fa1 (tri_push 61 (.inl (-2))) (fa1 (tri_iret) (fa0)))))))))))))))))))))))))))))))))
set_option maxRecDepth 100000 in
set_option maxHeartbeats 4000000 in
theorem ks_X11_sought (G : Wp) (l : Launch) : ∀ e ∈ k_X11_sought, Snd loC G l RX11 cX11_sought 5 (some .int) rm_X11_sought e.1 e.2 :=
  fa1 (s_aload_n (kf := 0) (j := 0) (by decide +kernel) rfl) <|
  fa1 (s_getR (t2 := 3) (g := (fun _ => 23)) (ci := 11) (f := 1) (idx := 19) (C := RX11) (T := TX11) (NF := 11) (by decide +kernel) rfl (by decide) inG_X11 (by decide) w_559 lr_X11_1 (by decide)) <|
  fa1 (s_iload_n (kf := 1) (j := 1) (by decide +kernel) rfl) <|
  fa1 (s_vcallR (t := 2) (n := 1) (ci := 3) (C := RX3) (T := TX3) (NF := 11) (idx := 98) (y := yX3_get) (by decide +kernel) (gg_X3_get) rfl (by decide) yv_X3_get (all5 w_735 w_736 w_737 w_104 w_738) rfl rfl ⟨by decide, by decide⟩) <|
  fa1 (s_astore (j := 4) (by decide +kernel) (by decide)) <|
  fa1 (s_aload (j := 4) (by decide +kernel)) <|
  fa1 (s_ifnull (off := 24) (by decide +kernel) (by decide)) <|
  fa1 (s_iload_n (kf := 2) (j := 2) (by decide +kernel) rfl) <|
  fa1 (s_iflt (off := 20) (by decide +kernel) (by decide)) <|
  fa1 (s_iload_n (kf := 2) (j := 2) (by decide +kernel) rfl) <|
  fa1 (s_bipush (n := 8) (v := 8) (by decide +kernel) (by decide +kernel) (p32 rfl)) <|
  fa1 (s_cmpgt (off := 14) (by decide +kernel) (by decide)) <|
  fa1 (s_iload_n (kf := 3) (j := 3) (by decide +kernel) rfl) <|
  fa1 (s_iconst (n := 1) (v := 1) (by decide +kernel) (by decide +kernel) (p32 rfl)) <|
  fa1 (s_cmplt (off := 9) (by decide +kernel) (by decide)) <|
  fa1 (s_iload_n (kf := 3) (j := 3) (by decide +kernel) rfl) <|
  fa1 (s_bipush (n := 20) (v := 20) (by decide +kernel) (by decide +kernel) (p32 rfl)) <|
  fa1 (s_cmple (off := 5) (by decide +kernel) (by decide)) <|
  fa1 (s_iconst (n := -1) (v := -1) (by decide +kernel) (by decide +kernel) (p32 rfl)) <|
  fa1 (s_iret (by decide +kernel) rfl) <|
  fa1 (s_aload (j := 4) (by decide +kernel)) <|
  fa1 (s_vcallI (n := 0) (ci := 2) (C := RX2) (T := TX2) (NF := 11) (idx := 166) (y := yX2_isOpen) (by decide +kernel) (gg_X2_isOpen) rfl (by decide) yv_X2_isOpen (all5 w_796 w_797 w_798 w_105 w_799) rfl rfl ⟨by decide, by decide⟩) <|
  fa1 (s_ifeq (off := 16) (by decide +kernel) (by decide)) <|
  fa1 (s_aload_n (kf := 0) (j := 0) (by decide +kernel) rfl) <|
  fa1 (s_getR (t2 := 4) (g := (fun _ => 259)) (ci := 11) (f := 5) (idx := 52) (C := RX11) (T := TX11) (NF := 11) (by decide +kernel) rfl (by decide) inG_X11 (by decide) w_563 lr_X11_5 (by decide)) <|
  fa1 (s_iload_n (kf := 1) (j := 1) (by decide +kernel) rfl) <|
  fa1 (s_iload_n (kf := 2) (j := 2) (by decide +kernel) rfl) <|
  fa1 (s_iload_n (kf := 3) (j := 3) (by decide +kernel) rfl) <|
  fa1 (s_vcallI (n := 3) (ci := 4) (C := RX4) (T := TX4) (NF := 18) (idx := 229) (y := yX4_run) (by decide +kernel) (gg_X4_run) rfl (by decide) yv_X4_run (all5 w_980 w_981 w_982 w_109 w_983) rfl rfl ⟨by decide, by decide⟩) <|
  fa1 (s_goto (off := 5) (by decide +kernel) (by decide)) <|
  fa1 (s_bipush (n := -2) (v := -2) (by decide +kernel) (by decide +kernel) (p32 rfl)) <|
  fa1 (s_iret (by decide +kernel) rfl) <| fa0
theorem gg_X11_sought {G : Wp} {l : Launch} : GoodM loC G l yX11_sought cX11_sought 5 (some .int) rm_X11_sought f_X11_sought := met_of kt_X11_sought (lkp_snd (ks_X11_sought G l)) (by decide +kernel) rfl (by decide)
noncomputable def k_X11_seek : List (Nat × Ins) := [
  (0, i_iload 2 4),
  (2, i_iflt 5 11),
  (5, i_iload 7 4),
  (7, i_push 8 (.inl 1)),
  (8, i_cmple 11 13),
  (11, i_push 12 (.inl (-1))),
  (12, i_iret),
  (13, i_aload 14 0),
  (14, i_iload 15 1),
  (15, i_iload 16 2),
  (16, i_iload 17 3),
  (17, i_callI 20 4 (rcv 11) f_X11_sought),
  (20, i_istore 22 5),
  (22, i_iload 24 4),
  (24, i_push 25 (.inl 1)),
  (25, i_cmpne 28 48),
  (28, i_iload 30 5),
  (30, i_ifge 33 40),
  (33, i_iload 35 5),
  (35, i_push 37 (.inl (-4))),
  (37, i_cmpne 40 48),
  (40, i_aload 41 0),
  (41, i_getR 44 11 4 (fun _ => 259)),
  (44, i_getI 47 4 17),
  (47, i_iret),
  (48, i_iload 50 5),
  (50, i_iret)]
noncomputable def kc_X11_seek : Nat → Option Ins := lkp k_X11_seek
noncomputable def f_X11_seek : List AV → Mem → Option Rs := den 6 kc_X11_seek
abbrev rm_X11_seek : Room := { frames := 7, cells := 0, slots := 0, locals := 179 }
set_option maxRecDepth 100000 in
theorem kt_X11_seek : TriC kc_X11_seek := lkp_tri (fa1 (tri_iload 2 4) (fa1 (tri_iflt 5 11) (fa1 (tri_iload 7 4) (fa1 (tri_push 8 (.inl 1)) (fa1 (tri_cmple 11 13) (fa1 (tri_push 12 (.inl (-1))) (fa1 (tri_iret) (fa1 (tri_aload 14 0) (fa1 (tri_iload 15 1) (fa1 (tri_iload 16 2) (fa1 (tri_iload 17 3) (fa1 (tri_callI 20 4 (rcv 11) f_X11_sought) (fa1 (tri_istore 22 5) (fa1 (tri_iload 24 4) (fa1 (tri_push 25 (.inl 1)) (fa1 (tri_cmpne 28 48) (fa1 (tri_iload 30 5) (fa1 (tri_ifge 33 40) (fa1 (tri_iload 35 5) (fa1 (tri_push 37 (.inl (-4))) (fa1 (tri_cmpne 40 48) (fa1 (tri_aload 41 0) (fa1 (tri_getR 44 11 4 (fun _ => 259)) (fa1 (tri_getI 47 4 17) (fa1 (tri_iret) (fa1 (tri_iload 50 5) (fa1 (tri_iret) (fa0))))))))))))))))))))))))))))
set_option maxRecDepth 100000 in
set_option maxHeartbeats 4000000 in
theorem ks_X11_seek (G : Wp) (l : Launch) : ∀ e ∈ k_X11_seek, Snd loC G l RX11 cX11_seek 6 (some .int) rm_X11_seek e.1 e.2 :=
  fa1 (s_iload (j := 4) (by decide +kernel)) <|
  fa1 (s_iflt (off := 9) (by decide +kernel) (by decide)) <|
  fa1 (s_iload (j := 4) (by decide +kernel)) <|
  fa1 (s_iconst (n := 1) (v := 1) (by decide +kernel) (by decide +kernel) (p32 rfl)) <|
  fa1 (s_cmple (off := 5) (by decide +kernel) (by decide)) <|
  fa1 (s_iconst (n := -1) (v := -1) (by decide +kernel) (by decide +kernel) (p32 rfl)) <|
  fa1 (s_iret (by decide +kernel) rfl) <|
  fa1 (s_aload_n (kf := 0) (j := 0) (by decide +kernel) rfl) <|
  fa1 (s_iload_n (kf := 1) (j := 1) (by decide +kernel) rfl) <|
  fa1 (s_iload_n (kf := 2) (j := 2) (by decide +kernel) rfl) <|
  fa1 (s_iload_n (kf := 3) (j := 3) (by decide +kernel) rfl) <|
  fa1 (s_vcallI (n := 3) (ci := 11) (C := RX11) (T := TX11) (NF := 11) (idx := 219) (y := yX11_sought) (by decide +kernel) (gg_X11_sought) rfl (by decide) yv_X11_sought (all5 w_976 w_978 w_21 w_100 w_979) rfl rfl ⟨by decide, by decide⟩) <|
  fa1 (s_istore (j := 5) (by decide +kernel) (by decide)) <|
  fa1 (s_iload (j := 4) (by decide +kernel)) <|
  fa1 (s_iconst (n := 1) (v := 1) (by decide +kernel) (by decide +kernel) (p32 rfl)) <|
  fa1 (s_cmpne (off := 23) (by decide +kernel) (by decide)) <|
  fa1 (s_iload (j := 5) (by decide +kernel)) <|
  fa1 (s_ifge (off := 10) (by decide +kernel) (by decide)) <|
  fa1 (s_iload (j := 5) (by decide +kernel)) <|
  fa1 (s_bipush (n := -4) (v := -4) (by decide +kernel) (by decide +kernel) (p32 rfl)) <|
  fa1 (s_cmpne (off := 11) (by decide +kernel) (by decide)) <|
  fa1 (s_aload_n (kf := 0) (j := 0) (by decide +kernel) rfl) <|
  fa1 (s_getR (t2 := 4) (g := (fun _ => 259)) (ci := 11) (f := 5) (idx := 52) (C := RX11) (T := TX11) (NF := 11) (by decide +kernel) rfl (by decide) inG_X11 (by decide) w_563 lr_X11_5 (by decide)) <|
  fa1 (s_getI (ci := 4) (f := 17) (idx := 222) (C := RX4) (T := TX4) (NF := 18) (by decide +kernel) rfl (by decide) inG_X4 (by decide) w_428 li_X4_17) <|
  fa1 (s_iret (by decide +kernel) rfl) <|
  fa1 (s_iload (j := 5) (by decide +kernel)) <|
  fa1 (s_iret (by decide +kernel) rfl) <| fa0
theorem gg_X11_seek {G : Wp} {l : Launch} : GoodM loC G l yX11_seek cX11_seek 6 (some .int) rm_X11_seek f_X11_seek := met_of kt_X11_seek (lkp_snd (ks_X11_seek G l)) (by decide +kernel) rfl (by decide)
noncomputable def k_X11_take : List (Nat × Ins) := [
  (0, i_aload 1 0),
  (1, i_iload 2 1),
  (2, i_iload 3 2),
  (3, i_iload 4 3),
  (4, i_callI 7 4 (rcv 11) f_X11_sought),
  (7, i_istore 9 4),
  (9, i_iload 11 4),
  (11, i_ifge 14 17),
  (14, i_iload 16 4),
  (16, i_iret),
  (17, i_aload 18 0),
  (18, i_getR 21 11 4 (fun _ => 259)),
  (21, i_iload 22 1),
  (22, i_aload 23 0),
  (23, i_getR 26 11 1 (fun _ => 211)),
  (26, i_callV 29 3 (rcv 4) f_X4_layOut),
  (29, i_aload 30 0),
  (30, i_aload 31 0),
  (31, i_getR 34 11 1 (fun _ => 211)),
  (34, i_callI 37 2 (rcv 11) f_X11_tell),
  (37, i_iret)]
noncomputable def kc_X11_take : Nat → Option Ins := lkp k_X11_take
noncomputable def f_X11_take : List AV → Mem → Option Rs := den 5 kc_X11_take
abbrev rm_X11_take : Room := { frames := 7, cells := 0, slots := 0, locals := 179 }
set_option maxRecDepth 100000 in
theorem kt_X11_take : TriC kc_X11_take := lkp_tri (fa1 (tri_aload 1 0) (fa1 (tri_iload 2 1) (fa1 (tri_iload 3 2) (fa1 (tri_iload 4 3) (fa1 (tri_callI 7 4 (rcv 11) f_X11_sought) (fa1 (tri_istore 9 4) (fa1 (tri_iload 11 4) (fa1 (tri_ifge 14 17) (fa1 (tri_iload 16 4) (fa1 (tri_iret) (fa1 (tri_aload 18 0) (fa1 (tri_getR 21 11 4 (fun _ => 259)) (fa1 (tri_iload 22 1) (fa1 (tri_aload 23 0) (fa1 (tri_getR 26 11 1 (fun _ => 211)) (fa1 (tri_callV 29 3 (rcv 4) f_X4_layOut) (fa1 (tri_aload 30 0) (fa1 (tri_aload 31 0) (fa1 (tri_getR 34 11 1 (fun _ => 211)) (fa1 (tri_callI 37 2 (rcv 11) f_X11_tell) (fa1 (tri_iret) (fa0))))))))))))))))))))))
set_option maxRecDepth 100000 in
set_option maxHeartbeats 4000000 in
theorem ks_X11_take (G : Wp) (l : Launch) : ∀ e ∈ k_X11_take, Snd loC G l RX11 cX11_take 5 (some .int) rm_X11_take e.1 e.2 :=
  fa1 (s_aload_n (kf := 0) (j := 0) (by decide +kernel) rfl) <|
  fa1 (s_iload_n (kf := 1) (j := 1) (by decide +kernel) rfl) <|
  fa1 (s_iload_n (kf := 2) (j := 2) (by decide +kernel) rfl) <|
  fa1 (s_iload_n (kf := 3) (j := 3) (by decide +kernel) rfl) <|
  fa1 (s_vcallI (n := 3) (ci := 11) (C := RX11) (T := TX11) (NF := 11) (idx := 219) (y := yX11_sought) (by decide +kernel) (gg_X11_sought) rfl (by decide) yv_X11_sought (all5 w_976 w_978 w_21 w_100 w_979) rfl rfl ⟨by decide, by decide⟩) <|
  fa1 (s_istore (j := 4) (by decide +kernel) (by decide)) <|
  fa1 (s_iload (j := 4) (by decide +kernel)) <|
  fa1 (s_ifge (off := 6) (by decide +kernel) (by decide)) <|
  fa1 (s_iload (j := 4) (by decide +kernel)) <|
  fa1 (s_iret (by decide +kernel) rfl) <|
  fa1 (s_aload_n (kf := 0) (j := 0) (by decide +kernel) rfl) <|
  fa1 (s_getR (t2 := 4) (g := (fun _ => 259)) (ci := 11) (f := 5) (idx := 52) (C := RX11) (T := TX11) (NF := 11) (by decide +kernel) rfl (by decide) inG_X11 (by decide) w_563 lr_X11_5 (by decide)) <|
  fa1 (s_iload_n (kf := 1) (j := 1) (by decide +kernel) rfl) <|
  fa1 (s_aload_n (kf := 0) (j := 0) (by decide +kernel) rfl) <|
  fa1 (s_getR (t2 := 1) (g := (fun _ => 211)) (ci := 11) (f := 4) (idx := 44) (C := RX11) (T := TX11) (NF := 11) (by decide +kernel) rfl (by decide) inG_X11 (by decide) w_562 lr_X11_4 (by decide)) <|
  fa1 (s_vcallV (n := 2) (ci := 4) (C := RX4) (T := TX4) (NF := 18) (idx := 225) (y := yX4_layOut) (by decide +kernel) (gg_X4_layOut) rfl (by decide) yv_X4_layOut (all5 w_1013 w_1014 w_1015 w_109 w_1016) rfl rfl ⟨by decide, by decide⟩) <|
  fa1 (s_aload_n (kf := 0) (j := 0) (by decide +kernel) rfl) <|
  fa1 (s_aload_n (kf := 0) (j := 0) (by decide +kernel) rfl) <|
  fa1 (s_getR (t2 := 1) (g := (fun _ => 211)) (ci := 11) (f := 4) (idx := 44) (C := RX11) (T := TX11) (NF := 11) (by decide +kernel) rfl (by decide) inG_X11 (by decide) w_562 lr_X11_4 (by decide)) <|
  fa1 (s_vcallI (n := 1) (ci := 11) (C := RX11) (T := TX11) (NF := 11) (idx := 196) (y := yX11_tell) (by decide +kernel) (gg_X11_tell) rfl (by decide) yv_X11_tell (all5 w_888 w_890 w_16 w_100 w_891) rfl rfl ⟨by decide, by decide⟩) <|
  fa1 (s_iret (by decide +kernel) rfl) <| fa0
theorem gg_X11_take {G : Wp} {l : Launch} : GoodM loC G l yX11_take cX11_take 5 (some .int) rm_X11_take f_X11_take := met_of kt_X11_take (lkp_snd (ks_X11_take G l)) (by decide +kernel) rfl (by decide)
