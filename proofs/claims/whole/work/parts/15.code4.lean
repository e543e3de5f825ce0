noncomputable def k_X11_holds : List (Nat × Ins) := [
  (0, i_aload 1 0),
  (1, i_getR 4 11 3 (fun _ => 23)),
  (4, i_iload 5 1),
  (5, i_callR 8 2 2 (rcv 3) f_X3_get),
  (8, i_astore 10 4),
  (10, i_aload 12 4),
  (12, i_ifnull 15 31),
  (15, i_iload 16 3),
  (16, i_iflt 19 31),
  (19, i_iload 20 3),
  (20, i_aload 21 0),
  (21, i_getR 24 11 10 (fun _ => 771)),
  (24, i_iload 25 2),
  (25, i_callI 28 2 (rcv 10) f_X10_howMany),
  (28, i_cmplt 31 33),
  (31, i_push 32 (.inl (-1))),
  (32, i_iret),
  (33, i_aload 34 0),
  (34, i_getR 37 11 10 (fun _ => 771)),
  (37, i_iload 38 2),
  (38, i_iload 39 3),
  (39, i_callV 42 3 (rcv 10) f_X10_enter),
  (42, i_aload 43 0),
  (43, i_getR 46 11 10 (fun _ => 771)),
  (46, i_aload 48 4),
  (48, i_callI 51 2 (rcv 10) f_X10_isTrue),
  (51, i_ifeq 54 58),
  (54, i_push 55 (.inl 1)),
  (55, i_goto 59),
  (58, i_push 59 (.inl 0)),
  (59, i_iret)]
noncomputable def kc_X11_holds : Nat → Option Ins := lkp k_X11_holds
noncomputable def f_X11_holds : List AV → Mem → Option Rs := den 5 kc_X11_holds
abbrev rm_X11_holds : Room := { frames := 5, cells := 0, slots := 0, locals := 124 }
set_option maxRecDepth 100000 in
theorem kt_X11_holds : TriC kc_X11_holds := lkp_tri (fa1 (tri_aload 1 0) (fa1 (tri_getR 4 11 3 (fun _ => 23)) (fa1 (tri_iload 5 1) (fa1 (tri_callR 8 2 2 (rcv 3) f_X3_get) (fa1 (tri_astore 10 4) (fa1 (tri_aload 12 4) (fa1 (tri_ifnull 15 31) (fa1 (tri_iload 16 3) (fa1 (tri_iflt 19 31) (fa1 (tri_iload 20 3) (fa1 (tri_aload 21 0) (fa1 (tri_getR 24 11 10 (fun _ => 771)) (fa1 (tri_iload 25 2) (fa1 (tri_callI 28 2 (rcv 10) f_X10_howMany) (fa1 (tri_cmplt 31 33) (fa1 (tri_push 32 (.inl (-1))) (fa1 (tri_iret) (fa1 (tri_aload 34 0) (fa1 (tri_getR 37 11 10 (fun _ => 771)) (fa1 (tri_iload 38 2) (fa1 (tri_iload 39 3) (fa1 (tri_callV 42 3 (rcv 10) f_X10_enter) (fa1 (tri_aload 43 0) (fa1 (tri_getR 46 11 10 (fun _ => 771)) (fa1 (tri_aload 48 4) (fa1 (tri_callI 51 2 (rcv 10) f_X10_isTrue) (fa1 (tri_ifeq 54 58) (fa1 (tri_push 55 (.inl 1)) (fa1 (tri_goto 59) (fa1 (tri_push 59 (.inl 0)) (fa1 (tri_iret) (fa0))))))))))))))))))))))))))))))))
set_option maxRecDepth 100000 in
set_option maxHeartbeats 4000000 in
theorem ks_X11_holds (G : Wp) (l : Launch) : ∀ e ∈ k_X11_holds, Snd loC G l RX11 cX11_holds 5 (some .int) rm_X11_holds e.1 e.2 :=
  fa1 (s_aload_n (kf := 0) (j := 0) (by decide +kernel) rfl) <|
  fa1 (s_getR (t2 := 3) (g := (fun _ => 23)) (ci := 11) (f := 1) (idx := 19) (C := RX11) (T := TX11) (NF := 11) (by decide +kernel) rfl (by decide) inG_X11 (by decide) w_559 lr_X11_1 (by decide)) <|
  fa1 (s_iload_n (kf := 1) (j := 1) (by decide +kernel) rfl) <|
  fa1 (s_vcallR (t := 2) (n := 1) (ci := 3) (C := RX3) (T := TX3) (NF := 11) (idx := 98) (y := yX3_get) (by decide +kernel) (gg_X3_get) rfl (by decide) yv_X3_get (all5 w_735 w_736 w_737 w_104 w_738) rfl rfl ⟨by decide, by decide⟩) <|
  fa1 (s_astore (j := 4) (by decide +kernel) (by decide)) <|
  fa1 (s_aload (j := 4) (by decide +kernel)) <|
  fa1 (s_ifnull (off := 19) (by decide +kernel) (by decide)) <|
  fa1 (s_iload_n (kf := 3) (j := 3) (by decide +kernel) rfl) <|
  fa1 (s_iflt (off := 15) (by decide +kernel) (by decide)) <|
  fa1 (s_iload_n (kf := 3) (j := 3) (by decide +kernel) rfl) <|
  fa1 (s_aload_n (kf := 0) (j := 0) (by decide +kernel) rfl) <|
  fa1 (s_getR (t2 := 10) (g := (fun _ => 771)) (ci := 11) (f := 6) (idx := 59) (C := RX11) (T := TX11) (NF := 11) (by decide +kernel) rfl (by decide) inG_X11 (by decide) w_564 lr_X11_6 (by decide)) <|
  fa1 (s_iload_n (kf := 2) (j := 2) (by decide +kernel) rfl) <|
  fa1 (s_vcallI (n := 1) (ci := 10) (C := RX10) (T := TX10) (NF := 8) (idx := 232) (y := yX10_howMany) (by decide +kernel) (gg_X10_howMany) rfl (by decide) yv_X10_howMany (all5 w_1023 w_1024 w_1025 w_110 w_1026) rfl rfl ⟨by decide, by decide⟩) <|
  fa1 (s_cmplt (off := 5) (by decide +kernel) (by decide)) <|
  fa1 (s_iconst (n := -1) (v := -1) (by decide +kernel) (by decide +kernel) (p32 rfl)) <|
  fa1 (s_iret (by decide +kernel) rfl) <|
  fa1 (s_aload_n (kf := 0) (j := 0) (by decide +kernel) rfl) <|
  fa1 (s_getR (t2 := 10) (g := (fun _ => 771)) (ci := 11) (f := 6) (idx := 59) (C := RX11) (T := TX11) (NF := 11) (by decide +kernel) rfl (by decide) inG_X11 (by decide) w_564 lr_X11_6 (by decide)) <|
  fa1 (s_iload_n (kf := 2) (j := 2) (by decide +kernel) rfl) <|
  fa1 (s_iload_n (kf := 3) (j := 3) (by decide +kernel) rfl) <|
  fa1 (s_vcallV (n := 2) (ci := 10) (C := RX10) (T := TX10) (NF := 8) (idx := 235) (y := yX10_enter) (by decide +kernel) (gg_X10_enter) rfl (by decide) yv_X10_enter (all5 w_1029 w_1030 w_1031 w_110 w_1032) rfl rfl ⟨by decide, by decide⟩) <|
  fa1 (s_aload_n (kf := 0) (j := 0) (by decide +kernel) rfl) <|
  fa1 (s_getR (t2 := 10) (g := (fun _ => 771)) (ci := 11) (f := 6) (idx := 59) (C := RX11) (T := TX11) (NF := 11) (by decide +kernel) rfl (by decide) inG_X11 (by decide) w_564 lr_X11_6 (by decide)) <|
  fa1 (s_aload (j := 4) (by decide +kernel)) <|
  fa1 (s_vcallI (n := 1) (ci := 10) (C := RX10) (T := TX10) (NF := 8) (idx := 239) (y := yX10_isTrue) (by decide +kernel) (gg_X10_isTrue) rfl (by decide) yv_X10_isTrue (all5 w_1051 w_1052 w_1053 w_110 w_1054) rfl rfl ⟨by decide, by decide⟩) <|
  fa1 (s_ifeq (off := 7) (by decide +kernel) (by decide)) <|
  fa1 (s_iconst (n := 1) (v := 1) (by decide +kernel) (by decide +kernel) (p32 rfl)) <|
  fa1 (s_goto (off := 4) (by decide +kernel) (by decide)) <|
  fa1 (s_iconst (n := 0) (v := 0) (by decide +kernel) (by decide +kernel) (p32 rfl)) <|
  fa1 (s_iret (by decide +kernel) rfl) <| fa0
theorem gg_X11_holds {G : Wp} {l : Launch} : GoodM loC G l yX11_holds cX11_holds 5 (some .int) rm_X11_holds f_X11_holds := met_of kt_X11_holds (lkp_snd (ks_X11_holds G l)) (by decide +kernel) rfl (by decide)
noncomputable def k_X11_worlds : List (Nat × Ins) := [
  (0, i_iload 1 1),
  (1, i_push 2 (.inl 1)),
  (2, i_cmplt 5 19),
  (5, i_iload 6 1),
  (6, i_push 7 (.inl 2)),
  (7, i_cmpgt 10 19),
  (10, i_iload 11 2),
  (11, i_iflt 14 19),
  (14, i_iload 15 2),
  (15, i_push 16 (.inl 1)),
  (16, i_cmple 19 21),
  (19, i_push 20 (.inl (-1))),
  (20, i_iret),
  (21, i_iload 22 2),
  (22, i_ifne 25 36),
  (25, i_aload 26 0),
  (26, i_getR 29 11 10 (fun _ => 771)),
  (29, i_iload 30 1),
  (30, i_callI 33 2 (rcv 10) f_X10_countGrounded),
  (33, i_goto 45),
  (36, i_aload 37 0),
  (37, i_getR 40 11 10 (fun _ => 771)),
  (40, i_iload 41 1),
  (41, i_push 42 (.inr (.inr none))),
  (42, i_callI 45 3 (rcv 10) f_X10_leastGrounded),
  (45, i_iret)]
noncomputable def kc_X11_worlds : Nat → Option Ins := lkp k_X11_worlds
noncomputable def f_X11_worlds : List AV → Mem → Option Rs := den 3 kc_X11_worlds
abbrev rm_X11_worlds : Room := { frames := 6, cells := 0, slots := 0, locals := 147 }
set_option maxRecDepth 100000 in
theorem kt_X11_worlds : TriC kc_X11_worlds := lkp_tri (fa1 (tri_iload 1 1) (fa1 (tri_push 2 (.inl 1)) (fa1 (tri_cmplt 5 19) (fa1 (tri_iload 6 1) (fa1 (tri_push 7 (.inl 2)) (fa1 (tri_cmpgt 10 19) (fa1 (tri_iload 11 2) (fa1 (tri_iflt 14 19) (fa1 (tri_iload 15 2) (fa1 (tri_push 16 (.inl 1)) (fa1 (tri_cmple 19 21) (fa1 (tri_push 20 (.inl (-1))) (fa1 (tri_iret) (fa1 (tri_iload 22 2) (fa1 (tri_ifne 25 36) (fa1 (tri_aload 26 0) (fa1 (tri_getR 29 11 10 (fun _ => 771)) (fa1 (tri_iload 30 1) (fa1 (tri_callI 33 2 (rcv 10) f_X10_countGrounded) (fa1 (tri_goto 45) (fa1 (tri_aload 37 0) (fa1 (tri_getR 40 11 10 (fun _ => 771)) (fa1 (tri_iload 41 1) (fa1 (tri_push 42 (.inr (.inr none))) (fa1 (tri_callI 45 3 (rcv 10) f_X10_leastGrounded) (fa1 (tri_iret) (fa0)))))))))))))))))))))))))))
set_option maxRecDepth 100000 in
set_option maxHeartbeats 4000000 in
theorem ks_X11_worlds (G : Wp) (l : Launch) : ∀ e ∈ k_X11_worlds, Snd loC G l RX11 cX11_worlds 3 (some .int) rm_X11_worlds e.1 e.2 :=
  fa1 (s_iload_n (kf := 1) (j := 1) (by decide +kernel) rfl) <|
  fa1 (s_iconst (n := 1) (v := 1) (by decide +kernel) (by decide +kernel) (p32 rfl)) <|
  fa1 (s_cmplt (off := 17) (by decide +kernel) (by decide)) <|
  fa1 (s_iload_n (kf := 1) (j := 1) (by decide +kernel) rfl) <|
  fa1 (s_iconst (n := 2) (v := 2) (by decide +kernel) (by decide +kernel) (p32 rfl)) <|
  fa1 (s_cmpgt (off := 12) (by decide +kernel) (by decide)) <|
  fa1 (s_iload_n (kf := 2) (j := 2) (by decide +kernel) rfl) <|
  fa1 (s_iflt (off := 8) (by decide +kernel) (by decide)) <|
  fa1 (s_iload_n (kf := 2) (j := 2) (by decide +kernel) rfl) <|
  fa1 (s_iconst (n := 1) (v := 1) (by decide +kernel) (by decide +kernel) (p32 rfl)) <|
  fa1 (s_cmple (off := 5) (by decide +kernel) (by decide)) <|
  fa1 (s_iconst (n := -1) (v := -1) (by decide +kernel) (by decide +kernel) (p32 rfl)) <|
  fa1 (s_iret (by decide +kernel) rfl) <|
  fa1 (s_iload_n (kf := 2) (j := 2) (by decide +kernel) rfl) <|
  fa1 (s_ifne (off := 14) (by decide +kernel) (by decide)) <|
  fa1 (s_aload_n (kf := 0) (j := 0) (by decide +kernel) rfl) <|
  fa1 (s_getR (t2 := 10) (g := (fun _ => 771)) (ci := 11) (f := 6) (idx := 59) (C := RX11) (T := TX11) (NF := 11) (by decide +kernel) rfl (by decide) inG_X11 (by decide) w_564 lr_X11_6 (by decide)) <|
  fa1 (s_iload_n (kf := 1) (j := 1) (by decide +kernel) rfl) <|
  fa1 (s_vcallI (n := 1) (ci := 10) (C := RX10) (T := TX10) (NF := 8) (idx := 243) (y := yX10_countGrounded) (by decide +kernel) (gg_X10_countGrounded) rfl (by decide) yv_X10_countGrounded (all5 w_1063 w_1064 w_1065 w_110 w_1066) rfl rfl ⟨by decide, by decide⟩) <|
  fa1 (s_goto (off := 12) (by decide +kernel) (by decide)) <|
  fa1 (s_aload_n (kf := 0) (j := 0) (by decide +kernel) rfl) <|
  fa1 (s_getR (t2 := 10) (g := (fun _ => 771)) (ci := 11) (f := 6) (idx := 59) (C := RX11) (T := TX11) (NF := 11) (by decide +kernel) rfl (by decide) inG_X11 (by decide) w_564 lr_X11_6 (by decide)) <|
  fa1 (s_iload_n (kf := 1) (j := 1) (by decide +kernel) rfl) <|
  fa1 (s_null (by decide +kernel)) <|
  fa1 (s_vcallI (n := 2) (ci := 10) (C := RX10) (T := TX10) (NF := 8) (idx := 246) (y := yX10_leastGrounded) (by decide +kernel) (gg_X10_leastGrounded) rfl (by decide) yv_X10_leastGrounded (all5 w_1075 w_1076 w_1077 w_110 w_1078) rfl rfl ⟨by decide, by decide⟩) <|
  fa1 (s_iret (by decide +kernel) rfl) <| fa0
theorem gg_X11_worlds {G : Wp} {l : Launch} : GoodM loC G l yX11_worlds cX11_worlds 3 (some .int) rm_X11_worlds f_X11_worlds := met_of kt_X11_worlds (lkp_snd (ks_X11_worlds G l)) (by decide +kernel) rfl (by decide)
noncomputable def k_X11_denied : List (Nat × Ins) := [
  (0, i_aload 1 0),
  (1, i_getR 4 11 3 (fun _ => 23)),
  (4, i_iload 5 1),
  (5, i_callR 8 2 2 (rcv 3) f_X3_get),
  (8, i_astore 9 3),
  (9, i_aload 10 3),
  (10, i_ifnull 13 23),
  (13, i_iload 14 2),
  (14, i_push 15 (.inl 1)),
  (15, i_cmplt 18 23),
  (18, i_iload 19 2),
  (19, i_push 20 (.inl 2)),
  (20, i_cmple 23 25),
  (23, i_push 24 (.inl (-1))),
  (24, i_iret),
  (25, i_aload 26 0),
  (26, i_getR 29 11 10 (fun _ => 771)),
  (29, i_iload 30 2),
  (30, i_aload 31 3),
  (31, i_callI 34 3 (rcv 10) f_X10_leastGrounded),
  (34, i_iret)]
noncomputable def kc_X11_denied : Nat → Option Ins := lkp k_X11_denied
noncomputable def f_X11_denied : List AV → Mem → Option Rs := den 4 kc_X11_denied
abbrev rm_X11_denied : Room := { frames := 6, cells := 0, slots := 0, locals := 147 }
set_option maxRecDepth 100000 in
theorem kt_X11_denied : TriC kc_X11_denied := lkp_tri (fa1 (tri_aload 1 0) (fa1 (tri_getR 4 11 3 (fun _ => 23)) (fa1 (tri_iload 5 1) (fa1 (tri_callR 8 2 2 (rcv 3) f_X3_get) (fa1 (tri_astore 9 3) (fa1 (tri_aload 10 3) (fa1 (tri_ifnull 13 23) (fa1 (tri_iload 14 2) (fa1 (tri_push 15 (.inl 1)) (fa1 (tri_cmplt 18 23) (fa1 (tri_iload 19 2) (fa1 (tri_push 20 (.inl 2)) (fa1 (tri_cmple 23 25) (fa1 (tri_push 24 (.inl (-1))) (fa1 (tri_iret) (fa1 (tri_aload 26 0) (fa1 (tri_getR 29 11 10 (fun _ => 771)) (fa1 (tri_iload 30 2) (fa1 (tri_aload 31 3) (fa1 (tri_callI 34 3 (rcv 10) f_X10_leastGrounded) (fa1 (tri_iret) (fa0))))))))))))))))))))))
set_option maxRecDepth 100000 in
set_option maxHeartbeats 4000000 in
theorem ks_X11_denied (G : Wp) (l : Launch) : ∀ e ∈ k_X11_denied, Snd loC G l RX11 cX11_denied 4 (some .int) rm_X11_denied e.1 e.2 :=
  fa1 (s_aload_n (kf := 0) (j := 0) (by decide +kernel) rfl) <|
  fa1 (s_getR (t2 := 3) (g := (fun _ => 23)) (ci := 11) (f := 1) (idx := 19) (C := RX11) (T := TX11) (NF := 11) (by decide +kernel) rfl (by decide) inG_X11 (by decide) w_559 lr_X11_1 (by decide)) <|
  fa1 (s_iload_n (kf := 1) (j := 1) (by decide +kernel) rfl) <|
  fa1 (s_vcallR (t := 2) (n := 1) (ci := 3) (C := RX3) (T := TX3) (NF := 11) (idx := 98) (y := yX3_get) (by decide +kernel) (gg_X3_get) rfl (by decide) yv_X3_get (all5 w_735 w_736 w_737 w_104 w_738) rfl rfl ⟨by decide, by decide⟩) <|
  fa1 (s_astore_n (kf := 3) (j := 3) (by decide +kernel) rfl (by decide)) <|
  fa1 (s_aload_n (kf := 3) (j := 3) (by decide +kernel) rfl) <|
  fa1 (s_ifnull (off := 13) (by decide +kernel) (by decide)) <|
  fa1 (s_iload_n (kf := 2) (j := 2) (by decide +kernel) rfl) <|
  fa1 (s_iconst (n := 1) (v := 1) (by decide +kernel) (by decide +kernel) (p32 rfl)) <|
  fa1 (s_cmplt (off := 8) (by decide +kernel) (by decide)) <|
  fa1 (s_iload_n (kf := 2) (j := 2) (by decide +kernel) rfl) <|
  fa1 (s_iconst (n := 2) (v := 2) (by decide +kernel) (by decide +kernel) (p32 rfl)) <|
  fa1 (s_cmple (off := 5) (by decide +kernel) (by decide)) <|
  fa1 (s_iconst (n := -1) (v := -1) (by decide +kernel) (by decide +kernel) (p32 rfl)) <|
  fa1 (s_iret (by decide +kernel) rfl) <|
  fa1 (s_aload_n (kf := 0) (j := 0) (by decide +kernel) rfl) <|
  fa1 (s_getR (t2 := 10) (g := (fun _ => 771)) (ci := 11) (f := 6) (idx := 59) (C := RX11) (T := TX11) (NF := 11) (by decide +kernel) rfl (by decide) inG_X11 (by decide) w_564 lr_X11_6 (by decide)) <|
  fa1 (s_iload_n (kf := 2) (j := 2) (by decide +kernel) rfl) <|
  fa1 (s_aload_n (kf := 3) (j := 3) (by decide +kernel) rfl) <|
  fa1 (s_vcallI (n := 2) (ci := 10) (C := RX10) (T := TX10) (NF := 8) (idx := 246) (y := yX10_leastGrounded) (by decide +kernel) (gg_X10_leastGrounded) rfl (by decide) yv_X10_leastGrounded (all5 w_1075 w_1076 w_1077 w_110 w_1078) rfl rfl ⟨by decide, by decide⟩) <|
  fa1 (s_iret (by decide +kernel) rfl) <| fa0
theorem gg_X11_denied {G : Wp} {l : Launch} : GoodM loC G l yX11_denied cX11_denied 4 (some .int) rm_X11_denied f_X11_denied := met_of kt_X11_denied (lkp_snd (ks_X11_denied G l)) (by decide +kernel) rfl (by decide)
noncomputable def k_X11_like : List (Nat × Ins) := [
  (0, i_aload 1 0),
  (1, i_getR 4 11 3 (fun _ => 23)),
  (4, i_iload 5 1),
  (5, i_callR 8 2 2 (rcv 3) f_X3_get),
  (8, i_ifnull 11 32),
  (11, i_aload 12 0),
  (12, i_getR 15 11 3 (fun _ => 23)),
  (15, i_iload 16 2),
  (16, i_callR 19 2 2 (rcv 3) f_X3_get),
  (19, i_ifnull 22 32),
  (22, i_iload 23 3),
  (23, i_iflt 26 32),
  (26, i_iload 27 3),
  (27, i_push 29 (.inl 7)),
  (29, i_cmple 32 34),
  (32, i_push 33 (.inl (-1))),
  (33, i_iret),
  (34, i_aload 35 0),
  (35, i_getR 38 11 0 (fun _ => 780)),
  (38, i_iload 39 1),
  (39, i_iload 40 3),
  (40, i_callI 43 3 (rcv 0) f_X0_begin),
  (43, i_ifeq 46 61),
  (46, i_aload 47 0),
  (47, i_getR 50 11 0 (fun _ => 780)),
  (50, i_iload 51 2),
  (51, i_callI 54 2 (rcv 0) f_X0_isLike),
  (54, i_ifeq 57 61),
  (57, i_push 58 (.inl 1)),
  (58, i_goto 62),
  (61, i_push 62 (.inl 0)),
  (62, i_iret)]
noncomputable def kc_X11_like : Nat → Option Ins := lkp k_X11_like
noncomputable def f_X11_like : List AV → Mem → Option Rs := den 4 kc_X11_like
abbrev rm_X11_like : Room := { frames := 6, cells := 0, slots := 0, locals := 144 }
set_option maxRecDepth 100000 in
theorem kt_X11_like : TriC kc_X11_like := lkp_tri (fa1 (tri_aload 1 0) (fa1 (tri_getR 4 11 3 (fun _ => 23)) (fa1 (tri_iload 5 1) (fa1 (tri_callR 8 2 2 (rcv 3) f_X3_get) (fa1 (tri_ifnull 11 32) (fa1 (tri_aload 12 0) (fa1 (tri_getR 15 11 3 (fun _ => 23)) (fa1 (tri_iload 16 2) (fa1 (tri_callR 19 2 2 (rcv 3) f_X3_get) (fa1 (tri_ifnull 22 32) (fa1 (tri_iload 23 3) (fa1 (tri_iflt 26 32) (fa1 (tri_iload 27 3) (fa1 (tri_push 29 (.inl 7)) (fa1 (tri_cmple 32 34) (fa1 (tri_push 33 (.inl (-1))) (fa1 (tri_iret) (fa1 (tri_aload 35 0) (fa1 (tri_getR 38 11 0 (fun _ => 780)) (fa1 (tri_iload 39 1) (fa1 (tri_iload 40 3) (fa1 (tri_callI 43 3 (rcv 0) f_X0_begin) (fa1 (tri_ifeq 46 61) (fa1 (tri_aload 47 0) (fa1 (tri_getR 50 11 0 (fun _ => 780)) (fa1 (tri_iload 51 2) (fa1 (tri_callI 54 2 (rcv 0) f_X0_isLike) (fa1 (tri_ifeq 57 61) (fa1 (tri_push 58 (.inl 1)) (fa1 (tri_goto 62) (fa1 (tri_push 62 (.inl 0)) (fa1 (tri_iret) (fa0)))))))))))))))))))))))))))))))))
set_option maxRecDepth 100000 in
set_option maxHeartbeats 4000000 in
theorem ks_X11_like (G : Wp) (l : Launch) : ∀ e ∈ k_X11_like, Snd loC G l RX11 cX11_like 4 (some .int) rm_X11_like e.1 e.2 :=
  fa1 (s_aload_n (kf := 0) (j := 0) (by decide +kernel) rfl) <|
  fa1 (s_getR (t2 := 3) (g := (fun _ => 23)) (ci := 11) (f := 1) (idx := 19) (C := RX11) (T := TX11) (NF := 11) (by decide +kernel) rfl (by decide) inG_X11 (by decide) w_559 lr_X11_1 (by decide)) <|
  fa1 (s_iload_n (kf := 1) (j := 1) (by decide +kernel) rfl) <|
  fa1 (s_vcallR (t := 2) (n := 1) (ci := 3) (C := RX3) (T := TX3) (NF := 11) (idx := 98) (y := yX3_get) (by decide +kernel) (gg_X3_get) rfl (by decide) yv_X3_get (all5 w_735 w_736 w_737 w_104 w_738) rfl rfl ⟨by decide, by decide⟩) <|
  fa1 (s_ifnull (off := 24) (by decide +kernel) (by decide)) <|
  fa1 (s_aload_n (kf := 0) (j := 0) (by decide +kernel) rfl) <|
  fa1 (s_getR (t2 := 3) (g := (fun _ => 23)) (ci := 11) (f := 1) (idx := 19) (C := RX11) (T := TX11) (NF := 11) (by decide +kernel) rfl (by decide) inG_X11 (by decide) w_559 lr_X11_1 (by decide)) <|
  fa1 (s_iload_n (kf := 2) (j := 2) (by decide +kernel) rfl) <|
  fa1 (s_vcallR (t := 2) (n := 1) (ci := 3) (C := RX3) (T := TX3) (NF := 11) (idx := 98) (y := yX3_get) (by decide +kernel) (gg_X3_get) rfl (by decide) yv_X3_get (all5 w_735 w_736 w_737 w_104 w_738) rfl rfl ⟨by decide, by decide⟩) <|
  fa1 (s_ifnull (off := 13) (by decide +kernel) (by decide)) <|
  fa1 (s_iload_n (kf := 3) (j := 3) (by decide +kernel) rfl) <|
  fa1 (s_iflt (off := 9) (by decide +kernel) (by decide)) <|
  fa1 (s_iload_n (kf := 3) (j := 3) (by decide +kernel) rfl) <|
  fa1 (s_bipush (n := 7) (v := 7) (by decide +kernel) (by decide +kernel) (p32 rfl)) <|
  fa1 (s_cmple (off := 5) (by decide +kernel) (by decide)) <|
  fa1 (s_iconst (n := -1) (v := -1) (by decide +kernel) (by decide +kernel) (p32 rfl)) <|
  fa1 (s_iret (by decide +kernel) rfl) <|
  fa1 (s_aload_n (kf := 0) (j := 0) (by decide +kernel) rfl) <|
  fa1 (s_getR (t2 := 0) (g := (fun _ => 780)) (ci := 11) (f := 7) (idx := 66) (C := RX11) (T := TX11) (NF := 11) (by decide +kernel) rfl (by decide) inG_X11 (by decide) w_565 lr_X11_7 (by decide)) <|
  fa1 (s_iload_n (kf := 1) (j := 1) (by decide +kernel) rfl) <|
  fa1 (s_iload_n (kf := 3) (j := 3) (by decide +kernel) rfl) <|
  fa1 (s_vcallI (n := 2) (ci := 0) (C := RX0) (T := TX0) (NF := 11) (idx := 250) (y := yX0_begin) (by decide +kernel) (gg_X0_begin) rfl (by decide) yv_X0_begin (all5 w_1087 w_1088 w_1089 w_111 w_1090) rfl rfl ⟨by decide, by decide⟩) <|
  fa1 (s_ifeq (off := 18) (by decide +kernel) (by decide)) <|
  fa1 (s_aload_n (kf := 0) (j := 0) (by decide +kernel) rfl) <|
  fa1 (s_getR (t2 := 0) (g := (fun _ => 780)) (ci := 11) (f := 7) (idx := 66) (C := RX11) (T := TX11) (NF := 11) (by decide +kernel) rfl (by decide) inG_X11 (by decide) w_565 lr_X11_7 (by decide)) <|
  fa1 (s_iload_n (kf := 2) (j := 2) (by decide +kernel) rfl) <|
  fa1 (s_vcallI (n := 1) (ci := 0) (C := RX0) (T := TX0) (NF := 11) (idx := 253) (y := yX0_isLike) (by decide +kernel) (gg_X0_isLike) rfl (by decide) yv_X0_isLike (all5 w_1119 w_1120 w_1121 w_111 w_1122) rfl rfl ⟨by decide, by decide⟩) <|
  fa1 (s_ifeq (off := 7) (by decide +kernel) (by decide)) <|
  fa1 (s_iconst (n := 1) (v := 1) (by decide +kernel) (by decide +kernel) (p32 rfl)) <|
  fa1 (s_goto (off := 4) (by decide +kernel) (by decide)) <|
  fa1 (s_iconst (n := 0) (v := 0) (by decide +kernel) (by decide +kernel) (p32 rfl)) <|
  fa1 (s_iret (by decide +kernel) rfl) <| fa0
theorem gg_X11_like {G : Wp} {l : Launch} : GoodM loC G l yX11_like cX11_like 4 (some .int) rm_X11_like f_X11_like := met_of kt_X11_like (lkp_snd (ks_X11_like G l)) (by decide +kernel) rfl (by decide)
noncomputable def k_J6_numberOfTrailingZeros_0f7a4 : List (Nat × Ins) := [
  (0, i_iload 1 0),
  (1, i_push 2 (.inl (-1))),
  (2, i_bin 3 bXor),
  (3, i_iload 4 0),
  (4, i_push 5 (.inl 1)),
  (5, i_bin 6 (fun x y => wr (x - y))),
  (6, i_bin 7 bAnd),
  (7, i_istore 8 0),
  (8, i_iload 9 0),
  (9, i_ifgt 12 17),
  (12, i_iload 13 0),
  (13, i_push 15 (.inl 32)),
  (15, i_bin 16 bAnd),
  (16, i_iret),
  (17, i_push 18 (.inl 1)),
  (18, i_istore 19 1),
  (19, i_iload 20 0),
  (20, i_push 23 (.inl (65536))),
  (23, i_cmple 26 34),
  (26, i_iinc 29 1 (16)),
  (29, i_iload 30 0),
  (30, i_push 32 (.inl 16)),
  (32, i_bin 33 bUshr),
  (33, i_istore 34 0),
  (34, i_iload 35 0),
  (35, i_push 38 (.inl 256)),
  (38, i_cmple 41 49),
  (41, i_iinc 44 1 (8)),
  (44, i_iload 45 0),
  (45, i_push 47 (.inl 8)),
  (47, i_bin 48 bUshr),
  (48, i_istore 49 0),
  (49, i_iload 50 0),
  (50, i_push 52 (.inl 16)),
  (52, i_cmple 55 62),
  (55, i_iinc 58 1 (4)),
  (58, i_iload 59 0),
  (59, i_push 60 (.inl 4)),
  (60, i_bin 61 bUshr),
  (61, i_istore 62 0),
  (62, i_iload 63 0),
  (63, i_push 64 (.inl 4)),
  (64, i_cmple 67 74),
  (67, i_iinc 70 1 (2)),
  (70, i_iload 71 0),
  (71, i_push 72 (.inl 2)),
  (72, i_bin 73 bUshr),
  (73, i_istore 74 0),
  (74, i_iload 75 1),
  (75, i_iload 76 0),
  (76, i_push 77 (.inl 1)),
  (77, i_bin 78 bUshr),
  (78, i_bin 79 (fun x y => wr (x + y))),
  (79, i_iret)]
noncomputable def kc_J6_numberOfTrailingZeros_0f7a4 : Nat → Option Ins := lkp k_J6_numberOfTrailingZeros_0f7a4
noncomputable def f_J6_numberOfTrailingZeros_0f7a4 : List AV → Mem → Option Rs := den 2 kc_J6_numberOfTrailingZeros_0f7a4
abbrev rm_J6_numberOfTrailingZeros_0f7a4 : Room := { frames := 0, cells := 0, slots := 0, locals := 0 }
set_option maxRecDepth 100000 in
theorem kt_J6_numberOfTrailingZeros_0f7a4 : TriC kc_J6_numberOfTrailingZeros_0f7a4 := lkp_tri (fa1 (tri_iload 1 0) (fa1 (tri_push 2 (.inl (-1))) (fa1 (tri_bin 3 bXor) (fa1 (tri_iload 4 0) (fa1 (tri_push 5 (.inl 1)) (fa1 (tri_bin 6 (fun x y => wr (x - y))) (fa1 (tri_bin 7 bAnd) (fa1 (tri_istore 8 0) (fa1 (tri_iload 9 0) (fa1 (tri_ifgt 12 17) (fa1 (tri_iload 13 0) (fa1 (tri_push 15 (.inl 32)) (fa1 (tri_bin 16 bAnd) (fa1 (tri_iret) (fa1 (tri_push 18 (.inl 1)) (fa1 (tri_istore 19 1) (fa1 (tri_iload 20 0) (fa1 (tri_push 23 (.inl (65536))) (fa1 (tri_cmple 26 34) (fa1 (tri_iinc 29 1 (16)) (fa1 (tri_iload 30 0) (fa1 (tri_push 32 (.inl 16)) (fa1 (tri_bin 33 bUshr) (fa1 (tri_istore 34 0) (fa1 (tri_iload 35 0) (fa1 (tri_push 38 (.inl 256)) (fa1 (tri_cmple 41 49) (fa1 (tri_iinc 44 1 (8)) (fa1 (tri_iload 45 0) (fa1 (tri_push 47 (.inl 8)) (fa1 (tri_bin 48 bUshr) (fa1 (tri_istore 49 0) (fa1 (tri_iload 50 0) (fa1 (tri_push 52 (.inl 16)) (fa1 (tri_cmple 55 62) (fa1 (tri_iinc 58 1 (4)) (fa1 (tri_iload 59 0) (fa1 (tri_push 60 (.inl 4)) (fa1 (tri_bin 61 bUshr) (fa1 (tri_istore 62 0) (fa1 (tri_iload 63 0) (fa1 (tri_push 64 (.inl 4)) (fa1 (tri_cmple 67 74) (fa1 (tri_iinc 70 1 (2)) (fa1 (tri_iload 71 0) (fa1 (tri_push 72 (.inl 2)) (fa1 (tri_bin 73 bUshr) (fa1 (tri_istore 74 0) (fa1 (tri_iload 75 1) (fa1 (tri_iload 76 0) (fa1 (tri_push 77 (.inl 1)) (fa1 (tri_bin 78 bUshr) (fa1 (tri_bin 79 (fun x y => wr (x + y))) (fa1 (tri_iret) (fa0)))))))))))))))))))))))))))))))))))))))))))))))))))))))
set_option maxRecDepth 100000 in
set_option maxHeartbeats 4000000 in
theorem ks_J6_numberOfTrailingZeros_0f7a4 (G : Wp) (l : Launch) : ∀ e ∈ k_J6_numberOfTrailingZeros_0f7a4, Snd loC G l RJ6 cJ6_numberOfTrailingZeros_0f7a4 2 (some .int) rm_J6_numberOfTrailingZeros_0f7a4 e.1 e.2 :=
  fa1 (s_iload_n (kf := 0) (j := 0) (by decide +kernel) rfl) <|
  fa1 (s_iconst (n := -1) (v := -1) (by decide +kernel) (by decide +kernel) (p32 rfl)) <|
  fa1 (s_ixor (by decide +kernel)) <|
  fa1 (s_iload_n (kf := 0) (j := 0) (by decide +kernel) rfl) <|
  fa1 (s_iconst (n := 1) (v := 1) (by decide +kernel) (by decide +kernel) (p32 rfl)) <|
  fa1 (s_isub (by decide +kernel)) <|
  fa1 (s_iand (by decide +kernel)) <|
  fa1 (s_istore_n (kf := 0) (j := 0) (by decide +kernel) rfl (by decide)) <|
  fa1 (s_iload_n (kf := 0) (j := 0) (by decide +kernel) rfl) <|
  fa1 (s_ifgt (off := 8) (by decide +kernel) (by decide)) <|
  fa1 (s_iload_n (kf := 0) (j := 0) (by decide +kernel) rfl) <|
  fa1 (s_bipush (n := 32) (v := 32) (by decide +kernel) (by decide +kernel) (p32 rfl)) <|
  fa1 (s_iand (by decide +kernel)) <|
  fa1 (s_iret (by decide +kernel) rfl) <|
  fa1 (s_iconst (n := 1) (v := 1) (by decide +kernel) (by decide +kernel) (p32 rfl)) <|
  fa1 (s_istore_n (kf := 1) (j := 1) (by decide +kernel) rfl (by decide)) <|
  fa1 (s_iload_n (kf := 0) (j := 0) (by decide +kernel) rfl) <|
  fa1 (s_ldcw (idx := 264) (v := 65536) (by decide +kernel) w_1165 (p32 rfl)) <|
  fa1 (s_cmple (off := 11) (by decide +kernel) (by decide)) <|
  fa1 (s_iinc (j := 1) (d := 16) (by decide +kernel) (by decide)) <|
  fa1 (s_iload_n (kf := 0) (j := 0) (by decide +kernel) rfl) <|
  fa1 (s_bipush (n := 16) (v := 16) (by decide +kernel) (by decide +kernel) (p32 rfl)) <|
  fa1 (s_iushr (by decide +kernel)) <|
  fa1 (s_istore_n (kf := 0) (j := 0) (by decide +kernel) rfl (by decide)) <|
  fa1 (s_iload_n (kf := 0) (j := 0) (by decide +kernel) rfl) <|
  fa1 (s_sipush (n := 256) (v := 256) (by decide +kernel) (by decide +kernel) (p32 rfl)) <|
  fa1 (s_cmple (off := 11) (by decide +kernel) (by decide)) <|
  fa1 (s_iinc (j := 1) (d := 8) (by decide +kernel) (by decide)) <|
  fa1 (s_iload_n (kf := 0) (j := 0) (by decide +kernel) rfl) <|
  fa1 (s_bipush (n := 8) (v := 8) (by decide +kernel) (by decide +kernel) (p32 rfl)) <|
  fa1 (s_iushr (by decide +kernel)) <|
  fa1 (s_istore_n (kf := 0) (j := 0) (by decide +kernel) rfl (by decide)) <|
  fa1 (s_iload_n (kf := 0) (j := 0) (by decide +kernel) rfl) <|
  fa1 (s_bipush (n := 16) (v := 16) (by decide +kernel) (by decide +kernel) (p32 rfl)) <|
  fa1 (s_cmple (off := 10) (by decide +kernel) (by decide)) <|
  fa1 (s_iinc (j := 1) (d := 4) (by decide +kernel) (by decide)) <|
  fa1 (s_iload_n (kf := 0) (j := 0) (by decide +kernel) rfl) <|
  fa1 (s_iconst (n := 4) (v := 4) (by decide +kernel) (by decide +kernel) (p32 rfl)) <|
  fa1 (s_iushr (by decide +kernel)) <|
  fa1 (s_istore_n (kf := 0) (j := 0) (by decide +kernel) rfl (by decide)) <|
  fa1 (s_iload_n (kf := 0) (j := 0) (by decide +kernel) rfl) <|
  fa1 (s_iconst (n := 4) (v := 4) (by decide +kernel) (by decide +kernel) (p32 rfl)) <|
  fa1 (s_cmple (off := 10) (by decide +kernel) (by decide)) <|
  fa1 (s_iinc (j := 1) (d := 2) (by decide +kernel) (by decide)) <|
  fa1 (s_iload_n (kf := 0) (j := 0) (by decide +kernel) rfl) <|
  fa1 (s_iconst (n := 2) (v := 2) (by decide +kernel) (by decide +kernel) (p32 rfl)) <|
  fa1 (s_iushr (by decide +kernel)) <|
  fa1 (s_istore_n (kf := 0) (j := 0) (by decide +kernel) rfl (by decide)) <|
  fa1 (s_iload_n (kf := 1) (j := 1) (by decide +kernel) rfl) <|
  fa1 (s_iload_n (kf := 0) (j := 0) (by decide +kernel) rfl) <|
  fa1 (s_iconst (n := 1) (v := 1) (by decide +kernel) (by decide +kernel) (p32 rfl)) <|
  fa1 (s_iushr (by decide +kernel)) <|
  fa1 (s_iadd (by decide +kernel)) <|
  fa1 (s_iret (by decide +kernel) rfl) <| fa0
theorem gg_J6_numberOfTrailingZeros_0f7a4 {G : Wp} {l : Launch} : GoodM loC G l yJ6_numberOfTrailingZeros_0f7a4 cJ6_numberOfTrailingZeros_0f7a4 2 (some .int) rm_J6_numberOfTrailingZeros_0f7a4 f_J6_numberOfTrailingZeros_0f7a4 := met_of kt_J6_numberOfTrailingZeros_0f7a4 (lkp_snd (ks_J6_numberOfTrailingZeros_0f7a4 G l)) (by decide +kernel) rfl (by decide)
noncomputable def k_X11_find : List (Nat × Ins) := [
  (0, i_aload 1 0),
  (1, i_getR 4 11 3 (fun _ => 23)),
  (4, i_iload 5 1),
  (5, i_callR 8 2 2 (rcv 3) f_X3_get),
  (8, i_ifnull 11 30),
  (11, i_iload 12 2),
  (12, i_iflt 15 30),
  (15, i_iload 16 2),
  (16, i_push 18 (.inl 7)),
  (18, i_cmpgt 21 30),
  (21, i_iload 22 3),
  (22, i_iflt 25 30),
  (25, i_iload 26 3),
  (26, i_push 27 (.inl 1)),
  (27, i_cmple 30 32),
  (30, i_push 31 (.inl (-1))),
  (31, i_iret),
  (32, i_aload 33 0),
  (33, i_getR 36 11 0 (fun _ => 780)),
  (36, i_iload 37 1),
  (37, i_iload 38 2),
  (38, i_callI 41 3 (rcv 0) f_X0_allLike),
  (41, i_istore 43 4),
  (43, i_iload 44 3),
  (44, i_ifne 47 53),
  (47, i_iload 49 4),
  (49, i_callI 52 1 anyv f_J6_bitCount_0f7a4),
  (52, i_iret),
  (53, i_iload 55 4),
  (55, i_ifne 58 63),
  (58, i_push 60 (.inl (-4))),
  (60, i_goto 68),
  (63, i_iload 65 4),
  (65, i_callI 68 1 anyv f_J6_numberOfTrailingZeros_0f7a4),
  (68, i_iret)]
noncomputable def kc_X11_find : Nat → Option Ins := lkp k_X11_find
noncomputable def f_X11_find : List AV → Mem → Option Rs := den 5 kc_X11_find
abbrev rm_X11_find : Room := { frames := 7, cells := 0, slots := 0, locals := 168 }
set_option maxRecDepth 100000 in
theorem kt_X11_find : TriC kc_X11_find := lkp_tri (fa1 (tri_aload 1 0) (fa1 (tri_getR 4 11 3 (fun _ => 23)) (fa1 (tri_iload 5 1) (fa1 (tri_callR 8 2 2 (rcv 3) f_X3_get) (fa1 (tri_ifnull 11 30) (fa1 (tri_iload 12 2) (fa1 (tri_iflt 15 30) (fa1 (tri_iload 16 2) (fa1 (tri_push 18 (.inl 7)) (fa1 (tri_cmpgt 21 30) (fa1 (tri_iload 22 3) (fa1 (tri_iflt 25 30) (fa1 (tri_iload 26 3) (fa1 (tri_push 27 (.inl 1)) (fa1 (tri_cmple 30 32) (fa1 (tri_push 31 (.inl (-1))) (fa1 (tri_iret) (fa1 (tri_aload 33 0) (fa1 (tri_getR 36 11 0 (fun _ => 780)) (fa1 (tri_iload 37 1) (fa1 (tri_iload 38 2) (fa1 (tri_callI 41 3 (rcv 0) f_X0_allLike) (fa1 (tri_istore 43 4) (fa1 (tri_iload 44 3) (fa1 (tri_ifne 47 53) (fa1 (tri_iload 49 4) (fa1 (tri_callI 52 1 anyv f_J6_bitCount_0f7a4) (fa1 (tri_iret) (fa1 (tri_iload 55 4) (fa1 (tri_ifne 58 63) (fa1 (tri_push 60 (.inl (-4))) (fa1 (tri_goto 68) (fa1 (tri_iload 65 4) (fa1 (tri_callI 68 1 anyv f_J6_numberOfTrailingZeros_0f7a4) (fa1 (tri_iret) (fa0))))))))))))))))))))))))))))))))))))
set_option maxRecDepth 100000 in
set_option maxHeartbeats 4000000 in
theorem ks_X11_find (G : Wp) (l : Launch) : ∀ e ∈ k_X11_find, Snd loC G l RX11 cX11_find 5 (some .int) rm_X11_find e.1 e.2 :=
  fa1 (s_aload_n (kf := 0) (j := 0) (by decide +kernel) rfl) <|
  fa1 (s_getR (t2 := 3) (g := (fun _ => 23)) (ci := 11) (f := 1) (idx := 19) (C := RX11) (T := TX11) (NF := 11) (by decide +kernel) rfl (by decide) inG_X11 (by decide) w_559 lr_X11_1 (by decide)) <|
  fa1 (s_iload_n (kf := 1) (j := 1) (by decide +kernel) rfl) <|
  fa1 (s_vcallR (t := 2) (n := 1) (ci := 3) (C := RX3) (T := TX3) (NF := 11) (idx := 98) (y := yX3_get) (by decide +kernel) (gg_X3_get) rfl (by decide) yv_X3_get (all5 w_735 w_736 w_737 w_104 w_738) rfl rfl ⟨by decide, by decide⟩) <|
  fa1 (s_ifnull (off := 22) (by decide +kernel) (by decide)) <|
  fa1 (s_iload_n (kf := 2) (j := 2) (by decide +kernel) rfl) <|
  fa1 (s_iflt (off := 18) (by decide +kernel) (by decide)) <|
  fa1 (s_iload_n (kf := 2) (j := 2) (by decide +kernel) rfl) <|
  fa1 (s_bipush (n := 7) (v := 7) (by decide +kernel) (by decide +kernel) (p32 rfl)) <|
  fa1 (s_cmpgt (off := 12) (by decide +kernel) (by decide)) <|
  fa1 (s_iload_n (kf := 3) (j := 3) (by decide +kernel) rfl) <|
  fa1 (s_iflt (off := 8) (by decide +kernel) (by decide)) <|
  fa1 (s_iload_n (kf := 3) (j := 3) (by decide +kernel) rfl) <|
  fa1 (s_iconst (n := 1) (v := 1) (by decide +kernel) (by decide +kernel) (p32 rfl)) <|
  fa1 (s_cmple (off := 5) (by decide +kernel) (by decide)) <|
  fa1 (s_iconst (n := -1) (v := -1) (by decide +kernel) (by decide +kernel) (p32 rfl)) <|
  fa1 (s_iret (by decide +kernel) rfl) <|
  fa1 (s_aload_n (kf := 0) (j := 0) (by decide +kernel) rfl) <|
  fa1 (s_getR (t2 := 0) (g := (fun _ => 780)) (ci := 11) (f := 7) (idx := 66) (C := RX11) (T := TX11) (NF := 11) (by decide +kernel) rfl (by decide) inG_X11 (by decide) w_565 lr_X11_7 (by decide)) <|
  fa1 (s_iload_n (kf := 1) (j := 1) (by decide +kernel) rfl) <|
  fa1 (s_iload_n (kf := 2) (j := 2) (by decide +kernel) rfl) <|
  fa1 (s_vcallI (n := 2) (ci := 0) (C := RX0) (T := TX0) (NF := 11) (idx := 257) (y := yX0_allLike) (by decide +kernel) (gg_X0_allLike) rfl (by decide) yv_X0_allLike (all5 w_1156 w_1157 w_1158 w_111 w_1159) rfl rfl ⟨by decide, by decide⟩) <|
  fa1 (s_istore (j := 4) (by decide +kernel) (by decide)) <|
  fa1 (s_iload_n (kf := 3) (j := 3) (by decide +kernel) rfl) <|
  fa1 (s_ifne (off := 9) (by decide +kernel) (by decide)) <|
  fa1 (s_iload (j := 4) (by decide +kernel)) <|
  fa1 (s_scallI (n := 1) (idx := 135) (y := yJ6_bitCount_0f7a4) (by decide +kernel) (gg_J6_bitCount_0f7a4) yv_J6_bitCount_0f7a4 (all4 w_744 w_745 w_114 w_746) rfl rfl ⟨by decide, by decide⟩) <|
  fa1 (s_iret (by decide +kernel) rfl) <|
  fa1 (s_iload (j := 4) (by decide +kernel)) <|
  fa1 (s_ifne (off := 8) (by decide +kernel) (by decide)) <|
  fa1 (s_bipush (n := -4) (v := -4) (by decide +kernel) (by decide +kernel) (p32 rfl)) <|
  fa1 (s_goto (off := 8) (by decide +kernel) (by decide)) <|
  fa1 (s_iload (j := 4) (by decide +kernel)) <|
  fa1 (s_scallI (n := 1) (idx := 260) (y := yJ6_numberOfTrailingZeros_0f7a4) (by decide +kernel) (gg_J6_numberOfTrailingZeros_0f7a4) yv_J6_numberOfTrailingZeros_0f7a4 (all4 w_1162 w_1163 w_114 w_1164) rfl rfl ⟨by decide, by decide⟩) <|
  fa1 (s_iret (by decide +kernel) rfl) <| fa0
theorem gg_X11_find {G : Wp} {l : Launch} : GoodM loC G l yX11_find cX11_find 5 (some .int) rm_X11_find f_X11_find := met_of kt_X11_find (lkp_snd (ks_X11_find G l)) (by decide +kernel) rfl (by decide)
noncomputable def k_X11_teach : List (Nat × Ins) := [
  (0, i_iload 1 3),
  (1, i_push 3 (.inl 10)),
  (3, i_bin 4 (fun x y => wr (x - y))),
  (4, i_istore 6 4),
  (6, i_iload 7 3),
  (7, i_ifeq 10 23),
  (10, i_iload 11 3),
  (11, i_push 13 (.inl 10)),
  (13, i_cmplt 16 27),
  (16, i_iload 18 4),
  (18, i_push 20 (.inl 24)),
  (20, i_cmpge 23 27),
  (23, i_push 24 (.inl 1)),
  (24, i_goto 28),
  (27, i_push 28 (.inl 0)),
  (28, i_istore 30 5),
  (30, i_aload 31 0),
  (31, i_getR 34 11 3 (fun _ => 23)),
  (34, i_iload 35 1),
  (35, i_callR 38 2 2 (rcv 3) f_X3_get),
  (38, i_ifnull 41 63),
  (41, i_iload 42 2),
  (42, i_iflt 45 63),
  (45, i_iload 46 2),
  (46, i_push 47 (.inl 1)),
  (47, i_aload 48 0),
  (48, i_getR 51 11 3 (fun _ => 23)),
  (51, i_getI 54 3 9),
  (54, i_bin 55 bShl),
  (55, i_cmpge 58 63),
  (58, i_iload 60 5),
  (60, i_ifne 63 65),
  (63, i_push 64 (.inl (-1))),
  (64, i_iret),
  (65, i_push 66 (.inl 1)),
  (66, i_iload 67 1),
  (67, i_bin 68 bShl),
  (68, i_aload 69 0),
  (69, i_getR 72 11 3 (fun _ => 23)),
  (72, i_iload 73 1),
  (73, i_callI 76 2 (rcv 3) f_X3_underOf),
  (76, i_bin 77 bOr),
  (77, i_iload 78 2),
  (78, i_push 79 (.inl (-1))),
  (79, i_bin 80 bXor),
  (80, i_bin 81 bAnd),
  (81, i_istore 83 6),
  (83, i_iload 84 3),
  (84, i_ifne 87 95),
  (87, i_iload 89 6),
  (89, i_callI 92 1 anyv f_J6_bitCount_0f7a4),
  (92, i_goto 106),
  (95, i_aload 96 0),
  (96, i_getR 99 11 3 (fun _ => 23)),
  (99, i_iload 101 6),
  (101, i_iload 103 4),
  (103, i_callI 106 3 (rcv 3) f_X3_lessonAt),
  (106, i_iret)]
noncomputable def kc_X11_teach : Nat → Option Ins := lkp k_X11_teach
noncomputable def f_X11_teach : List AV → Mem → Option Rs := den 7 kc_X11_teach
abbrev rm_X11_teach : Room := { frames := 4, cells := 0, slots := 0, locals := 90 }
set_option maxRecDepth 100000 in
theorem kt_X11_teach : TriC kc_X11_teach := lkp_tri (fa1 (tri_iload 1 3) (fa1 (tri_push 3 (.inl 10)) (fa1 (tri_bin 4 (fun x y => wr (x - y))) (fa1 (tri_istore 6 4) (fa1 (tri_iload 7 3) (fa1 (tri_ifeq 10 23) (fa1 (tri_iload 11 3) (fa1 (tri_push 13 (.inl 10)) (fa1 (tri_cmplt 16 27) (fa1 (tri_iload 18 4) (fa1 (tri_push 20 (.inl 24)) (fa1 (tri_cmpge 23 27) (fa1 (tri_push 24 (.inl 1)) (fa1 (tri_goto 28) (fa1 (tri_push 28 (.inl 0)) (fa1 (tri_istore 30 5) (fa1 (tri_aload 31 0) (fa1 (tri_getR 34 11 3 (fun _ => 23)) (fa1 (tri_iload 35 1) (fa1 (tri_callR 38 2 2 (rcv 3) f_X3_get) (fa1 (tri_ifnull 41 63) (fa1 (tri_iload 42 2) (fa1 (tri_iflt 45 63) (fa1 (tri_iload 46 2) (fa1 (tri_push 47 (.inl 1)) (fa1 (tri_aload 48 0) (fa1 (tri_getR 51 11 3 (fun _ => 23)) (fa1 (tri_getI 54 3 9) (fa1 (tri_bin 55 bShl) (fa1 (tri_cmpge 58 63) (fa1 (tri_iload 60 5) (fa1 (tri_ifne 63 65) (fa1 (tri_push 64 (.inl (-1))) (fa1 (tri_iret) (fa1 (tri_push 66 (.inl 1)) (fa1 (tri_iload 67 1) (fa1 (tri_bin 68 bShl) (fa1 (tri_aload 69 0) (fa1 (tri_getR 72 11 3 (fun _ => 23)) (fa1 (tri_iload 73 1) (fa1 (tri_callI 76 2 (rcv 3) f_X3_underOf) (fa1 (tri_bin 77 bOr) (fa1 (tri_iload 78 2) (fa1 (tri_push 79 (.inl (-1))) (fa1 (tri_bin 80 bXor) (fa1 (tri_bin 81 bAnd) (fa1 (tri_istore 83 6) (fa1 (tri_iload 84 3) (fa1 (tri_ifne 87 95) (fa1 (tri_iload 89 6) (fa1 (tri_callI 92 1 anyv f_J6_bitCount_0f7a4) (fa1 (tri_goto 106) (fa1 (tri_aload 96 0) (fa1 (tri_getR 99 11 3 (fun _ => 23)) (fa1 (tri_iload 101 6) (fa1 (tri_iload 103 4) (fa1 (tri_callI 106 3 (rcv 3) f_X3_lessonAt) (fa1 (tri_iret) (fa0)))))))))))))))))))))))))))))))))))))))))))))))))))))))))))
set_option maxRecDepth 100000 in
set_option maxHeartbeats 4000000 in
theorem ks_X11_teach (G : Wp) (l : Launch) : ∀ e ∈ k_X11_teach, Snd loC G l RX11 cX11_teach 7 (some .int) rm_X11_teach e.1 e.2 :=
  fa1 (s_iload_n (kf := 3) (j := 3) (by decide +kernel) rfl) <|
  fa1 (s_bipush (n := 10) (v := 10) (by decide +kernel) (by decide +kernel) (p32 rfl)) <|
  fa1 (s_isub (by decide +kernel)) <|
  fa1 (s_istore (j := 4) (by decide +kernel) (by decide)) <|
  fa1 (s_iload_n (kf := 3) (j := 3) (by decide +kernel) rfl) <|
  fa1 (s_ifeq (off := 16) (by decide +kernel) (by decide)) <|
  fa1 (s_iload_n (kf := 3) (j := 3) (by decide +kernel) rfl) <|
  fa1 (s_bipush (n := 10) (v := 10) (by decide +kernel) (by decide +kernel) (p32 rfl)) <|
  fa1 (s_cmplt (off := 14) (by decide +kernel) (by decide)) <|
  fa1 (s_iload (j := 4) (by decide +kernel)) <|
  fa1 (s_bipush (n := 24) (v := 24) (by decide +kernel) (by decide +kernel) (p32 rfl)) <|
  fa1 (s_cmpge (off := 7) (by decide +kernel) (by decide)) <|
  fa1 (s_iconst (n := 1) (v := 1) (by decide +kernel) (by decide +kernel) (p32 rfl)) <|
  fa1 (s_goto (off := 4) (by decide +kernel) (by decide)) <|
  fa1 (s_iconst (n := 0) (v := 0) (by decide +kernel) (by decide +kernel) (p32 rfl)) <|
  fa1 (s_istore (j := 5) (by decide +kernel) (by decide)) <|
  fa1 (s_aload_n (kf := 0) (j := 0) (by decide +kernel) rfl) <|
  fa1 (s_getR (t2 := 3) (g := (fun _ => 23)) (ci := 11) (f := 1) (idx := 19) (C := RX11) (T := TX11) (NF := 11) (by decide +kernel) rfl (by decide) inG_X11 (by decide) w_559 lr_X11_1 (by decide)) <|
  fa1 (s_iload_n (kf := 1) (j := 1) (by decide +kernel) rfl) <|
  fa1 (s_vcallR (t := 2) (n := 1) (ci := 3) (C := RX3) (T := TX3) (NF := 11) (idx := 98) (y := yX3_get) (by decide +kernel) (gg_X3_get) rfl (by decide) yv_X3_get (all5 w_735 w_736 w_737 w_104 w_738) rfl rfl ⟨by decide, by decide⟩) <|
  fa1 (s_ifnull (off := 25) (by decide +kernel) (by decide)) <|
  fa1 (s_iload_n (kf := 2) (j := 2) (by decide +kernel) rfl) <|
  fa1 (s_iflt (off := 21) (by decide +kernel) (by decide)) <|
  fa1 (s_iload_n (kf := 2) (j := 2) (by decide +kernel) rfl) <|
  fa1 (s_iconst (n := 1) (v := 1) (by decide +kernel) (by decide +kernel) (p32 rfl)) <|
  fa1 (s_aload_n (kf := 0) (j := 0) (by decide +kernel) rfl) <|
  fa1 (s_getR (t2 := 3) (g := (fun _ => 23)) (ci := 11) (f := 1) (idx := 19) (C := RX11) (T := TX11) (NF := 11) (by decide +kernel) rfl (by decide) inG_X11 (by decide) w_559 lr_X11_1 (by decide)) <|
  fa1 (s_getI (ci := 3) (f := 9) (idx := 263) (C := RX3) (T := TX3) (NF := 11) (by decide +kernel) rfl (by decide) inG_X3 (by decide) w_264 li_X3_9) <|
  fa1 (s_ishl (by decide +kernel)) <|
  fa1 (s_cmpge (off := 8) (by decide +kernel) (by decide)) <|
  fa1 (s_iload (j := 5) (by decide +kernel)) <|
  fa1 (s_ifne (off := 5) (by decide +kernel) (by decide)) <|
  fa1 (s_iconst (n := -1) (v := -1) (by decide +kernel) (by decide +kernel) (p32 rfl)) <|
  fa1 (s_iret (by decide +kernel) rfl) <|
  fa1 (s_iconst (n := 1) (v := 1) (by decide +kernel) (by decide +kernel) (p32 rfl)) <|
  fa1 (s_iload_n (kf := 1) (j := 1) (by decide +kernel) rfl) <|
  fa1 (s_ishl (by decide +kernel)) <|
  fa1 (s_aload_n (kf := 0) (j := 0) (by decide +kernel) rfl) <|
  fa1 (s_getR (t2 := 3) (g := (fun _ => 23)) (ci := 11) (f := 1) (idx := 19) (C := RX11) (T := TX11) (NF := 11) (by decide +kernel) rfl (by decide) inG_X11 (by decide) w_559 lr_X11_1 (by decide)) <|
  fa1 (s_iload_n (kf := 1) (j := 1) (by decide +kernel) rfl) <|
  fa1 (s_vcallI (n := 1) (ci := 3) (C := RX3) (T := TX3) (NF := 11) (idx := 131) (y := yX3_underOf) (by decide +kernel) (gg_X3_underOf) rfl (by decide) yv_X3_underOf (all5 w_739 w_740 w_741 w_104 w_742) rfl rfl ⟨by decide, by decide⟩) <|
  fa1 (s_ior (by decide +kernel)) <|
  fa1 (s_iload_n (kf := 2) (j := 2) (by decide +kernel) rfl) <|
  fa1 (s_iconst (n := -1) (v := -1) (by decide +kernel) (by decide +kernel) (p32 rfl)) <|
  fa1 (s_ixor (by decide +kernel)) <|
  fa1 (s_iand (by decide +kernel)) <|
  fa1 (s_istore (j := 6) (by decide +kernel) (by decide)) <|
  fa1 (s_iload_n (kf := 3) (j := 3) (by decide +kernel) rfl) <|
  fa1 (s_ifne (off := 11) (by decide +kernel) (by decide)) <|
  fa1 (s_iload (j := 6) (by decide +kernel)) <|
  fa1 (s_scallI (n := 1) (idx := 135) (y := yJ6_bitCount_0f7a4) (by decide +kernel) (gg_J6_bitCount_0f7a4) yv_J6_bitCount_0f7a4 (all4 w_744 w_745 w_114 w_746) rfl rfl ⟨by decide, by decide⟩) <|
  fa1 (s_goto (off := 14) (by decide +kernel) (by decide)) <|
  fa1 (s_aload_n (kf := 0) (j := 0) (by decide +kernel) rfl) <|
  fa1 (s_getR (t2 := 3) (g := (fun _ => 23)) (ci := 11) (f := 1) (idx := 19) (C := RX11) (T := TX11) (NF := 11) (by decide +kernel) rfl (by decide) inG_X11 (by decide) w_559 lr_X11_1 (by decide)) <|
  fa1 (s_iload (j := 6) (by decide +kernel)) <|
  fa1 (s_iload (j := 4) (by decide +kernel)) <|
  fa1 (s_vcallI (n := 2) (ci := 3) (C := RX3) (T := TX3) (NF := 11) (idx := 264) (y := yX3_lessonAt) (by decide +kernel) (gg_X3_lessonAt) rfl (by decide) yv_X3_lessonAt (all5 w_1170 w_1171 w_1172 w_104 w_1173) rfl rfl ⟨by decide, by decide⟩) <|
  fa1 (s_iret (by decide +kernel) rfl) <| fa0
theorem gg_X11_teach {G : Wp} {l : Launch} : GoodM loC G l yX11_teach cX11_teach 7 (some .int) rm_X11_teach f_X11_teach := met_of kt_X11_teach (lkp_snd (ks_X11_teach G l)) (by decide +kernel) rfl (by decide)
noncomputable def k_X11_sheet : List (Nat × Ins) := [
  (0, i_aload 1 0),
  (1, i_getR 4 11 5 (fun _ => 796)),
  (4, i_iload 5 1),
  (5, i_callI 8 2 (rcv 5) f_X5_isSheet),
  (8, i_ifeq 11 28),
  (11, i_aload 12 0),
  (12, i_getR 15 11 5 (fun _ => 796)),
  (15, i_iload 16 2),
  (16, i_callI 19 2 (rcv 5) f_X5_isLane),
  (19, i_ifeq 22 28),
  (22, i_iload 23 3),
  (23, i_push 25 (.inl 90)),
  (25, i_cmple 28 30),
  (28, i_push 29 (.inl (-1))),
  (29, i_iret),
  (30, i_iload 31 3),
  (31, i_ifge 34 39),
  (34, i_push 36 (.inl (-14))),
  (36, i_goto 49),
  (39, i_aload 40 0),
  (40, i_getR 43 11 5 (fun _ => 796)),
  (43, i_iload 44 1),
  (44, i_iload 45 2),
  (45, i_iload 46 3),
  (46, i_callI 49 4 (rcv 5) f_X5_renew),
  (49, i_iret)]
noncomputable def kc_X11_sheet : Nat → Option Ins := lkp k_X11_sheet
noncomputable def f_X11_sheet : List AV → Mem → Option Rs := den 4 kc_X11_sheet
abbrev rm_X11_sheet : Room := { frames := 2, cells := 0, slots := 0, locals := 45 }
set_option maxRecDepth 100000 in
theorem kt_X11_sheet : TriC kc_X11_sheet := lkp_tri (fa1 (tri_aload 1 0) (fa1 (tri_getR 4 11 5 (fun _ => 796)) (fa1 (tri_iload 5 1) (fa1 (tri_callI 8 2 (rcv 5) f_X5_isSheet) (fa1 (tri_ifeq 11 28) (fa1 (tri_aload 12 0) (fa1 (tri_getR 15 11 5 (fun _ => 796)) (fa1 (tri_iload 16 2) (fa1 (tri_callI 19 2 (rcv 5) f_X5_isLane) (fa1 (tri_ifeq 22 28) (fa1 (tri_iload 23 3) (fa1 (tri_push 25 (.inl 90)) (fa1 (tri_cmple 28 30) (fa1 (tri_push 29 (.inl (-1))) (fa1 (tri_iret) (fa1 (tri_iload 31 3) (fa1 (tri_ifge 34 39) (fa1 (tri_push 36 (.inl (-14))) (fa1 (tri_goto 49) (fa1 (tri_aload 40 0) (fa1 (tri_getR 43 11 5 (fun _ => 796)) (fa1 (tri_iload 44 1) (fa1 (tri_iload 45 2) (fa1 (tri_iload 46 3) (fa1 (tri_callI 49 4 (rcv 5) f_X5_renew) (fa1 (tri_iret) (fa0)))))))))))))))))))))))))))
set_option maxRecDepth 100000 in
set_option maxHeartbeats 4000000 in
theorem ks_X11_sheet (G : Wp) (l : Launch) : ∀ e ∈ k_X11_sheet, Snd loC G l RX11 cX11_sheet 4 (some .int) rm_X11_sheet e.1 e.2 :=
  fa1 (s_aload_n (kf := 0) (j := 0) (by decide +kernel) rfl) <|
  fa1 (s_getR (t2 := 5) (g := (fun _ => 796)) (ci := 11) (f := 8) (idx := 73) (C := RX11) (T := TX11) (NF := 11) (by decide +kernel) rfl (by decide) inG_X11 (by decide) w_566 lr_X11_8 (by decide)) <|
  fa1 (s_iload_n (kf := 1) (j := 1) (by decide +kernel) rfl) <|
  fa1 (s_vcallI (n := 1) (ci := 5) (C := RX5) (T := TX5) (NF := 3) (idx := 267) (y := yX5_isSheet) (by decide +kernel) (gg_X5_isSheet) rfl (by decide) yv_X5_isSheet (all5 w_1182 w_1183 w_1184 w_112 w_1185) rfl rfl ⟨by decide, by decide⟩) <|
  fa1 (s_ifeq (off := 20) (by decide +kernel) (by decide)) <|
  fa1 (s_aload_n (kf := 0) (j := 0) (by decide +kernel) rfl) <|
  fa1 (s_getR (t2 := 5) (g := (fun _ => 796)) (ci := 11) (f := 8) (idx := 73) (C := RX11) (T := TX11) (NF := 11) (by decide +kernel) rfl (by decide) inG_X11 (by decide) w_566 lr_X11_8 (by decide)) <|
  fa1 (s_iload_n (kf := 2) (j := 2) (by decide +kernel) rfl) <|
  fa1 (s_vcallI (n := 1) (ci := 5) (C := RX5) (T := TX5) (NF := 3) (idx := 270) (y := yX5_isLane) (by decide +kernel) (gg_X5_isLane) rfl (by decide) yv_X5_isLane (all5 w_1186 w_1187 w_1188 w_112 w_1189) rfl rfl ⟨by decide, by decide⟩) <|
  fa1 (s_ifeq (off := 9) (by decide +kernel) (by decide)) <|
  fa1 (s_iload_n (kf := 3) (j := 3) (by decide +kernel) rfl) <|
  fa1 (s_bipush (n := 90) (v := 90) (by decide +kernel) (by decide +kernel) (p32 rfl)) <|
  fa1 (s_cmple (off := 5) (by decide +kernel) (by decide)) <|
  fa1 (s_iconst (n := -1) (v := -1) (by decide +kernel) (by decide +kernel) (p32 rfl)) <|
  fa1 (s_iret (by decide +kernel) rfl) <|
  fa1 (s_iload_n (kf := 3) (j := 3) (by decide +kernel) rfl) <|
  fa1 (s_ifge (off := 8) (by decide +kernel) (by decide)) <|
  fa1 (s_bipush (n := -14) (v := -14) (by decide +kernel) (by decide +kernel) (p32 rfl)) <|
  fa1 (s_goto (off := 13) (by decide +kernel) (by decide)) <|
  fa1 (s_aload_n (kf := 0) (j := 0) (by decide +kernel) rfl) <|
  fa1 (s_getR (t2 := 5) (g := (fun _ => 796)) (ci := 11) (f := 8) (idx := 73) (C := RX11) (T := TX11) (NF := 11) (by decide +kernel) rfl (by decide) inG_X11 (by decide) w_566 lr_X11_8 (by decide)) <|
  fa1 (s_iload_n (kf := 1) (j := 1) (by decide +kernel) rfl) <|
  fa1 (s_iload_n (kf := 2) (j := 2) (by decide +kernel) rfl) <|
  fa1 (s_iload_n (kf := 3) (j := 3) (by decide +kernel) rfl) <|
  fa1 (s_vcallI (n := 3) (ci := 5) (C := RX5) (T := TX5) (NF := 3) (idx := 273) (y := yX5_renew) (by decide +kernel) (gg_X5_renew) rfl (by decide) yv_X5_renew (all5 w_1190 w_1191 w_1192 w_112 w_1193) rfl rfl ⟨by decide, by decide⟩) <|
  fa1 (s_iret (by decide +kernel) rfl) <| fa0
theorem gg_X11_sheet {G : Wp} {l : Launch} : GoodM loC G l yX11_sheet cX11_sheet 4 (some .int) rm_X11_sheet f_X11_sheet := met_of kt_X11_sheet (lkp_snd (ks_X11_sheet G l)) (by decide +kernel) rfl (by decide)
noncomputable def k_X11_lay : List (Nat × Ins) := [
  (0, i_aload 1 0),
  (1, i_getR 4 11 5 (fun _ => 796)),
  (4, i_iload 5 1),
  (5, i_callI 8 2 (rcv 5) f_X5_isSheet),
  (8, i_ifne 11 13),
  (11, i_push 12 (.inl (-1))),
  (12, i_iret),
  (13, i_aload 14 0),
  (14, i_getR 17 11 5 (fun _ => 796)),
  (17, i_iload 18 1),
  (18, i_iload 19 2),
  (19, i_iload 20 3),
  (20, i_callI 23 4 (rcv 5) f_X5_write),
  (23, i_iret)]
noncomputable def kc_X11_lay : Nat → Option Ins := lkp k_X11_lay
noncomputable def f_X11_lay : List AV → Mem → Option Rs := den 4 kc_X11_lay
abbrev rm_X11_lay : Room := { frames := 2, cells := 0, slots := 0, locals := 45 }
set_option maxRecDepth 100000 in
theorem kt_X11_lay : TriC kc_X11_lay := lkp_tri (fa1 (tri_aload 1 0) (fa1 (tri_getR 4 11 5 (fun _ => 796)) (fa1 (tri_iload 5 1) (fa1 (tri_callI 8 2 (rcv 5) f_X5_isSheet) (fa1 (tri_ifne 11 13) (fa1 (tri_push 12 (.inl (-1))) (fa1 (tri_iret) (fa1 (tri_aload 14 0) (fa1 (tri_getR 17 11 5 (fun _ => 796)) (fa1 (tri_iload 18 1) (fa1 (tri_iload 19 2) (fa1 (tri_iload 20 3) (fa1 (tri_callI 23 4 (rcv 5) f_X5_write) (fa1 (tri_iret) (fa0)))))))))))))))
set_option maxRecDepth 100000 in
set_option maxHeartbeats 4000000 in
theorem ks_X11_lay (G : Wp) (l : Launch) : ∀ e ∈ k_X11_lay, Snd loC G l RX11 cX11_lay 4 (some .int) rm_X11_lay e.1 e.2 :=
  fa1 (s_aload_n (kf := 0) (j := 0) (by decide +kernel) rfl) <|
  fa1 (s_getR (t2 := 5) (g := (fun _ => 796)) (ci := 11) (f := 8) (idx := 73) (C := RX11) (T := TX11) (NF := 11) (by decide +kernel) rfl (by decide) inG_X11 (by decide) w_566 lr_X11_8 (by decide)) <|
  fa1 (s_iload_n (kf := 1) (j := 1) (by decide +kernel) rfl) <|
  fa1 (s_vcallI (n := 1) (ci := 5) (C := RX5) (T := TX5) (NF := 3) (idx := 267) (y := yX5_isSheet) (by decide +kernel) (gg_X5_isSheet) rfl (by decide) yv_X5_isSheet (all5 w_1182 w_1183 w_1184 w_112 w_1185) rfl rfl ⟨by decide, by decide⟩) <|
  fa1 (s_ifne (off := 5) (by decide +kernel) (by decide)) <|
  fa1 (s_iconst (n := -1) (v := -1) (by decide +kernel) (by decide +kernel) (p32 rfl)) <|
  fa1 (s_iret (by decide +kernel) rfl) <|
  fa1 (s_aload_n (kf := 0) (j := 0) (by decide +kernel) rfl) <|
  fa1 (s_getR (t2 := 5) (g := (fun _ => 796)) (ci := 11) (f := 8) (idx := 73) (C := RX11) (T := TX11) (NF := 11) (by decide +kernel) rfl (by decide) inG_X11 (by decide) w_566 lr_X11_8 (by decide)) <|
  fa1 (s_iload_n (kf := 1) (j := 1) (by decide +kernel) rfl) <|
  fa1 (s_iload_n (kf := 2) (j := 2) (by decide +kernel) rfl) <|
  fa1 (s_iload_n (kf := 3) (j := 3) (by decide +kernel) rfl) <|
  fa1 (s_vcallI (n := 3) (ci := 5) (C := RX5) (T := TX5) (NF := 3) (idx := 276) (y := yX5_write) (by decide +kernel) (gg_X5_write) rfl (by decide) yv_X5_write (all5 w_1199 w_1200 w_1201 w_112 w_1202) rfl rfl ⟨by decide, by decide⟩) <|
  fa1 (s_iret (by decide +kernel) rfl) <| fa0
theorem gg_X11_lay {G : Wp} {l : Launch} : GoodM loC G l yX11_lay cX11_lay 4 (some .int) rm_X11_lay f_X11_lay := met_of kt_X11_lay (lkp_snd (ks_X11_lay G l)) (by decide +kernel) rfl (by decide)
noncomputable def k_X11_goBySheet : List (Nat × Ins) := [
  (0, i_aload 1 0),
  (1, i_getR 4 11 1 (fun _ => 211)),
  (4, i_iload 5 1),
  (5, i_callV 8 2 (rcv 1) f_X1_begin),
  (8, i_push 9 (.inl 0)),
  (9, i_istore 11 5),
  (11, i_iload 13 5),
  (13, i_iload 15 4),
  (15, i_cmpge 18 106),
  (18, i_aload 19 0),
  (19, i_getR 22 11 5 (fun _ => 796)),
  (22, i_iload 23 2),
  (23, i_iload 24 3),
  (24, i_push 25 (.inl 3)),
  (25, i_iload 27 5),
  (27, i_bin 28 (fun x y => wr (x * y))),
  (28, i_bin 29 (fun x y => wr (x + y))),
  (29, i_callI 32 3 (rcv 5) f_X5_cell),
  (32, i_istore 34 6),
  (34, i_aload 35 0),
  (35, i_getR 38 11 5 (fun _ => 796)),
  (38, i_iload 39 2),
  (39, i_iload 40 3),
  (40, i_push 41 (.inl 3)),
  (41, i_iload 43 5),
  (43, i_bin 44 (fun x y => wr (x * y))),
  (44, i_bin 45 (fun x y => wr (x + y))),
  (45, i_push 46 (.inl 1)),
  (46, i_bin 47 (fun x y => wr (x + y))),
  (47, i_callI 50 3 (rcv 5) f_X5_cell),
  (50, i_istore 52 7),
  (52, i_aload 53 0),
  (53, i_getR 56 11 5 (fun _ => 796)),
  (56, i_iload 57 2),
  (57, i_iload 58 3),
  (58, i_push 59 (.inl 3)),
  (59, i_iload 61 5),
  (61, i_bin 62 (fun x y => wr (x * y))),
  (62, i_bin 63 (fun x y => wr (x + y))),
  (63, i_push 64 (.inl 2)),
  (64, i_bin 65 (fun x y => wr (x + y))),
  (65, i_callI 68 3 (rcv 5) f_X5_cell),
  (68, i_istore 70 8),
  (70, i_iload 72 6),
  (72, i_iflt 75 97),
  (75, i_iload 77 6),
  (77, i_push 78 (.inl 3)),
  (78, i_cmpgt 81 97),
  (81, i_aload 82 0),
  (82, i_getR 85 11 1 (fun _ => 211)),
  (85, i_iload 87 6),
  (87, i_iload 89 7),
  (89, i_iload 91 8),
  (91, i_callI 94 4 (rcv 1) f_X1_go),
  (94, i_ifge 97 100),
  (97, i_iload 99 5),
  (99, i_iret),
  (100, i_iinc 103 5 (1)),
  (103, i_goto 11),
  (106, i_iload 108 4),
  (108, i_iret)]
noncomputable def kc_X11_goBySheet : Nat → Option Ins := lkp k_X11_goBySheet
noncomputable def f_X11_goBySheet : List AV → Mem → Option Rs := den 9 kc_X11_goBySheet
abbrev rm_X11_goBySheet : Room := { frames := 4, cells := 0, slots := 0, locals := 105 }
set_option maxRecDepth 100000 in
theorem kt_X11_goBySheet : TriC kc_X11_goBySheet := lkp_tri (fa1 (tri_aload 1 0) (fa1 (tri_getR 4 11 1 (fun _ => 211)) (fa1 (tri_iload 5 1) (fa1 (tri_callV 8 2 (rcv 1) f_X1_begin) (fa1 (tri_push 9 (.inl 0)) (fa1 (tri_istore 11 5) (fa1 (tri_iload 13 5) (fa1 (tri_iload 15 4) (fa1 (tri_cmpge 18 106) (fa1 (tri_aload 19 0) (fa1 (tri_getR 22 11 5 (fun _ => 796)) (fa1 (tri_iload 23 2) (fa1 (tri_iload 24 3) (fa1 (tri_push 25 (.inl 3)) (fa1 (tri_iload 27 5) (fa1 (tri_bin 28 (fun x y => wr (x * y))) (fa1 (tri_bin 29 (fun x y => wr (x + y))) (fa1 (tri_callI 32 3 (rcv 5) f_X5_cell) (fa1 (tri_istore 34 6) (fa1 (tri_aload 35 0) (fa1 (tri_getR 38 11 5 (fun _ => 796)) (fa1 (tri_iload 39 2) (fa1 (tri_iload 40 3) (fa1 (tri_push 41 (.inl 3)) (fa1 (tri_iload 43 5) (fa1 (tri_bin 44 (fun x y => wr (x * y))) (fa1 (tri_bin 45 (fun x y => wr (x + y))) (fa1 (tri_push 46 (.inl 1)) (fa1 (tri_bin 47 (fun x y => wr (x + y))) (fa1 (tri_callI 50 3 (rcv 5) f_X5_cell) (fa1 (tri_istore 52 7) (fa1 (tri_aload 53 0) (fa1 (tri_getR 56 11 5 (fun _ => 796)) (fa1 (tri_iload 57 2) (fa1 (tri_iload 58 3) (fa1 (tri_push 59 (.inl 3)) (fa1 (tri_iload 61 5) (fa1 (tri_bin 62 (fun x y => wr (x * y))) (fa1 (tri_bin 63 (fun x y => wr (x + y))) (fa1 (tri_push 64 (.inl 2)) (fa1 (tri_bin 65 (fun x y => wr (x + y))) (fa1 (tri_callI 68 3 (rcv 5) f_X5_cell) (fa1 (tri_istore 70 8) (fa1 (tri_iload 72 6) (fa1 (tri_iflt 75 97) (fa1 (tri_iload 77 6) (fa1 (tri_push 78 (.inl 3)) (fa1 (tri_cmpgt 81 97) (fa1 (tri_aload 82 0) (fa1 (tri_getR 85 11 1 (fun _ => 211)) (fa1 (tri_iload 87 6) (fa1 (tri_iload 89 7) (fa1 (tri_iload 91 8) (fa1 (tri_callI 94 4 (rcv 1) f_X1_go) (fa1 (tri_ifge 97 100) (fa1 (tri_iload 99 5) (fa1 (tri_iret) (fa1 (tri_iinc 103 5 (1)) (fa1 (tri_goto 11) (fa1 (tri_iload 108 4) (fa1 (tri_iret) (fa0))))))))))))))))))))))))))))))))))))))))))))))))))))))))))))))
set_option maxRecDepth 100000 in
set_option maxHeartbeats 4000000 in
theorem ks_X11_goBySheet (G : Wp) (l : Launch) : ∀ e ∈ k_X11_goBySheet, Snd loC G l RX11 cX11_goBySheet 9 (some .int) rm_X11_goBySheet e.1 e.2 :=
  fa1 (s_aload_n (kf := 0) (j := 0) (by decide +kernel) rfl) <|
  fa1 (s_getR (t2 := 1) (g := (fun _ => 211)) (ci := 11) (f := 4) (idx := 44) (C := RX11) (T := TX11) (NF := 11) (by decide +kernel) rfl (by decide) inG_X11 (by decide) w_562 lr_X11_4 (by decide)) <|
  fa1 (s_iload_n (kf := 1) (j := 1) (by decide +kernel) rfl) <|
  fa1 (s_vcallV (n := 1) (ci := 1) (C := RX1) (T := TX1) (NF := 9) (idx := 170) (y := yX1_begin) (by decide +kernel) (gg_X1_begin) rfl (by decide) yv_X1_begin (all5 w_800 w_801 w_802 w_108 w_803) rfl rfl ⟨by decide, by decide⟩) <|
  fa1 (s_iconst (n := 0) (v := 0) (by decide +kernel) (by decide +kernel) (p32 rfl)) <|
  fa1 (s_istore (j := 5) (by decide +kernel) (by decide)) <|
  fa1 (s_iload (j := 5) (by decide +kernel)) <|
  fa1 (s_iload (j := 4) (by decide +kernel)) <|
  fa1 (s_cmpge (off := 91) (by decide +kernel) (by decide)) <|
  fa1 (s_aload_n (kf := 0) (j := 0) (by decide +kernel) rfl) <|
  fa1 (s_getR (t2 := 5) (g := (fun _ => 796)) (ci := 11) (f := 8) (idx := 73) (C := RX11) (T := TX11) (NF := 11) (by decide +kernel) rfl (by decide) inG_X11 (by decide) w_566 lr_X11_8 (by decide)) <|
  fa1 (s_iload_n (kf := 2) (j := 2) (by decide +kernel) rfl) <|
  fa1 (s_iload_n (kf := 3) (j := 3) (by decide +kernel) rfl) <|
  fa1 (s_iconst (n := 3) (v := 3) (by decide +kernel) (by decide +kernel) (p32 rfl)) <|
  fa1 (s_iload (j := 5) (by decide +kernel)) <|
  fa1 (s_imul (by decide +kernel)) <|
  fa1 (s_iadd (by decide +kernel)) <|
  fa1 (s_vcallI (n := 2) (ci := 5) (C := RX5) (T := TX5) (NF := 3) (idx := 297) (y := yX5_cell) (by decide +kernel) (gg_X5_cell) rfl (by decide) yv_X5_cell (all5 w_1223 w_1224 w_1225 w_112 w_1226) rfl rfl ⟨by decide, by decide⟩) <|
  fa1 (s_istore (j := 6) (by decide +kernel) (by decide)) <|
  fa1 (s_aload_n (kf := 0) (j := 0) (by decide +kernel) rfl) <|
  fa1 (s_getR (t2 := 5) (g := (fun _ => 796)) (ci := 11) (f := 8) (idx := 73) (C := RX11) (T := TX11) (NF := 11) (by decide +kernel) rfl (by decide) inG_X11 (by decide) w_566 lr_X11_8 (by decide)) <|
  fa1 (s_iload_n (kf := 2) (j := 2) (by decide +kernel) rfl) <|
  fa1 (s_iload_n (kf := 3) (j := 3) (by decide +kernel) rfl) <|
  fa1 (s_iconst (n := 3) (v := 3) (by decide +kernel) (by decide +kernel) (p32 rfl)) <|
  fa1 (s_iload (j := 5) (by decide +kernel)) <|
  fa1 (s_imul (by decide +kernel)) <|
  fa1 (s_iadd (by decide +kernel)) <|
  fa1 (s_iconst (n := 1) (v := 1) (by decide +kernel) (by decide +kernel) (p32 rfl)) <|
  fa1 (s_iadd (by decide +kernel)) <|
  fa1 (s_vcallI (n := 2) (ci := 5) (C := RX5) (T := TX5) (NF := 3) (idx := 297) (y := yX5_cell) (by decide +kernel) (gg_X5_cell) rfl (by decide) yv_X5_cell (all5 w_1223 w_1224 w_1225 w_112 w_1226) rfl rfl ⟨by decide, by decide⟩) <|
  fa1 (s_istore (j := 7) (by decide +kernel) (by decide)) <|
  fa1 (s_aload_n (kf := 0) (j := 0) (by decide +kernel) rfl) <|
  fa1 (s_getR (t2 := 5) (g := (fun _ => 796)) (ci := 11) (f := 8) (idx := 73) (C := RX11) (T := TX11) (NF := 11) (by decide +kernel) rfl (by decide) inG_X11 (by decide) w_566 lr_X11_8 (by decide)) <|
  fa1 (s_iload_n (kf := 2) (j := 2) (by decide +kernel) rfl) <|
  fa1 (s_iload_n (kf := 3) (j := 3) (by decide +kernel) rfl) <|
  fa1 (s_iconst (n := 3) (v := 3) (by decide +kernel) (by decide +kernel) (p32 rfl)) <|
  fa1 (s_iload (j := 5) (by decide +kernel)) <|
  fa1 (s_imul (by decide +kernel)) <|
  fa1 (s_iadd (by decide +kernel)) <|
  fa1 (s_iconst (n := 2) (v := 2) (by decide +kernel) (by decide +kernel) (p32 rfl)) <|
  fa1 (s_iadd (by decide +kernel)) <|
  fa1 (s_vcallI (n := 2) (ci := 5) (C := RX5) (T := TX5) (NF := 3) (idx := 297) (y := yX5_cell) (by decide +kernel) (gg_X5_cell) rfl (by decide) yv_X5_cell (all5 w_1223 w_1224 w_1225 w_112 w_1226) rfl rfl ⟨by decide, by decide⟩) <|
  fa1 (s_istore (j := 8) (by decide +kernel) (by decide)) <|
  fa1 (s_iload (j := 6) (by decide +kernel)) <|
  fa1 (s_iflt (off := 25) (by decide +kernel) (by decide)) <|
  fa1 (s_iload (j := 6) (by decide +kernel)) <|
  fa1 (s_iconst (n := 3) (v := 3) (by decide +kernel) (by decide +kernel) (p32 rfl)) <|
  fa1 (s_cmpgt (off := 19) (by decide +kernel) (by decide)) <|
  fa1 (s_aload_n (kf := 0) (j := 0) (by decide +kernel) rfl) <|
  fa1 (s_getR (t2 := 1) (g := (fun _ => 211)) (ci := 11) (f := 4) (idx := 44) (C := RX11) (T := TX11) (NF := 11) (by decide +kernel) rfl (by decide) inG_X11 (by decide) w_562 lr_X11_4 (by decide)) <|
  fa1 (s_iload (j := 6) (by decide +kernel)) <|
  fa1 (s_iload (j := 7) (by decide +kernel)) <|
  fa1 (s_iload (j := 8) (by decide +kernel)) <|
  fa1 (s_vcallI (n := 3) (ci := 1) (C := RX1) (T := TX1) (NF := 9) (idx := 181) (y := yX1_go) (by decide +kernel) (gg_X1_go) rfl (by decide) yv_X1_go (all5 w_818 w_819 w_820 w_108 w_821) rfl rfl ⟨by decide, by decide⟩) <|
  fa1 (s_ifge (off := 6) (by decide +kernel) (by decide)) <|
  fa1 (s_iload (j := 5) (by decide +kernel)) <|
  fa1 (s_iret (by decide +kernel) rfl) <|
  fa1 (s_iinc (j := 5) (d := 1) (by decide +kernel) (by decide)) <|
  fa1 (s_goto (off := -92) (by decide +kernel) (by decide)) <|
  fa1 (s_iload (j := 4) (by decide +kernel)) <|
  fa1 (s_iret (by decide +kernel) rfl) <| fa0
theorem gg_X11_goBySheet {G : Wp} {l : Launch} : GoodM loC G l yX11_goBySheet cX11_goBySheet 9 (some .int) rm_X11_goBySheet f_X11_goBySheet := met_of kt_X11_goBySheet (lkp_snd (ks_X11_goBySheet G l)) (by decide +kernel) rfl (by decide)
noncomputable def k_X11_read : List (Nat × Ins) := [
  (0, i_aload 1 0),
  (1, i_getR 4 11 3 (fun _ => 23)),
  (4, i_iload 5 1),
  (5, i_callR 8 2 2 (rcv 3) f_X3_get),
  (8, i_astore 10 6),
  (10, i_aload 12 6),
  (12, i_ifnull 15 49),
  (15, i_aload 16 0),
  (16, i_getR 19 11 5 (fun _ => 796)),
  (19, i_iload 20 2),
  (20, i_callI 23 2 (rcv 5) f_X5_isSheet),
  (23, i_ifeq 26 49),
  (26, i_aload 27 0),
  (27, i_getR 30 11 5 (fun _ => 796)),
  (30, i_iload 31 3),
  (31, i_callI 34 2 (rcv 5) f_X5_isLane),
  (34, i_ifeq 37 49),
  (37, i_iload 39 5),
  (39, i_iflt 42 49),
  (42, i_iload 44 5),
  (44, i_push 46 (.inl 20)),
  (46, i_cmple 49 51),
  (49, i_push 50 (.inl (-1))),
  (50, i_iret),
  (51, i_aload 53 6),
  (53, i_callI 56 1 (rcv 2) f_X2_isOpen),
  (56, i_ifne 59 62),
  (59, i_push 61 (.inl (-2))),
  (61, i_iret),
  (62, i_aload 63 0),
  (63, i_getR 66 11 5 (fun _ => 796)),
  (66, i_iload 67 2),
  (67, i_iload 68 3),
  (68, i_iload 70 4),
  (70, i_push 71 (.inl 3)),
  (71, i_iload 73 5),
  (73, i_bin 74 (fun x y => wr (x * y))),
  (74, i_callI 77 5 (rcv 5) f_X5_faultOf),
  (77, i_istore 79 7),
  (79, i_iload 81 7),
  (81, i_ifeq 84 90),
  (84, i_push 86 (.inl (-10))),
  (86, i_iload 88 7),
  (88, i_bin 89 (fun x y => wr (x - y))),
  (89, i_iret),
  (90, i_aload 91 0),
  (91, i_iload 92 1),
  (92, i_iload 93 2),
  (93, i_iload 95 4),
  (95, i_iload 97 5),
  (97, i_callI 100 5 (rcv 11) f_X11_goBySheet),
  (100, i_istore 102 8),
  (102, i_iload 104 8),
  (104, i_iload 106 5),
  (106, i_cmpge 109 115),
  (109, i_push 111 (.inl (-100))),
  (111, i_iload 113 8),
  (113, i_bin 114 (fun x y => wr (x - y))),
  (114, i_iret),
  (115, i_aload 116 0),
  (116, i_getR 119 11 1 (fun _ => 211)),
  (119, i_callI 122 1 (rcv 1) f_X1_arrived),
  (122, i_ifne 125 127),
  (125, i_push 126 (.inl 0)),
  (126, i_iret),
  (127, i_aload 128 0),
  (128, i_aload 129 0),
  (129, i_getR 132 11 1 (fun _ => 211)),
  (132, i_callI 135 2 (rcv 11) f_X11_tell),
  (135, i_push 137 (.inl (-3))),
  (137, i_cmpne 140 145),
  (140, i_push 142 (.inl (-3))),
  (142, i_goto 146),
  (145, i_push 146 (.inl 1)),
  (146, i_iret)]
noncomputable def kc_X11_read : Nat → Option Ins := lkp k_X11_read
noncomputable def f_X11_read : List AV → Mem → Option Rs := den 9 kc_X11_read
abbrev rm_X11_read : Room := { frames := 5, cells := 0, slots := 0, locals := 133 }
set_option maxRecDepth 100000 in
theorem kt_X11_read : TriC kc_X11_read := lkp_tri (fa1 (tri_aload 1 0) (fa1 (tri_getR 4 11 3 (fun _ => 23)) (fa1 (tri_iload 5 1) (fa1 (tri_callR 8 2 2 (rcv 3) f_X3_get) (fa1 (tri_astore 10 6) (fa1 (tri_aload 12 6) (fa1 (tri_ifnull 15 49) (fa1 (tri_aload 16 0) (fa1 (tri_getR 19 11 5 (fun _ => 796)) (fa1 (tri_iload 20 2) (fa1 (tri_callI 23 2 (rcv 5) f_X5_isSheet) (fa1 (tri_ifeq 26 49) (fa1 (tri_aload 27 0) (fa1 (tri_getR 30 11 5 (fun _ => 796)) (fa1 (tri_iload 31 3) (fa1 (tri_callI 34 2 (rcv 5) f_X5_isLane) (fa1 (tri_ifeq 37 49) (fa1 (tri_iload 39 5) (fa1 (tri_iflt 42 49) (fa1 (tri_iload 44 5) (fa1 (tri_push 46 (.inl 20)) (fa1 (tri_cmple 49 51) (fa1 (tri_push 50 (.inl (-1))) (fa1 (tri_iret) (fa1 (tri_aload 53 6) (fa1 (tri_callI 56 1 (rcv 2) f_X2_isOpen) (fa1 (tri_ifne 59 62) (fa1 (tri_push 61 (.inl (-2))) (fa1 (tri_iret) (fa1 (tri_aload 63 0) (fa1 (tri_getR 66 11 5 (fun _ => 796)) (fa1 (tri_iload 67 2) (fa1 (tri_iload 68 3) (fa1 (tri_iload 70 4) (fa1 (tri_push 71 (.inl 3)) (fa1 (tri_iload 73 5) (fa1 (tri_bin 74 (fun x y => wr (x * y))) (fa1 (tri_callI 77 5 (rcv 5) f_X5_faultOf) (fa1 (tri_istore 79 7) (fa1 (tri_iload 81 7) (fa1 (tri_ifeq 84 90) (fa1 (tri_push 86 (.inl (-10))) (fa1 (tri_iload 88 7) (fa1 (tri_bin 89 (fun x y => wr (x - y))) (fa1 (tri_iret) (fa1 (tri_aload 91 0) (fa1 (tri_iload 92 1) (fa1 (tri_iload 93 2) (fa1 (tri_iload 95 4) (fa1 (tri_iload 97 5) (fa1 (tri_callI 100 5 (rcv 11) f_X11_goBySheet) (fa1 (tri_istore 102 8) (fa1 (tri_iload 104 8) (fa1 (tri_iload 106 5) (fa1 (tri_cmpge 109 115) (fa1 (tri_push 111 (.inl (-100))) (fa1 (tri_iload 113 8) (fa1 (tri_bin 114 (fun x y => wr (x - y))) (fa1 (tri_iret) (fa1 (tri_aload 116 0) (fa1 (tri_getR 119 11 1 (fun _ => 211)) (fa1 (tri_callI 122 1 (rcv 1) f_X1_arrived) (fa1 (tri_ifne 125 127) (fa1 (tri_push 126 (.inl 0)) (fa1 (tri_iret) (fa1 (tri_aload 128 0) (fa1 (tri_aload 129 0) (fa1 (tri_getR 132 11 1 (fun _ => 211)) (fa1 (tri_callI 135 2 (rcv 11) f_X11_tell) (fa1 (tri_push 137 (.inl (-3))) (fa1 (tri_cmpne 140 145) (fa1 (tri_push 142 (.inl (-3))) (fa1 (tri_goto 146) (fa1 (tri_push 146 (.inl 1)) (fa1 (tri_iret) (fa0))))))))))))))))))))))))))))))))))))))))))))))))))))))))))))))))))))))))))))
set_option maxRecDepth 100000 in
set_option maxHeartbeats 4000000 in
theorem ks_X11_read (G : Wp) (l : Launch) : ∀ e ∈ k_X11_read, Snd loC G l RX11 cX11_read 9 (some .int) rm_X11_read e.1 e.2 :=
  fa1 (s_aload_n (kf := 0) (j := 0) (by decide +kernel) rfl) <|
  fa1 (s_getR (t2 := 3) (g := (fun _ => 23)) (ci := 11) (f := 1) (idx := 19) (C := RX11) (T := TX11) (NF := 11) (by decide +kernel) rfl (by decide) inG_X11 (by decide) w_559 lr_X11_1 (by decide)) <|
  fa1 (s_iload_n (kf := 1) (j := 1) (by decide +kernel) rfl) <|
  fa1 (s_vcallR (t := 2) (n := 1) (ci := 3) (C := RX3) (T := TX3) (NF := 11) (idx := 98) (y := yX3_get) (by decide +kernel) (gg_X3_get) rfl (by decide) yv_X3_get (all5 w_735 w_736 w_737 w_104 w_738) rfl rfl ⟨by decide, by decide⟩) <|
  fa1 (s_astore (j := 6) (by decide +kernel) (by decide)) <|
  fa1 (s_aload (j := 6) (by decide +kernel)) <|
  fa1 (s_ifnull (off := 37) (by decide +kernel) (by decide)) <|
  fa1 (s_aload_n (kf := 0) (j := 0) (by decide +kernel) rfl) <|
  fa1 (s_getR (t2 := 5) (g := (fun _ => 796)) (ci := 11) (f := 8) (idx := 73) (C := RX11) (T := TX11) (NF := 11) (by decide +kernel) rfl (by decide) inG_X11 (by decide) w_566 lr_X11_8 (by decide)) <|
  fa1 (s_iload_n (kf := 2) (j := 2) (by decide +kernel) rfl) <|
  fa1 (s_vcallI (n := 1) (ci := 5) (C := RX5) (T := TX5) (NF := 3) (idx := 267) (y := yX5_isSheet) (by decide +kernel) (gg_X5_isSheet) rfl (by decide) yv_X5_isSheet (all5 w_1182 w_1183 w_1184 w_112 w_1185) rfl rfl ⟨by decide, by decide⟩) <|
  fa1 (s_ifeq (off := 26) (by decide +kernel) (by decide)) <|
  fa1 (s_aload_n (kf := 0) (j := 0) (by decide +kernel) rfl) <|
  fa1 (s_getR (t2 := 5) (g := (fun _ => 796)) (ci := 11) (f := 8) (idx := 73) (C := RX11) (T := TX11) (NF := 11) (by decide +kernel) rfl (by decide) inG_X11 (by decide) w_566 lr_X11_8 (by decide)) <|
  fa1 (s_iload_n (kf := 3) (j := 3) (by decide +kernel) rfl) <|
  fa1 (s_vcallI (n := 1) (ci := 5) (C := RX5) (T := TX5) (NF := 3) (idx := 270) (y := yX5_isLane) (by decide +kernel) (gg_X5_isLane) rfl (by decide) yv_X5_isLane (all5 w_1186 w_1187 w_1188 w_112 w_1189) rfl rfl ⟨by decide, by decide⟩) <|
  fa1 (s_ifeq (off := 15) (by decide +kernel) (by decide)) <|
  fa1 (s_iload (j := 5) (by decide +kernel)) <|
  fa1 (s_iflt (off := 10) (by decide +kernel) (by decide)) <|
  fa1 (s_iload (j := 5) (by decide +kernel)) <|
  fa1 (s_bipush (n := 20) (v := 20) (by decide +kernel) (by decide +kernel) (p32 rfl)) <|
  fa1 (s_cmple (off := 5) (by decide +kernel) (by decide)) <|
  fa1 (s_iconst (n := -1) (v := -1) (by decide +kernel) (by decide +kernel) (p32 rfl)) <|
  fa1 (s_iret (by decide +kernel) rfl) <|
  fa1 (s_aload (j := 6) (by decide +kernel)) <|
  fa1 (s_vcallI (n := 0) (ci := 2) (C := RX2) (T := TX2) (NF := 11) (idx := 166) (y := yX2_isOpen) (by decide +kernel) (gg_X2_isOpen) rfl (by decide) yv_X2_isOpen (all5 w_796 w_797 w_798 w_105 w_799) rfl rfl ⟨by decide, by decide⟩) <|
  fa1 (s_ifne (off := 6) (by decide +kernel) (by decide)) <|
  fa1 (s_bipush (n := -2) (v := -2) (by decide +kernel) (by decide +kernel) (p32 rfl)) <|
  fa1 (s_iret (by decide +kernel) rfl) <|
  fa1 (s_aload_n (kf := 0) (j := 0) (by decide +kernel) rfl) <|
  fa1 (s_getR (t2 := 5) (g := (fun _ => 796)) (ci := 11) (f := 8) (idx := 73) (C := RX11) (T := TX11) (NF := 11) (by decide +kernel) rfl (by decide) inG_X11 (by decide) w_566 lr_X11_8 (by decide)) <|
  fa1 (s_iload_n (kf := 2) (j := 2) (by decide +kernel) rfl) <|
  fa1 (s_iload_n (kf := 3) (j := 3) (by decide +kernel) rfl) <|
  fa1 (s_iload (j := 4) (by decide +kernel)) <|
  fa1 (s_iconst (n := 3) (v := 3) (by decide +kernel) (by decide +kernel) (p32 rfl)) <|
  fa1 (s_iload (j := 5) (by decide +kernel)) <|
  fa1 (s_imul (by decide +kernel)) <|
  fa1 (s_vcallI (n := 4) (ci := 5) (C := RX5) (T := TX5) (NF := 3) (idx := 279) (y := yX5_faultOf) (by decide +kernel) (gg_X5_faultOf) rfl (by decide) yv_X5_faultOf (all5 w_1211 w_1212 w_1213 w_112 w_1214) rfl rfl ⟨by decide, by decide⟩) <|
  fa1 (s_istore (j := 7) (by decide +kernel) (by decide)) <|
  fa1 (s_iload (j := 7) (by decide +kernel)) <|
  fa1 (s_ifeq (off := 9) (by decide +kernel) (by decide)) <|
  fa1 (s_bipush (n := -10) (v := -10) (by decide +kernel) (by decide +kernel) (p32 rfl)) <|
  fa1 (s_iload (j := 7) (by decide +kernel)) <|
  fa1 (s_isub (by decide +kernel)) <|
  fa1 (s_iret (by decide +kernel) rfl) <|
  fa1 (s_aload_n (kf := 0) (j := 0) (by decide +kernel) rfl) <|
  fa1 (s_iload_n (kf := 1) (j := 1) (by decide +kernel) rfl) <|
  fa1 (s_iload_n (kf := 2) (j := 2) (by decide +kernel) rfl) <|
  fa1 (s_iload (j := 4) (by decide +kernel)) <|
  fa1 (s_iload (j := 5) (by decide +kernel)) <|
  fa1 (s_vcallI (n := 4) (ci := 11) (C := RX11) (T := TX11) (NF := 11) (idx := 283) (y := yX11_goBySheet) (by decide +kernel) (gg_X11_goBySheet) rfl (by decide) yv_X11_goBySheet (all5 w_1219 w_1221 w_42 w_100 w_1222) rfl rfl ⟨by decide, by decide⟩) <|
  fa1 (s_istore (j := 8) (by decide +kernel) (by decide)) <|
  fa1 (s_iload (j := 8) (by decide +kernel)) <|
  fa1 (s_iload (j := 5) (by decide +kernel)) <|
  fa1 (s_cmpge (off := 9) (by decide +kernel) (by decide)) <|
  fa1 (s_bipush (n := -100) (v := -100) (by decide +kernel) (by decide +kernel) (p32 rfl)) <|
  fa1 (s_iload (j := 8) (by decide +kernel)) <|
  fa1 (s_isub (by decide +kernel)) <|
  fa1 (s_iret (by decide +kernel) rfl) <|
  fa1 (s_aload_n (kf := 0) (j := 0) (by decide +kernel) rfl) <|
  fa1 (s_getR (t2 := 1) (g := (fun _ => 211)) (ci := 11) (f := 4) (idx := 44) (C := RX11) (T := TX11) (NF := 11) (by decide +kernel) rfl (by decide) inG_X11 (by decide) w_562 lr_X11_4 (by decide)) <|
  fa1 (s_vcallI (n := 0) (ci := 1) (C := RX1) (T := TX1) (NF := 9) (idx := 193) (y := yX1_arrived) (by decide +kernel) (gg_X1_arrived) rfl (by decide) yv_X1_arrived (all5 w_874 w_875 w_876 w_108 w_877) rfl rfl ⟨by decide, by decide⟩) <|
  fa1 (s_ifne (off := 5) (by decide +kernel) (by decide)) <|
  fa1 (s_iconst (n := 0) (v := 0) (by decide +kernel) (by decide +kernel) (p32 rfl)) <|
  fa1 (s_iret (by decide +kernel) rfl) <|
  fa1 (s_aload_n (kf := 0) (j := 0) (by decide +kernel) rfl) <|
  fa1 (s_aload_n (kf := 0) (j := 0) (by decide +kernel) rfl) <|
  fa1 (s_getR (t2 := 1) (g := (fun _ => 211)) (ci := 11) (f := 4) (idx := 44) (C := RX11) (T := TX11) (NF := 11) (by decide +kernel) rfl (by decide) inG_X11 (by decide) w_562 lr_X11_4 (by decide)) <|
  fa1 (s_vcallI (n := 1) (ci := 11) (C := RX11) (T := TX11) (NF := 11) (idx := 196) (y := yX11_tell) (by decide +kernel) (gg_X11_tell) rfl (by decide) yv_X11_tell (all5 w_888 w_890 w_16 w_100 w_891) rfl rfl ⟨by decide, by decide⟩) <|
  fa1 (s_bipush (n := -3) (v := -3) (by decide +kernel) (by decide +kernel) (p32 rfl)) <|
  fa1 (s_cmpne (off := 8) (by decide +kernel) (by decide)) <|
  fa1 (s_bipush (n := -3) (v := -3) (by decide +kernel) (by decide +kernel) (p32 rfl)) <|
  fa1 (s_goto (off := 4) (by decide +kernel) (by decide)) <|
  fa1 (s_iconst (n := 1) (v := 1) (by decide +kernel) (by decide +kernel) (p32 rfl)) <|
  fa1 (s_iret (by decide +kernel) rfl) <| fa0
theorem gg_X11_read {G : Wp} {l : Launch} : GoodM loC G l yX11_read cX11_read 9 (some .int) rm_X11_read f_X11_read := met_of kt_X11_read (lkp_snd (ks_X11_read G l)) (by decide +kernel) rfl (by decide)
noncomputable def k_X11_count : List (Nat × Ins) := [
  (0, i_iload 1 1),
  (1, i_switch 159 (0) [60, 68, 80, 92, 104, 116, 124, 132, 137, 142, 150]),
  (60, i_aload 61 0),
  (61, i_getR 64 11 3 (fun _ => 23)),
  (64, i_getI 67 3 9),
  (67, i_iret),
  (68, i_aload 69 0),
  (69, i_getR 72 11 3 (fun _ => 23)),
  (72, i_push 73 (.inl 0)),
  (73, i_callI 76 2 (rcv 3) f_X3_maskOf),
  (76, i_callI 79 1 anyv f_J6_bitCount_0f7a4),
  (79, i_iret),
  (80, i_aload 81 0),
  (81, i_getR 84 11 3 (fun _ => 23)),
  (84, i_push 85 (.inl 1)),
  (85, i_callI 88 2 (rcv 3) f_X3_maskOf),
  (88, i_callI 91 1 anyv f_J6_bitCount_0f7a4),
  (91, i_iret),
  (92, i_aload 93 0),
  (93, i_getR 96 11 3 (fun _ => 23)),
  (96, i_push 97 (.inl 2)),
  (97, i_callI 100 2 (rcv 3) f_X3_maskOf),
  (100, i_callI 103 1 anyv f_J6_bitCount_0f7a4),
  (103, i_iret),
  (104, i_aload 105 0),
  (105, i_getR 108 11 3 (fun _ => 23)),
  (108, i_push 109 (.inl 3)),
  (109, i_callI 112 2 (rcv 3) f_X3_maskOf),
  (112, i_callI 115 1 anyv f_J6_bitCount_0f7a4),
  (115, i_iret),
  (116, i_aload 117 0),
  (117, i_getR 120 11 9 (fun _ => 1)),
  (120, i_getI 123 9 5),
  (123, i_iret),
  (124, i_aload 125 0),
  (125, i_getR 128 11 3 (fun _ => 23)),
  (128, i_getI 131 3 10),
  (131, i_iret),
  (132, i_aload 133 0),
  (133, i_getI 136 11 9),
  (136, i_iret),
  (137, i_aload 138 0),
  (138, i_getI 141 11 10),
  (141, i_iret),
  (142, i_aload 143 0),
  (143, i_getR 146 11 7 (fun _ => 151)),
  (146, i_getI 149 7 8),
  (149, i_iret),
  (150, i_aload 151 0),
  (151, i_getR 154 11 5 (fun _ => 796)),
  (154, i_push 155 (.inl 0)),
  (155, i_callI 158 2 (rcv 5) f_X5_cellsOf),
  (158, i_iret),
  (159, i_push 160 (.inl (-1))),
  (160, i_iret)]
noncomputable def kc_X11_count : Nat → Option Ins := lkp k_X11_count
noncomputable def f_X11_count : List AV → Mem → Option Rs := den 2 kc_X11_count
abbrev rm_X11_count : Room := { frames := 2, cells := 0, slots := 0, locals := 42 }
set_option maxRecDepth 100000 in
theorem kt_X11_count : TriC kc_X11_count := lkp_tri (fa1 (tri_iload 1 1) (fa1 (tri_switch 159 (0) [60, 68, 80, 92, 104, 116, 124, 132, 137, 142, 150]) (fa1 (tri_aload 61 0) (fa1 (tri_getR 64 11 3 (fun _ => 23)) (fa1 (tri_getI 67 3 9) (fa1 (tri_iret) (fa1 (tri_aload 69 0) (fa1 (tri_getR 72 11 3 (fun _ => 23)) (fa1 (tri_push 73 (.inl 0)) (fa1 (tri_callI 76 2 (rcv 3) f_X3_maskOf) (fa1 (tri_callI 79 1 anyv f_J6_bitCount_0f7a4) (fa1 (tri_iret) (fa1 (tri_aload 81 0) (fa1 (tri_getR 84 11 3 (fun _ => 23)) (fa1 (tri_push 85 (.inl 1)) (fa1 (tri_callI 88 2 (rcv 3) f_X3_maskOf) (fa1 (tri_callI 91 1 anyv f_J6_bitCount_0f7a4) (fa1 (tri_iret) (fa1 (tri_aload 93 0) (fa1 (tri_getR 96 11 3 (fun _ => 23)) (fa1 (tri_push 97 (.inl 2)) (fa1 (tri_callI 100 2 (rcv 3) f_X3_maskOf) (fa1 (tri_callI 103 1 anyv f_J6_bitCount_0f7a4) (fa1 (tri_iret) (fa1 (tri_aload 105 0) (fa1 (tri_getR 108 11 3 (fun _ => 23)) (fa1 (tri_push 109 (.inl 3)) (fa1 (tri_callI 112 2 (rcv 3) f_X3_maskOf) (fa1 (tri_callI 115 1 anyv f_J6_bitCount_0f7a4) (fa1 (tri_iret) (fa1 (tri_aload 117 0) (fa1 (tri_getR 120 11 9 (fun _ => 1)) (fa1 (tri_getI 123 9 5) (fa1 (tri_iret) (fa1 (tri_aload 125 0) (fa1 (tri_getR 128 11 3 (fun _ => 23)) (fa1 (tri_getI 131 3 10) (fa1 (tri_iret) (fa1 (tri_aload 133 0) (fa1 (tri_getI 136 11 9) (fa1 (tri_iret) (fa1 (tri_aload 138 0) (fa1 (tri_getI 141 11 10) (fa1 (tri_iret) (fa1 (tri_aload 143 0) (fa1 (tri_getR 146 11 7 (fun _ => 151)) (fa1 (tri_getI 149 7 8) (fa1 (tri_iret) (fa1 (tri_aload 151 0) (fa1 (tri_getR 154 11 5 (fun _ => 796)) (fa1 (tri_push 155 (.inl 0)) (fa1 (tri_callI 158 2 (rcv 5) f_X5_cellsOf) (fa1 (tri_iret) (fa1 (tri_push 160 (.inl (-1))) (fa1 (tri_iret) (fa0))))))))))))))))))))))))))))))))))))))))))))))))))))))))
set_option maxRecDepth 100000 in
set_option maxHeartbeats 4000000 in
theorem ks_X11_count (G : Wp) (l : Launch) : ∀ e ∈ k_X11_count, Snd loC G l RX11 cX11_count 2 (some .int) rm_X11_count e.1 e.2 :=
  fa1 (s_iload_n (kf := 1) (j := 1) (by decide +kernel) rfl) <|
  fa1 (s_switch (dflt := 158) (lo := 0) (hhi := 10) (offs := #[59, 67, 79, 91, 103, 115, 123, 131, 136, 141, 149]) (len := 59) (by decide +kernel) (by decide) (by decide +kernel) (by decide)) <|
  fa1 (s_aload_n (kf := 0) (j := 0) (by decide +kernel) rfl) <|
  fa1 (s_getR (t2 := 3) (g := (fun _ => 23)) (ci := 11) (f := 1) (idx := 19) (C := RX11) (T := TX11) (NF := 11) (by decide +kernel) rfl (by decide) inG_X11 (by decide) w_559 lr_X11_1 (by decide)) <|
  fa1 (s_getI (ci := 3) (f := 9) (idx := 263) (C := RX3) (T := TX3) (NF := 11) (by decide +kernel) rfl (by decide) inG_X3 (by decide) w_264 li_X3_9) <|
  fa1 (s_iret (by decide +kernel) rfl) <|
  fa1 (s_aload_n (kf := 0) (j := 0) (by decide +kernel) rfl) <|
  fa1 (s_getR (t2 := 3) (g := (fun _ => 23)) (ci := 11) (f := 1) (idx := 19) (C := RX11) (T := TX11) (NF := 11) (by decide +kernel) rfl (by decide) inG_X11 (by decide) w_559 lr_X11_1 (by decide)) <|
  fa1 (s_iconst (n := 0) (v := 0) (by decide +kernel) (by decide +kernel) (p32 rfl)) <|
  fa1 (s_vcallI (n := 1) (ci := 3) (C := RX3) (T := TX3) (NF := 11) (idx := 206) (y := yX3_maskOf) (by decide +kernel) (gg_X3_maskOf) rfl (by decide) yv_X3_maskOf (all5 w_940 w_941 w_942 w_104 w_943) rfl rfl ⟨by decide, by decide⟩) <|
  fa1 (s_scallI (n := 1) (idx := 135) (y := yJ6_bitCount_0f7a4) (by decide +kernel) (gg_J6_bitCount_0f7a4) yv_J6_bitCount_0f7a4 (all4 w_744 w_745 w_114 w_746) rfl rfl ⟨by decide, by decide⟩) <|
  fa1 (s_iret (by decide +kernel) rfl) <|
  fa1 (s_aload_n (kf := 0) (j := 0) (by decide +kernel) rfl) <|
  fa1 (s_getR (t2 := 3) (g := (fun _ => 23)) (ci := 11) (f := 1) (idx := 19) (C := RX11) (T := TX11) (NF := 11) (by decide +kernel) rfl (by decide) inG_X11 (by decide) w_559 lr_X11_1 (by decide)) <|
  fa1 (s_iconst (n := 1) (v := 1) (by decide +kernel) (by decide +kernel) (p32 rfl)) <|
  fa1 (s_vcallI (n := 1) (ci := 3) (C := RX3) (T := TX3) (NF := 11) (idx := 206) (y := yX3_maskOf) (by decide +kernel) (gg_X3_maskOf) rfl (by decide) yv_X3_maskOf (all5 w_940 w_941 w_942 w_104 w_943) rfl rfl ⟨by decide, by decide⟩) <|
  fa1 (s_scallI (n := 1) (idx := 135) (y := yJ6_bitCount_0f7a4) (by decide +kernel) (gg_J6_bitCount_0f7a4) yv_J6_bitCount_0f7a4 (all4 w_744 w_745 w_114 w_746) rfl rfl ⟨by decide, by decide⟩) <|
  fa1 (s_iret (by decide +kernel) rfl) <|
  fa1 (s_aload_n (kf := 0) (j := 0) (by decide +kernel) rfl) <|
  fa1 (s_getR (t2 := 3) (g := (fun _ => 23)) (ci := 11) (f := 1) (idx := 19) (C := RX11) (T := TX11) (NF := 11) (by decide +kernel) rfl (by decide) inG_X11 (by decide) w_559 lr_X11_1 (by decide)) <|
  fa1 (s_iconst (n := 2) (v := 2) (by decide +kernel) (by decide +kernel) (p32 rfl)) <|
  fa1 (s_vcallI (n := 1) (ci := 3) (C := RX3) (T := TX3) (NF := 11) (idx := 206) (y := yX3_maskOf) (by decide +kernel) (gg_X3_maskOf) rfl (by decide) yv_X3_maskOf (all5 w_940 w_941 w_942 w_104 w_943) rfl rfl ⟨by decide, by decide⟩) <|
  fa1 (s_scallI (n := 1) (idx := 135) (y := yJ6_bitCount_0f7a4) (by decide +kernel) (gg_J6_bitCount_0f7a4) yv_J6_bitCount_0f7a4 (all4 w_744 w_745 w_114 w_746) rfl rfl ⟨by decide, by decide⟩) <|
  fa1 (s_iret (by decide +kernel) rfl) <|
  fa1 (s_aload_n (kf := 0) (j := 0) (by decide +kernel) rfl) <|
  fa1 (s_getR (t2 := 3) (g := (fun _ => 23)) (ci := 11) (f := 1) (idx := 19) (C := RX11) (T := TX11) (NF := 11) (by decide +kernel) rfl (by decide) inG_X11 (by decide) w_559 lr_X11_1 (by decide)) <|
  fa1 (s_iconst (n := 3) (v := 3) (by decide +kernel) (by decide +kernel) (p32 rfl)) <|
  fa1 (s_vcallI (n := 1) (ci := 3) (C := RX3) (T := TX3) (NF := 11) (idx := 206) (y := yX3_maskOf) (by decide +kernel) (gg_X3_maskOf) rfl (by decide) yv_X3_maskOf (all5 w_940 w_941 w_942 w_104 w_943) rfl rfl ⟨by decide, by decide⟩) <|
  fa1 (s_scallI (n := 1) (idx := 135) (y := yJ6_bitCount_0f7a4) (by decide +kernel) (gg_J6_bitCount_0f7a4) yv_J6_bitCount_0f7a4 (all4 w_744 w_745 w_114 w_746) rfl rfl ⟨by decide, by decide⟩) <|
  fa1 (s_iret (by decide +kernel) rfl) <|
  fa1 (s_aload_n (kf := 0) (j := 0) (by decide +kernel) rfl) <|
  fa1 (s_getR (t2 := 9) (g := (fun _ => 1)) (ci := 11) (f := 0) (idx := 10) (C := RX11) (T := TX11) (NF := 11) (by decide +kernel) rfl (by decide) inG_X11 (by decide) w_558 lr_X11_0 (by decide)) <|
  fa1 (s_getI (ci := 9) (f := 5) (idx := 286) (C := RX9) (T := TX9) (NF := 6) (by decide +kernel) rfl (by decide) inG_X9 (by decide) w_164 li_X9_5) <|
  fa1 (s_iret (by decide +kernel) rfl) <|
  fa1 (s_aload_n (kf := 0) (j := 0) (by decide +kernel) rfl) <|
  fa1 (s_getR (t2 := 3) (g := (fun _ => 23)) (ci := 11) (f := 1) (idx := 19) (C := RX11) (T := TX11) (NF := 11) (by decide +kernel) rfl (by decide) inG_X11 (by decide) w_559 lr_X11_1 (by decide)) <|
  fa1 (s_getI (ci := 3) (f := 10) (idx := 287) (C := RX3) (T := TX3) (NF := 11) (by decide +kernel) rfl (by decide) inG_X3 (by decide) w_266 li_X3_10) <|
  fa1 (s_iret (by decide +kernel) rfl) <|
  fa1 (s_aload_n (kf := 0) (j := 0) (by decide +kernel) rfl) <|
  fa1 (s_getI (ci := 11) (f := 9) (idx := 77) (C := RX11) (T := TX11) (NF := 11) (by decide +kernel) rfl (by decide) inG_X11 (by decide) w_567 li_X11_9) <|
  fa1 (s_iret (by decide +kernel) rfl) <|
  fa1 (s_aload_n (kf := 0) (j := 0) (by decide +kernel) rfl) <|
  fa1 (s_getI (ci := 11) (f := 10) (idx := 81) (C := RX11) (T := TX11) (NF := 11) (by decide +kernel) rfl (by decide) inG_X11 (by decide) w_568 li_X11_10) <|
  fa1 (s_iret (by decide +kernel) rfl) <|
  fa1 (s_aload_n (kf := 0) (j := 0) (by decide +kernel) rfl) <|
  fa1 (s_getR (t2 := 7) (g := (fun _ => 151)) (ci := 11) (f := 2) (idx := 28) (C := RX11) (T := TX11) (NF := 11) (by decide +kernel) rfl (by decide) inG_X11 (by decide) w_560 lr_X11_2 (by decide)) <|
  fa1 (s_getI (ci := 7) (f := 8) (idx := 88) (C := RX7) (T := TX7) (NF := 10) (by decide +kernel) rfl (by decide) inG_X7 (by decide) w_307 li_X7_8) <|
  fa1 (s_iret (by decide +kernel) rfl) <|
  fa1 (s_aload_n (kf := 0) (j := 0) (by decide +kernel) rfl) <|
  fa1 (s_getR (t2 := 5) (g := (fun _ => 796)) (ci := 11) (f := 8) (idx := 73) (C := RX11) (T := TX11) (NF := 11) (by decide +kernel) rfl (by decide) inG_X11 (by decide) w_566 lr_X11_8 (by decide)) <|
  fa1 (s_iconst (n := 0) (v := 0) (by decide +kernel) (by decide +kernel) (p32 rfl)) <|
  fa1 (s_vcallI (n := 1) (ci := 5) (C := RX5) (T := TX5) (NF := 3) (idx := 290) (y := yX5_cellsOf) (by decide +kernel) (gg_X5_cellsOf) rfl (by decide) yv_X5_cellsOf (all5 w_1231 w_1216 w_1217 w_112 w_1218) rfl rfl ⟨by decide, by decide⟩) <|
  fa1 (s_iret (by decide +kernel) rfl) <|
  fa1 (s_iconst (n := -1) (v := -1) (by decide +kernel) (by decide +kernel) (p32 rfl)) <|
  fa1 (s_iret (by decide +kernel) rfl) <| fa0
theorem gg_X11_count {G : Wp} {l : Launch} : GoodM loC G l yX11_count cX11_count 2 (some .int) rm_X11_count f_X11_count := met_of kt_X11_count (lkp_snd (ks_X11_count G l)) (by decide +kernel) rfl (by decide)
noncomputable def k_X12_in : List (Nat × Ins) := [
  (0, i_lload 1 0),
  (1, i_lload 2 2),
  (2, i_lcmp 3),
  (3, i_iflt 6 17),
  (6, i_lload 7 0),
  (7, i_lload 9 4),
  (9, i_lcmp 10),
  (10, i_ifgt 13 17),
  (13, i_push 14 (.inl 1)),
  (14, i_goto 18),
  (17, i_push 18 (.inl 0)),
  (18, i_zret)]
noncomputable def kc_X12_in : Nat → Option Ins := lkp k_X12_in
noncomputable def f_X12_in : List AV → Mem → Option Rs := den 6 kc_X12_in
abbrev rm_X12_in : Room := { frames := 0, cells := 0, slots := 0, locals := 0 }
set_option maxRecDepth 100000 in
theorem kt_X12_in : TriC kc_X12_in := lkp_tri (fa1 (tri_lload 1 0) (fa1 (tri_lload 2 2) (fa1 (tri_lcmp 3) (fa1 (tri_iflt 6 17) (fa1 (tri_lload 7 0) (fa1 (tri_lload 9 4) (fa1 (tri_lcmp 10) (fa1 (tri_ifgt 13 17) (fa1 (tri_push 14 (.inl 1)) (fa1 (tri_goto 18) (fa1 (tri_push 18 (.inl 0)) (fa1 (tri_zret) (fa0)))))))))))))
set_option maxRecDepth 100000 in
set_option maxHeartbeats 4000000 in
theorem ks_X12_in (G : Wp) (l : Launch) : ∀ e ∈ k_X12_in, Snd loR G l RX12 cX12_in 6 (some .boolean) rm_X12_in e.1 e.2 :=
  fa1 (s_lload_n (kf := 0) (j := 0) (by decide +kernel) rfl) <|
  fa1 (s_lload_n (kf := 2) (j := 2) (by decide +kernel) rfl) <|
  fa1 (s_lcmp (by decide +kernel)) <|
  fa1 (s_iflt (off := 14) (by decide +kernel) (by decide)) <|
  fa1 (s_lload_n (kf := 0) (j := 0) (by decide +kernel) rfl) <|
  fa1 (s_lload (j := 4) (by decide +kernel)) <|
  fa1 (s_lcmp (by decide +kernel)) <|
  fa1 (s_ifgt (off := 7) (by decide +kernel) (by decide)) <|
  fa1 (s_iconst (n := 1) (v := 1) (by decide +kernel) (by decide +kernel) (p32 rfl)) <|
  fa1 (s_goto (off := 4) (by decide +kernel) (by decide)) <|
  fa1 (s_iconst (n := 0) (v := 0) (by decide +kernel) (by decide +kernel) (p32 rfl)) <|
  fa1 (s_zret (by decide +kernel) rfl) <| fa0
theorem gg_X12_in {G : Wp} {l : Launch} : GoodM loR G l yX12_in cX12_in 6 (some .boolean) rm_X12_in f_X12_in := met_of kt_X12_in (lkp_snd (ks_X12_in G l)) (by decide +kernel) rfl (by decide)
noncomputable def k_X12_bits : List (Nat × Ins) := [
  (0, i_push 1 (.inl 0)),
  (1, i_istore 2 1),
  (2, i_push 3 (.inl 0)),
  (3, i_istore 4 2),
  (4, i_iload 5 2),
  (5, i_push 7 (.inl 24)),
  (7, i_cmpge 10 24),
  (10, i_iload 11 1),
  (11, i_iload 12 0),
  (12, i_iload 13 2),
  (13, i_bin 14 bShr),
  (14, i_push 15 (.inl 1)),
  (15, i_bin 16 bAnd),
  (16, i_bin 17 (fun x y => wr (x + y))),
  (17, i_istore 18 1),
  (18, i_iinc 21 2 (1)),
  (21, i_goto 4),
  (24, i_iload 25 1),
  (25, i_iret)]
noncomputable def kc_X12_bits : Nat → Option Ins := lkp k_X12_bits
noncomputable def f_X12_bits : List AV → Mem → Option Rs := den 3 kc_X12_bits
abbrev rm_X12_bits : Room := { frames := 0, cells := 0, slots := 0, locals := 0 }
set_option maxRecDepth 100000 in
theorem kt_X12_bits : TriC kc_X12_bits := lkp_tri (fa1 (tri_push 1 (.inl 0)) (fa1 (tri_istore 2 1) (fa1 (tri_push 3 (.inl 0)) (fa1 (tri_istore 4 2) (fa1 (tri_iload 5 2) (fa1 (tri_push 7 (.inl 24)) (fa1 (tri_cmpge 10 24) (fa1 (tri_iload 11 1) (fa1 (tri_iload 12 0) (fa1 (tri_iload 13 2) (fa1 (tri_bin 14 bShr) (fa1 (tri_push 15 (.inl 1)) (fa1 (tri_bin 16 bAnd) (fa1 (tri_bin 17 (fun x y => wr (x + y))) (fa1 (tri_istore 18 1) (fa1 (tri_iinc 21 2 (1)) (fa1 (tri_goto 4) (fa1 (tri_iload 25 1) (fa1 (tri_iret) (fa0))))))))))))))))))))
set_option maxRecDepth 100000 in
set_option maxHeartbeats 4000000 in
theorem ks_X12_bits (G : Wp) (l : Launch) : ∀ e ∈ k_X12_bits, Snd loR G l RX12 cX12_bits 3 (some .int) rm_X12_bits e.1 e.2 :=
  fa1 (s_iconst (n := 0) (v := 0) (by decide +kernel) (by decide +kernel) (p32 rfl)) <|
  fa1 (s_istore_n (kf := 1) (j := 1) (by decide +kernel) rfl (by decide)) <|
  fa1 (s_iconst (n := 0) (v := 0) (by decide +kernel) (by decide +kernel) (p32 rfl)) <|
  fa1 (s_istore_n (kf := 2) (j := 2) (by decide +kernel) rfl (by decide)) <|
  fa1 (s_iload_n (kf := 2) (j := 2) (by decide +kernel) rfl) <|
  fa1 (s_bipush (n := 24) (v := 24) (by decide +kernel) (by decide +kernel) (p32 rfl)) <|
  fa1 (s_cmpge (off := 17) (by decide +kernel) (by decide)) <|
  fa1 (s_iload_n (kf := 1) (j := 1) (by decide +kernel) rfl) <|
  fa1 (s_iload_n (kf := 0) (j := 0) (by decide +kernel) rfl) <|
  fa1 (s_iload_n (kf := 2) (j := 2) (by decide +kernel) rfl) <|
  fa1 (s_ishr (by decide +kernel)) <|
  fa1 (s_iconst (n := 1) (v := 1) (by decide +kernel) (by decide +kernel) (p32 rfl)) <|
  fa1 (s_iand (by decide +kernel)) <|
  fa1 (s_iadd (by decide +kernel)) <|
  fa1 (s_istore_n (kf := 1) (j := 1) (by decide +kernel) rfl (by decide)) <|
  fa1 (s_iinc (j := 2) (d := 1) (by decide +kernel) (by decide)) <|
  fa1 (s_goto (off := -17) (by decide +kernel) (by decide)) <|
  fa1 (s_iload_n (kf := 1) (j := 1) (by decide +kernel) rfl) <|
  fa1 (s_iret (by decide +kernel) rfl) <| fa0
theorem gg_X12_bits {G : Wp} {l : Launch} : GoodM loR G l yX12_bits cX12_bits 3 (some .int) rm_X12_bits f_X12_bits := met_of kt_X12_bits (lkp_snd (ks_X12_bits G l)) (by decide +kernel) rfl (by decide)
noncomputable def k_X12_wordBy : List (Nat × Ins) := [
  (0, i_push 2 (.inl (-4))),
  (2, i_istore 3 2),
  (3, i_push 4 (.inl 0)),
  (4, i_istore 5 3),
  (5, i_iload 6 3),
  (6, i_aload 7 0),
  (7, i_getI 10 12 23),
  (10, i_cmpge 13 35),
  (13, i_aload 14 0),
  (14, i_getR 17 12 20 (fun _ => 1)),
  (17, i_iload 18 3),
  (18, i_ald 19 20 lnR),
  (19, i_iload 20 1),
  (20, i_cmpne 23 27),
  (23, i_iload 24 3),
  (24, i_goto 28),
  (27, i_iload 28 2),
  (28, i_istore 29 2),
  (29, i_iinc 32 3 (1)),
  (32, i_goto 5),
  (35, i_iload 36 2),
  (36, i_iret)]
noncomputable def kc_X12_wordBy : Nat → Option Ins := lkp k_X12_wordBy
noncomputable def f_X12_wordBy : List AV → Mem → Option Rs := den 4 kc_X12_wordBy
abbrev rm_X12_wordBy : Room := { frames := 0, cells := 0, slots := 0, locals := 0 }
set_option maxRecDepth 100000 in
theorem kt_X12_wordBy : TriC kc_X12_wordBy := lkp_tri (fa1 (tri_push 2 (.inl (-4))) (fa1 (tri_istore 3 2) (fa1 (tri_push 4 (.inl 0)) (fa1 (tri_istore 5 3) (fa1 (tri_iload 6 3) (fa1 (tri_aload 7 0) (fa1 (tri_getI 10 12 23) (fa1 (tri_cmpge 13 35) (fa1 (tri_aload 14 0) (fa1 (tri_getR 17 12 20 (fun _ => 1)) (fa1 (tri_iload 18 3) (fa1 (tri_ald 19 20 lnR) (fa1 (tri_iload 20 1) (fa1 (tri_cmpne 23 27) (fa1 (tri_iload 24 3) (fa1 (tri_goto 28) (fa1 (tri_iload 28 2) (fa1 (tri_istore 29 2) (fa1 (tri_iinc 32 3 (1)) (fa1 (tri_goto 5) (fa1 (tri_iload 36 2) (fa1 (tri_iret) (fa0)))))))))))))))))))))))
set_option maxRecDepth 100000 in
set_option maxHeartbeats 4000000 in
theorem ks_X12_wordBy (G : Wp) (l : Launch) : ∀ e ∈ k_X12_wordBy, Snd loR G l RX12 cX12_wordBy 4 (some .int) rm_X12_wordBy e.1 e.2 :=
  fa1 (s_bipush (n := -4) (v := -4) (by decide +kernel) (by decide +kernel) (p32 rfl)) <|
  fa1 (s_istore_n (kf := 2) (j := 2) (by decide +kernel) rfl (by decide)) <|
  fa1 (s_iconst (n := 0) (v := 0) (by decide +kernel) (by decide +kernel) (p32 rfl)) <|
  fa1 (s_istore_n (kf := 3) (j := 3) (by decide +kernel) rfl (by decide)) <|
  fa1 (s_iload_n (kf := 3) (j := 3) (by decide +kernel) rfl) <|
  fa1 (s_aload_n (kf := 0) (j := 0) (by decide +kernel) rfl) <|
  fa1 (s_getI (ci := 12) (f := 23) (idx := 174) (C := RX12) (T := TX12) (NF := 83) (by decide +kernel) rfl (by decide) inG_X12 (by decide) w_1261 li_X12_23) <|
  fa1 (s_cmpge (off := 25) (by decide +kernel) (by decide)) <|
  fa1 (s_aload_n (kf := 0) (j := 0) (by decide +kernel) rfl) <|
  fa1 (s_getR (t2 := 20) (g := (fun _ => 1)) (ci := 12) (f := 1) (idx := 7) (C := RX12) (T := TX12) (NF := 83) (by decide +kernel) rfl (by decide) inG_X12 (by decide) w_1239 lr_X12_1 (by decide)) <|
  fa1 (s_iload_n (kf := 3) (j := 3) (by decide +kernel) rfl) <|
  fa1 (s_iald (by decide +kernel)) <|
  fa1 (s_iload_n (kf := 1) (j := 1) (by decide +kernel) rfl) <|
  fa1 (s_cmpne (off := 7) (by decide +kernel) (by decide)) <|
  fa1 (s_iload_n (kf := 3) (j := 3) (by decide +kernel) rfl) <|
  fa1 (s_goto (off := 4) (by decide +kernel) (by decide)) <|
  fa1 (s_iload_n (kf := 2) (j := 2) (by decide +kernel) rfl) <|
  fa1 (s_istore_n (kf := 2) (j := 2) (by decide +kernel) rfl (by decide)) <|
  fa1 (s_iinc (j := 3) (d := 1) (by decide +kernel) (by decide)) <|
  fa1 (s_goto (off := -27) (by decide +kernel) (by decide)) <|
  fa1 (s_iload_n (kf := 2) (j := 2) (by decide +kernel) rfl) <|
  fa1 (s_iret (by decide +kernel) rfl) <| fa0
theorem gg_X12_wordBy {G : Wp} {l : Launch} : GoodM loR G l yX12_wordBy cX12_wordBy 4 (some .int) rm_X12_wordBy f_X12_wordBy := met_of kt_X12_wordBy (lkp_snd (ks_X12_wordBy G l)) (by decide +kernel) rfl (by decide)
noncomputable def k_X12_has : List (Nat × Ins) := [
  (0, i_iload 1 1),
  (1, i_push 3 (.inl 23)),
  (3, i_cmpge 6 12),
  (6, i_iload 7 1),
  (7, i_push 9 (.inl 14)),
  (9, i_cmpne 12 14),
  (12, i_push 13 (.inl 0)),
  (13, i_iret),
  (14, i_iload 15 1),
  (15, i_push 17 (.inl 12)),
  (17, i_cmpne 20 25),
  (20, i_push 22 (.inl (-4))),
  (22, i_goto 30),
  (25, i_aload 26 0),
  (26, i_iload 27 1),
  (27, i_callI 30 2 (rcv 12) f_X12_wordBy),
  (30, i_istore 31 2),
  (31, i_iload 32 1),
  (32, i_push 34 (.inl 12)),
  (34, i_cmpne 37 41),
  (37, i_push 38 (.inl 2)),
  (38, i_goto 58),
  (41, i_iload 42 2),
  (42, i_push 44 (.inl (-4))),
  (44, i_cmpne 47 52),
  (47, i_push 49 (.inl (-4))),
  (49, i_goto 58),
  (52, i_aload 53 0),
  (53, i_getR 56 12 20 (fun _ => 2)),
  (56, i_iload 57 2),
  (57, i_ald 58 20 lnR),
  (58, i_iret)]
noncomputable def kc_X12_has : Nat → Option Ins := lkp k_X12_has
noncomputable def f_X12_has : List AV → Mem → Option Rs := den 3 kc_X12_has
abbrev rm_X12_has : Room := { frames := 1, cells := 0, slots := 0, locals := 23 }
set_option maxRecDepth 100000 in
theorem kt_X12_has : TriC kc_X12_has := lkp_tri (fa1 (tri_iload 1 1) (fa1 (tri_push 3 (.inl 23)) (fa1 (tri_cmpge 6 12) (fa1 (tri_iload 7 1) (fa1 (tri_push 9 (.inl 14)) (fa1 (tri_cmpne 12 14) (fa1 (tri_push 13 (.inl 0)) (fa1 (tri_iret) (fa1 (tri_iload 15 1) (fa1 (tri_push 17 (.inl 12)) (fa1 (tri_cmpne 20 25) (fa1 (tri_push 22 (.inl (-4))) (fa1 (tri_goto 30) (fa1 (tri_aload 26 0) (fa1 (tri_iload 27 1) (fa1 (tri_callI 30 2 (rcv 12) f_X12_wordBy) (fa1 (tri_istore 31 2) (fa1 (tri_iload 32 1) (fa1 (tri_push 34 (.inl 12)) (fa1 (tri_cmpne 37 41) (fa1 (tri_push 38 (.inl 2)) (fa1 (tri_goto 58) (fa1 (tri_iload 42 2) (fa1 (tri_push 44 (.inl (-4))) (fa1 (tri_cmpne 47 52) (fa1 (tri_push 49 (.inl (-4))) (fa1 (tri_goto 58) (fa1 (tri_aload 53 0) (fa1 (tri_getR 56 12 20 (fun _ => 2)) (fa1 (tri_iload 57 2) (fa1 (tri_ald 58 20 lnR) (fa1 (tri_iret) (fa0)))))))))))))))))))))))))))))))))
set_option maxRecDepth 100000 in
set_option maxHeartbeats 4000000 in
theorem ks_X12_has (G : Wp) (l : Launch) : ∀ e ∈ k_X12_has, Snd loR G l RX12 cX12_has 3 (some .int) rm_X12_has e.1 e.2 :=
  fa1 (s_iload_n (kf := 1) (j := 1) (by decide +kernel) rfl) <|
  fa1 (s_bipush (n := 23) (v := 23) (by decide +kernel) (by decide +kernel) (p32 rfl)) <|
  fa1 (s_cmpge (off := 9) (by decide +kernel) (by decide)) <|
  fa1 (s_iload_n (kf := 1) (j := 1) (by decide +kernel) rfl) <|
  fa1 (s_bipush (n := 14) (v := 14) (by decide +kernel) (by decide +kernel) (p32 rfl)) <|
  fa1 (s_cmpne (off := 5) (by decide +kernel) (by decide)) <|
  fa1 (s_iconst (n := 0) (v := 0) (by decide +kernel) (by decide +kernel) (p32 rfl)) <|
  fa1 (s_iret (by decide +kernel) rfl) <|
  fa1 (s_iload_n (kf := 1) (j := 1) (by decide +kernel) rfl) <|
  fa1 (s_bipush (n := 12) (v := 12) (by decide +kernel) (by decide +kernel) (p32 rfl)) <|
  fa1 (s_cmpne (off := 8) (by decide +kernel) (by decide)) <|
  fa1 (s_bipush (n := -4) (v := -4) (by decide +kernel) (by decide +kernel) (p32 rfl)) <|
  fa1 (s_goto (off := 8) (by decide +kernel) (by decide)) <|
  fa1 (s_aload_n (kf := 0) (j := 0) (by decide +kernel) rfl) <|
  fa1 (s_iload_n (kf := 1) (j := 1) (by decide +kernel) rfl) <|
  fa1 (s_vcallI (n := 1) (ci := 12) (C := RX12) (T := TX12) (NF := 83) (idx := 177) (y := yX12_wordBy) (by decide +kernel) (gg_X12_wordBy) rfl (by decide) yv_X12_wordBy (all5 w_1530 w_1532 w_48 w_113 w_1533) rfl rfl ⟨by decide, by decide⟩) <|
  fa1 (s_istore_n (kf := 2) (j := 2) (by decide +kernel) rfl (by decide)) <|
  fa1 (s_iload_n (kf := 1) (j := 1) (by decide +kernel) rfl) <|
  fa1 (s_bipush (n := 12) (v := 12) (by decide +kernel) (by decide +kernel) (p32 rfl)) <|
  fa1 (s_cmpne (off := 7) (by decide +kernel) (by decide)) <|
  fa1 (s_iconst (n := 2) (v := 2) (by decide +kernel) (by decide +kernel) (p32 rfl)) <|
  fa1 (s_goto (off := 20) (by decide +kernel) (by decide)) <|
  fa1 (s_iload_n (kf := 2) (j := 2) (by decide +kernel) rfl) <|
  fa1 (s_bipush (n := -4) (v := -4) (by decide +kernel) (by decide +kernel) (p32 rfl)) <|
  fa1 (s_cmpne (off := 8) (by decide +kernel) (by decide)) <|
  fa1 (s_bipush (n := -4) (v := -4) (by decide +kernel) (by decide +kernel) (p32 rfl)) <|
  fa1 (s_goto (off := 9) (by decide +kernel) (by decide)) <|
  fa1 (s_aload_n (kf := 0) (j := 0) (by decide +kernel) rfl) <|
  fa1 (s_getR (t2 := 20) (g := (fun _ => 2)) (ci := 12) (f := 2) (idx := 13) (C := RX12) (T := TX12) (NF := 83) (by decide +kernel) rfl (by decide) inG_X12 (by decide) w_1240 lr_X12_2 (by decide)) <|
  fa1 (s_iload_n (kf := 2) (j := 2) (by decide +kernel) rfl) <|
  fa1 (s_iald (by decide +kernel)) <|
  fa1 (s_iret (by decide +kernel) rfl) <| fa0
theorem gg_X12_has {G : Wp} {l : Launch} : GoodM loR G l yX12_has cX12_has 3 (some .int) rm_X12_has f_X12_has := met_of kt_X12_has (lkp_snd (ks_X12_has G l)) (by decide +kernel) rfl (by decide)
noncomputable def k_X12_endAt : List (Nat × Ins) := [
  (0, i_push 1 (.inl 1)),
  (1, i_istore 3 4),
  (3, i_iload 4 2),
  (4, i_istore 6 5),
  (6, i_iload 8 4),
  (8, i_ifle 11 52),
  (11, i_iload 13 5),
  (13, i_iload 14 3),
  (14, i_cmpge 17 52),
  (17, i_aload 18 0),
  (18, i_aload 19 1),
  (19, i_iload 21 5),
  (21, i_ald 22 20 lnR),
  (22, i_callI 25 2 (rcv 12) f_X12_has),
  (25, i_istore 27 6),
  (27, i_iload 29 6),
  (29, i_push 31 (.inl (-4))),
  (31, i_cmpne 34 37),
  (34, i_push 36 (.inl (-4))),
  (36, i_iret),
  (37, i_iload 39 4),
  (39, i_iload 41 6),
  (41, i_push 42 (.inl 1)),
  (42, i_bin 43 (fun x y => wr (x - y))),
  (43, i_bin 44 (fun x y => wr (x + y))),
  (44, i_istore 46 4),
  (46, i_iinc 49 5 (1)),
  (49, i_goto 6),
  (52, i_iload 54 4),
  (54, i_ifle 57 62),
  (57, i_push 59 (.inl (-4))),
  (59, i_goto 64),
  (62, i_iload 64 5),
  (64, i_iret)]
noncomputable def kc_X12_endAt : Nat → Option Ins := lkp k_X12_endAt
noncomputable def f_X12_endAt : List AV → Mem → Option Rs := den 7 kc_X12_endAt
abbrev rm_X12_endAt : Room := { frames := 2, cells := 0, slots := 0, locals := 45 }
set_option maxRecDepth 100000 in
theorem kt_X12_endAt : TriC kc_X12_endAt := lkp_tri (fa1 (tri_push 1 (.inl 1)) (fa1 (tri_istore 3 4) (fa1 (tri_iload 4 2) (fa1 (tri_istore 6 5) (fa1 (tri_iload 8 4) (fa1 (tri_ifle 11 52) (fa1 (tri_iload 13 5) (fa1 (tri_iload 14 3) (fa1 (tri_cmpge 17 52) (fa1 (tri_aload 18 0) (fa1 (tri_aload 19 1) (fa1 (tri_iload 21 5) (fa1 (tri_ald 22 20 lnR) (fa1 (tri_callI 25 2 (rcv 12) f_X12_has) (fa1 (tri_istore 27 6) (fa1 (tri_iload 29 6) (fa1 (tri_push 31 (.inl (-4))) (fa1 (tri_cmpne 34 37) (fa1 (tri_push 36 (.inl (-4))) (fa1 (tri_iret) (fa1 (tri_iload 39 4) (fa1 (tri_iload 41 6) (fa1 (tri_push 42 (.inl 1)) (fa1 (tri_bin 43 (fun x y => wr (x - y))) (fa1 (tri_bin 44 (fun x y => wr (x + y))) (fa1 (tri_istore 46 4) (fa1 (tri_iinc 49 5 (1)) (fa1 (tri_goto 6) (fa1 (tri_iload 54 4) (fa1 (tri_ifle 57 62) (fa1 (tri_push 59 (.inl (-4))) (fa1 (tri_goto 64) (fa1 (tri_iload 64 5) (fa1 (tri_iret) (fa0)))))))))))))))))))))))))))))))))))
set_option maxRecDepth 100000 in
set_option maxHeartbeats 4000000 in
theorem ks_X12_endAt (G : Wp) (l : Launch) : ∀ e ∈ k_X12_endAt, Snd loR G l RX12 cX12_endAt 7 (some .int) rm_X12_endAt e.1 e.2 :=
  fa1 (s_iconst (n := 1) (v := 1) (by decide +kernel) (by decide +kernel) (p32 rfl)) <|
  fa1 (s_istore (j := 4) (by decide +kernel) (by decide)) <|
  fa1 (s_iload_n (kf := 2) (j := 2) (by decide +kernel) rfl) <|
  fa1 (s_istore (j := 5) (by decide +kernel) (by decide)) <|
  fa1 (s_iload (j := 4) (by decide +kernel)) <|
  fa1 (s_ifle (off := 44) (by decide +kernel) (by decide)) <|
  fa1 (s_iload (j := 5) (by decide +kernel)) <|
  fa1 (s_iload_n (kf := 3) (j := 3) (by decide +kernel) rfl) <|
  fa1 (s_cmpge (off := 38) (by decide +kernel) (by decide)) <|
  fa1 (s_aload_n (kf := 0) (j := 0) (by decide +kernel) rfl) <|
  fa1 (s_aload_n (kf := 1) (j := 1) (by decide +kernel) rfl) <|
  fa1 (s_iload (j := 5) (by decide +kernel)) <|
  fa1 (s_iald (by decide +kernel)) <|
  fa1 (s_vcallI (n := 1) (ci := 12) (C := RX12) (T := TX12) (NF := 83) (idx := 181) (y := yX12_has) (by decide +kernel) (gg_X12_has) rfl (by decide) yv_X12_has (all5 w_1543 w_1545 w_51 w_113 w_1546) rfl rfl ⟨by decide, by decide⟩) <|
  fa1 (s_istore (j := 6) (by decide +kernel) (by decide)) <|
  fa1 (s_iload (j := 6) (by decide +kernel)) <|
  fa1 (s_bipush (n := -4) (v := -4) (by decide +kernel) (by decide +kernel) (p32 rfl)) <|
  fa1 (s_cmpne (off := 6) (by decide +kernel) (by decide)) <|
  fa1 (s_bipush (n := -4) (v := -4) (by decide +kernel) (by decide +kernel) (p32 rfl)) <|
  fa1 (s_iret (by decide +kernel) rfl) <|
  fa1 (s_iload (j := 4) (by decide +kernel)) <|
  fa1 (s_iload (j := 6) (by decide +kernel)) <|
  fa1 (s_iconst (n := 1) (v := 1) (by decide +kernel) (by decide +kernel) (p32 rfl)) <|
  fa1 (s_isub (by decide +kernel)) <|
  fa1 (s_iadd (by decide +kernel)) <|
  fa1 (s_istore (j := 4) (by decide +kernel) (by decide)) <|
  fa1 (s_iinc (j := 5) (d := 1) (by decide +kernel) (by decide)) <|
  fa1 (s_goto (off := -43) (by decide +kernel) (by decide)) <|
  fa1 (s_iload (j := 4) (by decide +kernel)) <|
  fa1 (s_ifle (off := 8) (by decide +kernel) (by decide)) <|
  fa1 (s_bipush (n := -4) (v := -4) (by decide +kernel) (by decide +kernel) (p32 rfl)) <|
  fa1 (s_goto (off := 5) (by decide +kernel) (by decide)) <|
  fa1 (s_iload (j := 5) (by decide +kernel)) <|
  fa1 (s_iret (by decide +kernel) rfl) <| fa0
theorem gg_X12_endAt {G : Wp} {l : Launch} : GoodM loR G l yX12_endAt cX12_endAt 7 (some .int) rm_X12_endAt f_X12_endAt := met_of kt_X12_endAt (lkp_snd (ks_X12_endAt G l)) (by decide +kernel) rfl (by decide)
noncomputable def k_X12_isSaying : List (Nat × Ins) := [
  (0, i_iload 1 1),
  (1, i_i2l 2),
  (2, i_push 3 (.inr (.inl 0))),
  (3, i_aload 4 0),
  (4, i_getI 7 12 5),
  (7, i_push 8 (.inl 1)),
  (8, i_bin 9 (fun x y => wr (x - y))),
  (9, i_i2l 10),
  (10, i_callI 13 3 anyv f_X12_in),
  (13, i_zret)]
noncomputable def kc_X12_isSaying : Nat → Option Ins := lkp k_X12_isSaying
noncomputable def f_X12_isSaying : List AV → Mem → Option Rs := den 2 kc_X12_isSaying
abbrev rm_X12_isSaying : Room := { frames := 1, cells := 0, slots := 0, locals := 25 }
set_option maxRecDepth 100000 in
theorem kt_X12_isSaying : TriC kc_X12_isSaying := lkp_tri (fa1 (tri_iload 1 1) (fa1 (tri_i2l 2) (fa1 (tri_push 3 (.inr (.inl 0))) (fa1 (tri_aload 4 0) (fa1 (tri_getI 7 12 5) (fa1 (tri_push 8 (.inl 1)) (fa1 (tri_bin 9 (fun x y => wr (x - y))) (fa1 (tri_i2l 10) (fa1 (tri_callI 13 3 anyv f_X12_in) (fa1 (tri_zret) (fa0)))))))))))
set_option maxRecDepth 100000 in
set_option maxHeartbeats 4000000 in
theorem ks_X12_isSaying (G : Wp) (l : Launch) : ∀ e ∈ k_X12_isSaying, Snd loR G l RX12 cX12_isSaying 2 (some .boolean) rm_X12_isSaying e.1 e.2 :=
  fa1 (s_iload_n (kf := 1) (j := 1) (by decide +kernel) rfl) <|
  fa1 (s_i2l (by decide +kernel)) <|
  fa1 (s_lconst (n := 0) (v := 0) (by decide +kernel) (by decide +kernel) (p64 rfl)) <|
  fa1 (s_aload_n (kf := 0) (j := 0) (by decide +kernel) rfl) <|
  fa1 (s_getI (ci := 12) (f := 5) (idx := 184) (C := RX12) (T := TX12) (NF := 83) (by decide +kernel) rfl (by decide) inG_X12 (by decide) w_1243 li_X12_5) <|
  fa1 (s_iconst (n := 1) (v := 1) (by decide +kernel) (by decide +kernel) (p32 rfl)) <|
  fa1 (s_isub (by decide +kernel)) <|
  fa1 (s_i2l (by decide +kernel)) <|
  fa1 (s_scallI (n := 3) (idx := 187) (y := yX12_in) (by decide +kernel) (gg_X12_in) yv_X12_in (all4 w_1498 w_1499 w_113 w_1500) rfl rfl ⟨by decide, by decide⟩) <|
  fa1 (s_zret (by decide +kernel) rfl) <| fa0
theorem gg_X12_isSaying {G : Wp} {l : Launch} : GoodM loR G l yX12_isSaying cX12_isSaying 2 (some .boolean) rm_X12_isSaying f_X12_isSaying := met_of kt_X12_isSaying (lkp_snd (ks_X12_isSaying G l)) (by decide +kernel) rfl (by decide)
noncomputable def k_X12_isWord : List (Nat × Ins) := [
  (0, i_iload 1 1),
  (1, i_i2l 2),
  (2, i_push 3 (.inr (.inl 0))),
  (3, i_aload 4 0),
  (4, i_getI 7 12 0),
  (7, i_push 8 (.inl 1)),
  (8, i_bin 9 (fun x y => wr (x - y))),
  (9, i_i2l 10),
  (10, i_callI 13 3 anyv f_X12_in),
  (13, i_zret)]
noncomputable def kc_X12_isWord : Nat → Option Ins := lkp k_X12_isWord
noncomputable def f_X12_isWord : List AV → Mem → Option Rs := den 2 kc_X12_isWord
abbrev rm_X12_isWord : Room := { frames := 1, cells := 0, slots := 0, locals := 25 }
set_option maxRecDepth 100000 in
theorem kt_X12_isWord : TriC kc_X12_isWord := lkp_tri (fa1 (tri_iload 1 1) (fa1 (tri_i2l 2) (fa1 (tri_push 3 (.inr (.inl 0))) (fa1 (tri_aload 4 0) (fa1 (tri_getI 7 12 0) (fa1 (tri_push 8 (.inl 1)) (fa1 (tri_bin 9 (fun x y => wr (x - y))) (fa1 (tri_i2l 10) (fa1 (tri_callI 13 3 anyv f_X12_in) (fa1 (tri_zret) (fa0)))))))))))
set_option maxRecDepth 100000 in
set_option maxHeartbeats 4000000 in
theorem ks_X12_isWord (G : Wp) (l : Launch) : ∀ e ∈ k_X12_isWord, Snd loR G l RX12 cX12_isWord 2 (some .boolean) rm_X12_isWord e.1 e.2 :=
  fa1 (s_iload_n (kf := 1) (j := 1) (by decide +kernel) rfl) <|
  fa1 (s_i2l (by decide +kernel)) <|
  fa1 (s_lconst (n := 0) (v := 0) (by decide +kernel) (by decide +kernel) (p64 rfl)) <|
  fa1 (s_aload_n (kf := 0) (j := 0) (by decide +kernel) rfl) <|
  fa1 (s_getI (ci := 12) (f := 0) (idx := 191) (C := RX12) (T := TX12) (NF := 83) (by decide +kernel) rfl (by decide) inG_X12 (by decide) w_1238 li_X12_0) <|
  fa1 (s_iconst (n := 1) (v := 1) (by decide +kernel) (by decide +kernel) (p32 rfl)) <|
  fa1 (s_isub (by decide +kernel)) <|
  fa1 (s_i2l (by decide +kernel)) <|
  fa1 (s_scallI (n := 3) (idx := 187) (y := yX12_in) (by decide +kernel) (gg_X12_in) yv_X12_in (all4 w_1498 w_1499 w_113 w_1500) rfl rfl ⟨by decide, by decide⟩) <|
  fa1 (s_zret (by decide +kernel) rfl) <| fa0
theorem gg_X12_isWord {G : Wp} {l : Launch} : GoodM loR G l yX12_isWord cX12_isWord 2 (some .boolean) rm_X12_isWord f_X12_isWord := met_of kt_X12_isWord (lkp_snd (ks_X12_isWord G l)) (by decide +kernel) rfl (by decide)
noncomputable def k_X12_feed : List (Nat × Ins) := [
  (0, i_aload 1 0),
  (1, i_getI 4 12 25),
  (4, i_push 6 (.inl 8)),
  (6, i_bin 7 (fun x y => wr (x + y))),
  (7, i_push 10 (.inl 240)),
  (10, i_cmple 13 16),
  (13, i_push 15 (.inl (-3))),
  (15, i_iret),
  (16, i_push 18 (.inl 56)),
  (18, i_istore 19 3),
  (19, i_iload 20 3),
  (20, i_iflt 23 56),
  (23, i_aload 24 0),
  (24, i_getR 27 12 20 (fun _ => 18)),
  (27, i_aload 28 0),
  (28, i_getI 31 12 25),
  (31, i_lload 32 1),
  (32, i_iload 33 3),
  (33, i_lsh 34 lShr),
  (34, i_push 37 (.inr (.inl (255)))),
  (37, i_lbin 38 lAnd),
  (38, i_l2i 39),
  (39, i_ast 40 20 lnR id),
  (40, i_aload 41 0),
  (41, i_dup 42),
  (42, i_getI 45 12 25),
  (45, i_push 46 (.inl 1)),
  (46, i_bin 47 (fun x y => wr (x + y))),
  (47, i_putI 50 12 25),
  (50, i_iinc 53 3 (-8)),
  (53, i_goto 19),
  (56, i_aload 57 0),
  (57, i_getI 60 12 25),
  (60, i_iret)]
noncomputable def kc_X12_feed : Nat → Option Ins := lkp k_X12_feed
noncomputable def f_X12_feed : List AV → Mem → Option Rs := den 4 kc_X12_feed
abbrev rm_X12_feed : Room := { frames := 0, cells := 0, slots := 0, locals := 0 }
set_option maxRecDepth 100000 in
theorem kt_X12_feed : TriC kc_X12_feed := lkp_tri (fa1 (tri_aload 1 0) (fa1 (tri_getI 4 12 25) (fa1 (tri_push 6 (.inl 8)) (fa1 (tri_bin 7 (fun x y => wr (x + y))) (fa1 (tri_push 10 (.inl 240)) (fa1 (tri_cmple 13 16) (fa1 (tri_push 15 (.inl (-3))) (fa1 (tri_iret) (fa1 (tri_push 18 (.inl 56)) (fa1 (tri_istore 19 3) (fa1 (tri_iload 20 3) (fa1 (tri_iflt 23 56) (fa1 (tri_aload 24 0) (fa1 (tri_getR 27 12 20 (fun _ => 18)) (fa1 (tri_aload 28 0) (fa1 (tri_getI 31 12 25) (fa1 (tri_lload 32 1) (fa1 (tri_iload 33 3) (fa1 (tri_lsh 34 lShr) (fa1 (tri_push 37 (.inr (.inl (255)))) (fa1 (tri_lbin 38 lAnd) (fa1 (tri_l2i 39) (fa1 (tri_ast 40 20 lnR id) (fa1 (tri_aload 41 0) (fa1 (tri_dup 42) (fa1 (tri_getI 45 12 25) (fa1 (tri_push 46 (.inl 1)) (fa1 (tri_bin 47 (fun x y => wr (x + y))) (fa1 (tri_putI 50 12 25) (fa1 (tri_iinc 53 3 (-8)) (fa1 (tri_goto 19) (fa1 (tri_aload 57 0) (fa1 (tri_getI 60 12 25) (fa1 (tri_iret) (fa0)))))))))))))))))))))))))))))))))))
set_option maxRecDepth 100000 in
set_option maxHeartbeats 4000000 in
theorem ks_X12_feed (G : Wp) (l : Launch) : ∀ e ∈ k_X12_feed, Snd loR G l RX12 cX12_feed 4 (some .int) rm_X12_feed e.1 e.2 :=
  fa1 (s_aload_n (kf := 0) (j := 0) (by decide +kernel) rfl) <|
  fa1 (s_getI (ci := 12) (f := 25) (idx := 194) (C := RX12) (T := TX12) (NF := 83) (by decide +kernel) rfl (by decide) inG_X12 (by decide) w_1263 li_X12_25) <|
  fa1 (s_bipush (n := 8) (v := 8) (by decide +kernel) (by decide +kernel) (p32 rfl)) <|
  fa1 (s_iadd (by decide +kernel)) <|
  fa1 (s_sipush (n := 240) (v := 240) (by decide +kernel) (by decide +kernel) (p32 rfl)) <|
  fa1 (s_cmple (off := 6) (by decide +kernel) (by decide)) <|
  fa1 (s_bipush (n := -3) (v := -3) (by decide +kernel) (by decide +kernel) (p32 rfl)) <|
  fa1 (s_iret (by decide +kernel) rfl) <|
  fa1 (s_bipush (n := 56) (v := 56) (by decide +kernel) (by decide +kernel) (p32 rfl)) <|
  fa1 (s_istore_n (kf := 3) (j := 3) (by decide +kernel) rfl (by decide)) <|
  fa1 (s_iload_n (kf := 3) (j := 3) (by decide +kernel) rfl) <|
  fa1 (s_iflt (off := 36) (by decide +kernel) (by decide)) <|
  fa1 (s_aload_n (kf := 0) (j := 0) (by decide +kernel) rfl) <|
  fa1 (s_getR (t2 := 20) (g := (fun _ => 18)) (ci := 12) (f := 24) (idx := 61) (C := RX12) (T := TX12) (NF := 83) (by decide +kernel) rfl (by decide) inG_X12 (by decide) w_1262 lr_X12_24 (by decide)) <|
  fa1 (s_aload_n (kf := 0) (j := 0) (by decide +kernel) rfl) <|
  fa1 (s_getI (ci := 12) (f := 25) (idx := 194) (C := RX12) (T := TX12) (NF := 83) (by decide +kernel) rfl (by decide) inG_X12 (by decide) w_1263 li_X12_25) <|
  fa1 (s_lload_n (kf := 1) (j := 1) (by decide +kernel) rfl) <|
  fa1 (s_iload_n (kf := 3) (j := 3) (by decide +kernel) rfl) <|
  fa1 (s_lshr (by decide +kernel)) <|
  fa1 (s_ldc2 (idx := 197) (v := 255) (by decide +kernel) w_1493 (p64 rfl)) <|
  fa1 (s_land (by decide +kernel)) <|
  fa1 (s_l2i (by decide +kernel)) <|
  fa1 (s_iast (by decide +kernel) lt_loR_20) <|
  fa1 (s_aload_n (kf := 0) (j := 0) (by decide +kernel) rfl) <|
  fa1 (s_dup (by decide +kernel)) <|
  fa1 (s_getI (ci := 12) (f := 25) (idx := 194) (C := RX12) (T := TX12) (NF := 83) (by decide +kernel) rfl (by decide) inG_X12 (by decide) w_1263 li_X12_25) <|
  fa1 (s_iconst (n := 1) (v := 1) (by decide +kernel) (by decide +kernel) (p32 rfl)) <|
  fa1 (s_iadd (by decide +kernel)) <|
  fa1 (s_putI (ci := 12) (f := 25) (idx := 194) (C := RX12) (T := TX12) (NF := 83) (by decide +kernel) rfl (by decide) inG_X12 (by decide) w_1263 tyX12 tyX12_ok nmX12 rfl (by decide +kernel) li_X12_25) <|
  fa1 (s_iinc (j := 3) (d := -8) (by decide +kernel) (by decide)) <|
  fa1 (s_goto (off := -34) (by decide +kernel) (by decide)) <|
  fa1 (s_aload_n (kf := 0) (j := 0) (by decide +kernel) rfl) <|
  fa1 (s_getI (ci := 12) (f := 25) (idx := 194) (C := RX12) (T := TX12) (NF := 83) (by decide +kernel) rfl (by decide) inG_X12 (by decide) w_1263 li_X12_25) <|
  fa1 (s_iret (by decide +kernel) rfl) <| fa0
theorem gg_X12_feed {G : Wp} {l : Launch} : GoodM loR G l yX12_feed cX12_feed 4 (some .int) rm_X12_feed f_X12_feed := met_of kt_X12_feed (lkp_snd (ks_X12_feed G l)) (by decide +kernel) rfl (by decide)
noncomputable def k_X12_end : List (Nat × Ins) := [
  (0, i_iload 1 1),
  (1, i_i2l 2),
  (2, i_push 3 (.inr (.inl 0))),
  (3, i_aload 4 0),
  (4, i_getI 7 12 25),
  (7, i_i2l 8),
  (8, i_callI 11 3 anyv f_X12_in),
  (11, i_ifne 14 16),
  (14, i_push 15 (.inl (-1))),
  (15, i_iret),
  (16, i_aload 17 0),
  (17, i_getI 20 12 25),
  (20, i_istore 21 2),
  (21, i_aload 22 0),
  (22, i_iload 23 1),
  (23, i_putI 26 12 25),
  (26, i_iload 27 2),
  (27, i_iret)]
noncomputable def kc_X12_end : Nat → Option Ins := lkp k_X12_end
noncomputable def f_X12_end : List AV → Mem → Option Rs := den 3 kc_X12_end
abbrev rm_X12_end : Room := { frames := 1, cells := 0, slots := 0, locals := 25 }
set_option maxRecDepth 100000 in
theorem kt_X12_end : TriC kc_X12_end := lkp_tri (fa1 (tri_iload 1 1) (fa1 (tri_i2l 2) (fa1 (tri_push 3 (.inr (.inl 0))) (fa1 (tri_aload 4 0) (fa1 (tri_getI 7 12 25) (fa1 (tri_i2l 8) (fa1 (tri_callI 11 3 anyv f_X12_in) (fa1 (tri_ifne 14 16) (fa1 (tri_push 15 (.inl (-1))) (fa1 (tri_iret) (fa1 (tri_aload 17 0) (fa1 (tri_getI 20 12 25) (fa1 (tri_istore 21 2) (fa1 (tri_aload 22 0) (fa1 (tri_iload 23 1) (fa1 (tri_putI 26 12 25) (fa1 (tri_iload 27 2) (fa1 (tri_iret) (fa0)))))))))))))))))))
set_option maxRecDepth 100000 in
set_option maxHeartbeats 4000000 in
theorem ks_X12_end (G : Wp) (l : Launch) : ∀ e ∈ k_X12_end, Snd loR G l RX12 cX12_end 3 (some .int) rm_X12_end e.1 e.2 :=
  fa1 (s_iload_n (kf := 1) (j := 1) (by decide +kernel) rfl) <|
  fa1 (s_i2l (by decide +kernel)) <|
  fa1 (s_lconst (n := 0) (v := 0) (by decide +kernel) (by decide +kernel) (p64 rfl)) <|
  fa1 (s_aload_n (kf := 0) (j := 0) (by decide +kernel) rfl) <|
  fa1 (s_getI (ci := 12) (f := 25) (idx := 194) (C := RX12) (T := TX12) (NF := 83) (by decide +kernel) rfl (by decide) inG_X12 (by decide) w_1263 li_X12_25) <|
  fa1 (s_i2l (by decide +kernel)) <|
  fa1 (s_scallI (n := 3) (idx := 187) (y := yX12_in) (by decide +kernel) (gg_X12_in) yv_X12_in (all4 w_1498 w_1499 w_113 w_1500) rfl rfl ⟨by decide, by decide⟩) <|
  fa1 (s_ifne (off := 5) (by decide +kernel) (by decide)) <|
  fa1 (s_iconst (n := -1) (v := -1) (by decide +kernel) (by decide +kernel) (p32 rfl)) <|
  fa1 (s_iret (by decide +kernel) rfl) <|
  fa1 (s_aload_n (kf := 0) (j := 0) (by decide +kernel) rfl) <|
  fa1 (s_getI (ci := 12) (f := 25) (idx := 194) (C := RX12) (T := TX12) (NF := 83) (by decide +kernel) rfl (by decide) inG_X12 (by decide) w_1263 li_X12_25) <|
  fa1 (s_istore_n (kf := 2) (j := 2) (by decide +kernel) rfl (by decide)) <|
  fa1 (s_aload_n (kf := 0) (j := 0) (by decide +kernel) rfl) <|
  fa1 (s_iload_n (kf := 1) (j := 1) (by decide +kernel) rfl) <|
  fa1 (s_putI (ci := 12) (f := 25) (idx := 194) (C := RX12) (T := TX12) (NF := 83) (by decide +kernel) rfl (by decide) inG_X12 (by decide) w_1263 tyX12 tyX12_ok nmX12 rfl (by decide +kernel) li_X12_25) <|
  fa1 (s_iload_n (kf := 2) (j := 2) (by decide +kernel) rfl) <|
  fa1 (s_iret (by decide +kernel) rfl) <| fa0
theorem gg_X12_end {G : Wp} {l : Launch} : GoodM loR G l yX12_end cX12_end 3 (some .int) rm_X12_end f_X12_end := met_of kt_X12_end (lkp_snd (ks_X12_end G l)) (by decide +kernel) rfl (by decide)
noncomputable def k_X12_wants : List (Nat × Ins) := [
  (0, i_iload 1 1),
  (1, i_ifne 4 24),
  (4, i_aload 5 0),
  (5, i_getI 8 12 30),
  (8, i_ifne 11 24),
  (11, i_aload 12 0),
  (12, i_iload 13 2),
  (13, i_putI 16 12 30),
  (16, i_aload 17 0),
  (17, i_aload 18 0),
  (18, i_getI 21 12 27),
  (21, i_putI 24 12 31),
  (24, i_vret)]
noncomputable def kc_X12_wants : Nat → Option Ins := lkp k_X12_wants
noncomputable def f_X12_wants : List AV → Mem → Option Rs := den 3 kc_X12_wants
abbrev rm_X12_wants : Room := { frames := 0, cells := 0, slots := 0, locals := 0 }
set_option maxRecDepth 100000 in
theorem kt_X12_wants : TriC kc_X12_wants := lkp_tri (fa1 (tri_iload 1 1) (fa1 (tri_ifne 4 24) (fa1 (tri_aload 5 0) (fa1 (tri_getI 8 12 30) (fa1 (tri_ifne 11 24) (fa1 (tri_aload 12 0) (fa1 (tri_iload 13 2) (fa1 (tri_putI 16 12 30) (fa1 (tri_aload 17 0) (fa1 (tri_aload 18 0) (fa1 (tri_getI 21 12 27) (fa1 (tri_putI 24 12 31) (fa1 (tri_vret) (fa0))))))))))))))
set_option maxRecDepth 100000 in
set_option maxHeartbeats 4000000 in
theorem ks_X12_wants (G : Wp) (l : Launch) : ∀ e ∈ k_X12_wants, Snd loR G l RX12 cX12_wants 3 none rm_X12_wants e.1 e.2 :=
  fa1 (s_iload_n (kf := 1) (j := 1) (by decide +kernel) rfl) <|
  fa1 (s_ifne (off := 23) (by decide +kernel) (by decide)) <|
  fa1 (s_aload_n (kf := 0) (j := 0) (by decide +kernel) rfl) <|
  fa1 (s_getI (ci := 12) (f := 30) (idx := 199) (C := RX12) (T := TX12) (NF := 83) (by decide +kernel) rfl (by decide) inG_X12 (by decide) w_1268 li_X12_30) <|
  fa1 (s_ifne (off := 16) (by decide +kernel) (by decide)) <|
  fa1 (s_aload_n (kf := 0) (j := 0) (by decide +kernel) rfl) <|
  fa1 (s_iload_n (kf := 2) (j := 2) (by decide +kernel) rfl) <|
  fa1 (s_putI (ci := 12) (f := 30) (idx := 199) (C := RX12) (T := TX12) (NF := 83) (by decide +kernel) rfl (by decide) inG_X12 (by decide) w_1268 tyX12 tyX12_ok nmX12 rfl (by decide +kernel) li_X12_30) <|
  fa1 (s_aload_n (kf := 0) (j := 0) (by decide +kernel) rfl) <|
  fa1 (s_aload_n (kf := 0) (j := 0) (by decide +kernel) rfl) <|
  fa1 (s_getI (ci := 12) (f := 27) (idx := 202) (C := RX12) (T := TX12) (NF := 83) (by decide +kernel) rfl (by decide) inG_X12 (by decide) w_1265 li_X12_27) <|
  fa1 (s_putI (ci := 12) (f := 31) (idx := 205) (C := RX12) (T := TX12) (NF := 83) (by decide +kernel) rfl (by decide) inG_X12 (by decide) w_1269 tyX12 tyX12_ok nmX12 rfl (by decide +kernel) li_X12_31) <|
  fa1 (s_vret (by decide +kernel) rfl) <| fa0
theorem gg_X12_wants {G : Wp} {l : Launch} : GoodM loR G l yX12_wants cX12_wants 3 none rm_X12_wants f_X12_wants := met_of kt_X12_wants (lkp_snd (ks_X12_wants G l)) (by decide +kernel) rfl (by decide)
noncomputable def k_X12_look : List (Nat × Ins) := [
  (0, i_iload 1 1),
  (1, i_aload 2 0),
  (2, i_getI 5 12 25),
  (5, i_cmpge 8 17),
  (8, i_aload 9 0),
  (9, i_getR 12 12 20 (fun _ => 18)),
  (12, i_iload 13 1),
  (13, i_ald 14 20 lnR),
  (14, i_goto 18),
  (17, i_push 18 (.inl (-1))),
  (18, i_iret)]
noncomputable def kc_X12_look : Nat → Option Ins := lkp k_X12_look
noncomputable def f_X12_look : List AV → Mem → Option Rs := den 2 kc_X12_look
abbrev rm_X12_look : Room := { frames := 0, cells := 0, slots := 0, locals := 0 }
set_option maxRecDepth 100000 in
theorem kt_X12_look : TriC kc_X12_look := lkp_tri (fa1 (tri_iload 1 1) (fa1 (tri_aload 2 0) (fa1 (tri_getI 5 12 25) (fa1 (tri_cmpge 8 17) (fa1 (tri_aload 9 0) (fa1 (tri_getR 12 12 20 (fun _ => 18)) (fa1 (tri_iload 13 1) (fa1 (tri_ald 14 20 lnR) (fa1 (tri_goto 18) (fa1 (tri_push 18 (.inl (-1))) (fa1 (tri_iret) (fa0))))))))))))
set_option maxRecDepth 100000 in
set_option maxHeartbeats 4000000 in
theorem ks_X12_look (G : Wp) (l : Launch) : ∀ e ∈ k_X12_look, Snd loR G l RX12 cX12_look 2 (some .int) rm_X12_look e.1 e.2 :=
  fa1 (s_iload_n (kf := 1) (j := 1) (by decide +kernel) rfl) <|
  fa1 (s_aload_n (kf := 0) (j := 0) (by decide +kernel) rfl) <|
  fa1 (s_getI (ci := 12) (f := 25) (idx := 194) (C := RX12) (T := TX12) (NF := 83) (by decide +kernel) rfl (by decide) inG_X12 (by decide) w_1263 li_X12_25) <|
  fa1 (s_cmpge (off := 12) (by decide +kernel) (by decide)) <|
  fa1 (s_aload_n (kf := 0) (j := 0) (by decide +kernel) rfl) <|
  fa1 (s_getR (t2 := 20) (g := (fun _ => 18)) (ci := 12) (f := 24) (idx := 61) (C := RX12) (T := TX12) (NF := 83) (by decide +kernel) rfl (by decide) inG_X12 (by decide) w_1262 lr_X12_24 (by decide)) <|
  fa1 (s_iload_n (kf := 1) (j := 1) (by decide +kernel) rfl) <|
  fa1 (s_iald (by decide +kernel)) <|
  fa1 (s_goto (off := 4) (by decide +kernel) (by decide)) <|
  fa1 (s_iconst (n := -1) (v := -1) (by decide +kernel) (by decide +kernel) (p32 rfl)) <|
  fa1 (s_iret (by decide +kernel) rfl) <| fa0
theorem gg_X12_look {G : Wp} {l : Launch} : GoodM loR G l yX12_look cX12_look 2 (some .int) rm_X12_look f_X12_look := met_of kt_X12_look (lkp_snd (ks_X12_look G l)) (by decide +kernel) rfl (by decide)
noncomputable def k_X12_next : List (Nat × Ins) := [
  (0, i_aload 1 0),
  (1, i_getI 4 12 30),
  (4, i_ifle 7 8),
  (7, i_vret),
  (8, i_aload 9 0),
  (9, i_aload 10 0),
  (10, i_getI 13 12 26),
  (13, i_callI 16 2 (rcv 12) f_X12_look),
  (16, i_push 18 (.inl 32)),
  (18, i_cmpne 21 34),
  (21, i_aload 22 0),
  (22, i_dup 23),
  (23, i_getI 26 12 26),
  (26, i_push 27 (.inl 1)),
  (27, i_bin 28 (fun x y => wr (x + y))),
  (28, i_putI 31 12 26),
  (31, i_goto 8),
  (34, i_aload 35 0),
  (35, i_aload 36 0),
  (36, i_getI 39 12 26),
  (39, i_putI 42 12 27),
  (42, i_aload 43 0),
  (43, i_aload 44 0),
  (44, i_getI 47 12 26),
  (47, i_callI 50 2 (rcv 12) f_X12_look),
  (50, i_istore 51 1),
  (51, i_iload 52 1),
  (52, i_ifge 55 63),
  (55, i_aload 56 0),
  (56, i_push 57 (.inl 0)),
  (57, i_putI 60 12 28),
  (60, i_goto 245),
  (63, i_iload 64 1),
  (64, i_i2l 65),
  (65, i_push 68 (.inr (.inl (97)))),
  (68, i_push 71 (.inr (.inl (122)))),
  (71, i_callI 74 3 anyv f_X12_in),
  (74, i_ifeq 77 116),
  (77, i_aload 78 0),
  (78, i_push 79 (.inl 1)),
  (79, i_putI 82 12 28),
  (82, i_aload 83 0),
  (83, i_aload 84 0),
  (84, i_getI 87 12 26),
  (87, i_callI 90 2 (rcv 12) f_X12_look),
  (90, i_i2l 91),
  (91, i_push 94 (.inr (.inl (97)))),
  (94, i_push 97 (.inr (.inl (122)))),
  (97, i_callI 100 3 anyv f_X12_in),
  (100, i_ifeq 103 245),
  (103, i_aload 104 0),
  (104, i_dup 105),
  (105, i_getI 108 12 26),
  (108, i_push 109 (.inl 1)),
  (109, i_bin 110 (fun x y => wr (x + y))),
  (110, i_putI 113 12 26),
  (113, i_goto 82),
  (116, i_iload 117 1),
  (117, i_i2l 118),
  (118, i_push 121 (.inr (.inl (48)))),
  (121, i_push 124 (.inr (.inl (57)))),
  (124, i_callI 127 3 anyv f_X12_in),
  (127, i_ifeq 130 203),
  (130, i_aload 131 0),
  (131, i_push 132 (.inl 2)),
  (132, i_putI 135 12 28),
  (135, i_aload 136 0),
  (136, i_iload 137 1),
  (137, i_push 139 (.inl 48)),
  (139, i_bin 140 (fun x y => wr (x - y))),
  (140, i_putI 143 12 29),
  (143, i_aload 144 0),
  (144, i_aload 145 0),
  (145, i_getI 148 12 26),
  (148, i_callI 151 2 (rcv 12) f_X12_look),
  (151, i_i2l 152),
  (152, i_push 155 (.inr (.inl (48)))),
  (155, i_push 158 (.inr (.inl (57)))),
  (158, i_callI 161 3 anyv f_X12_in),
  (161, i_ifeq 164 177),
  (164, i_aload 165 0),
  (165, i_dup 166),
  (166, i_getI 169 12 26),
  (169, i_push 170 (.inl 1)),
  (170, i_bin 171 (fun x y => wr (x + y))),
  (171, i_putI 174 12 26),
  (174, i_goto 143),
  (177, i_aload 178 0),
  (178, i_aload 179 0),
  (179, i_getI 182 12 26),
  (182, i_aload 183 0),
  (183, i_getI 186 12 27),
  (186, i_bin 187 (fun x y => wr (x - y))),
  (187, i_push 188 (.inl 1)),
  (188, i_cmpne 191 195),
  (191, i_push 192 (.inl 1)),
  (192, i_goto 196),
  (195, i_push 196 (.inl 0)),
  (196, i_push 197 (.inl 1)),
  (197, i_callV 200 3 (rcv 12) f_X12_wants),
  (200, i_goto 245),
  (203, i_aload 204 0),
  (204, i_push 205 (.inl 3)),
  (205, i_putI 208 12 28),
  (208, i_aload 209 0),
  (209, i_iload 210 1),
  (210, i_putI 213 12 29),
  (213, i_aload 214 0),
  (214, i_iload 215 1),
  (215, i_push 217 (.inl 61)),
  (217, i_cmpeq 220 226),
  (220, i_iload 221 1),
  (221, i_push 223 (.inl 59)),
  (223, i_cmpne 226 230),
  (226, i_push 227 (.inl 1)),
  (227, i_goto 231),
  (230, i_push 231 (.inl 0)),
  (231, i_push 232 (.inl 1)),
  (232, i_callV 235 3 (rcv 12) f_X12_wants),
  (235, i_aload 236 0),
  (236, i_dup 237),
  (237, i_getI 240 12 26),
  (240, i_push 241 (.inl 1)),
  (241, i_bin 242 (fun x y => wr (x + y))),
  (242, i_putI 245 12 26),
  (245, i_vret)]
noncomputable def kc_X12_next : Nat → Option Ins := lkp k_X12_next
noncomputable def f_X12_next : List AV → Mem → Option Rs := den 2 kc_X12_next
abbrev rm_X12_next : Room := { frames := 1, cells := 0, slots := 0, locals := 25 }
set_option maxRecDepth 100000 in
theorem kt_X12_next : TriC kc_X12_next := lkp_tri (fa1 (tri_aload 1 0) (fa1 (tri_getI 4 12 30) (fa1 (tri_ifle 7 8) (fa1 (tri_vret) (fa1 (tri_aload 9 0) (fa1 (tri_aload 10 0) (fa1 (tri_getI 13 12 26) (fa1 (tri_callI 16 2 (rcv 12) f_X12_look) (fa1 (tri_push 18 (.inl 32)) (fa1 (tri_cmpne 21 34) (fa1 (tri_aload 22 0) (fa1 (tri_dup 23) (fa1 (tri_getI 26 12 26) (fa1 (tri_push 27 (.inl 1)) (fa1 (tri_bin 28 (fun x y => wr (x + y))) (fa1 (tri_putI 31 12 26) (fa1 (tri_goto 8) (fa1 (tri_aload 35 0) (fa1 (tri_aload 36 0) (fa1 (tri_getI 39 12 26) (fa1 (tri_putI 42 12 27) (fa1 (tri_aload 43 0) (fa1 (tri_aload 44 0) (fa1 (tri_getI 47 12 26) (fa1 (tri_callI 50 2 (rcv 12) f_X12_look) (fa1 (tri_istore 51 1) (fa1 (tri_iload 52 1) (fa1 (tri_ifge 55 63) (fa1 (tri_aload 56 0) (fa1 (tri_push 57 (.inl 0)) (fa1 (tri_putI 60 12 28) (fa1 (tri_goto 245) (fa1 (tri_iload 64 1) (fa1 (tri_i2l 65) (fa1 (tri_push 68 (.inr (.inl (97)))) (fa1 (tri_push 71 (.inr (.inl (122)))) (fa1 (tri_callI 74 3 anyv f_X12_in) (fa1 (tri_ifeq 77 116) (fa1 (tri_aload 78 0) (fa1 (tri_push 79 (.inl 1)) (fa1 (tri_putI 82 12 28) (fa1 (tri_aload 83 0) (fa1 (tri_aload 84 0) (fa1 (tri_getI 87 12 26) (fa1 (tri_callI 90 2 (rcv 12) f_X12_look) (fa1 (tri_i2l 91) (fa1 (tri_push 94 (.inr (.inl (97)))) (fa1 (tri_push 97 (.inr (.inl (122)))) (fa1 (tri_callI 100 3 anyv f_X12_in) (fa1 (tri_ifeq 103 245) (fa1 (tri_aload 104 0) (fa1 (tri_dup 105) (fa1 (tri_getI 108 12 26) (fa1 (tri_push 109 (.inl 1)) (fa1 (tri_bin 110 (fun x y => wr (x + y))) (fa1 (tri_putI 113 12 26) (fa1 (tri_goto 82) (fa1 (tri_iload 117 1) (fa1 (tri_i2l 118) (fa1 (tri_push 121 (.inr (.inl (48)))) (fa1 (tri_push 124 (.inr (.inl (57)))) (fa1 (tri_callI 127 3 anyv f_X12_in) (fa1 (tri_ifeq 130 203) (fa1 (tri_aload 131 0) (fa1 (tri_push 132 (.inl 2)) (fa1 (tri_putI 135 12 28) (fa1 (tri_aload 136 0) (fa1 (tri_iload 137 1) (fa1 (tri_push 139 (.inl 48)) (fa1 (tri_bin 140 (fun x y => wr (x - y))) (fa1 (tri_putI 143 12 29) (fa1 (tri_aload 144 0) (fa1 (tri_aload 145 0) (fa1 (tri_getI 148 12 26) (fa1 (tri_callI 151 2 (rcv 12) f_X12_look) (fa1 (tri_i2l 152) (fa1 (tri_push 155 (.inr (.inl (48)))) (fa1 (tri_push 158 (.inr (.inl (57)))) (fa1 (tri_callI 161 3 anyv f_X12_in) (fa1 (tri_ifeq 164 177) (fa1 (tri_aload 165 0) (fa1 (tri_dup 166) (fa1 (tri_getI 169 12 26) (fa1 (tri_push 170 (.inl 1)) (fa1 (tri_bin 171 (fun x y => wr (x + y))) (fa1 (tri_putI 174 12 26) (fa1 (tri_goto 143) (fa1 (tri_aload 178 0) (fa1 (tri_aload 179 0) (fa1 (tri_getI 182 12 26) (fa1 (tri_aload 183 0) (fa1 (tri_getI 186 12 27) (fa1 (tri_bin 187 (fun x y => wr (x - y))) (fa1 (tri_push 188 (.inl 1)) (fa1 (tri_cmpne 191 195) (fa1 (tri_push 192 (.inl 1)) (fa1 (tri_goto 196) (fa1 (tri_push 196 (.inl 0)) (fa1 (tri_push 197 (.inl 1)) (fa1 (tri_callV 200 3 (rcv 12) f_X12_wants) (fa1 (tri_goto 245) (fa1 (tri_aload 204 0) (fa1 (tri_push 205 (.inl 3)) (fa1 (tri_putI 208 12 28) (fa1 (tri_aload 209 0) (fa1 (tri_iload 210 1) (fa1 (tri_putI 213 12 29) (fa1 (tri_aload 214 0) (fa1 (tri_iload 215 1) (fa1 (tri_push 217 (.inl 61)) (fa1 (tri_cmpeq 220 226) (fa1 (tri_iload 221 1) (fa1 (tri_push 223 (.inl 59)) (fa1 (tri_cmpne 226 230) (fa1 (tri_push 227 (.inl 1)) (fa1 (tri_goto 231) (fa1 (tri_push 231 (.inl 0)) (fa1 (tri_push 232 (.inl 1)) (fa1 (tri_callV 235 3 (rcv 12) f_X12_wants) (fa1 (tri_aload 236 0) (fa1 (tri_dup 237) (fa1 (tri_getI 240 12 26) (fa1 (tri_push 241 (.inl 1)) (fa1 (tri_bin 242 (fun x y => wr (x + y))) (fa1 (tri_putI 245 12 26) (fa1 (tri_vret) (fa0)))))))))))))))))))))))))))))))))))))))))))))))))))))))))))))))))))))))))))))))))))))))))))))))))))))))))))))))))))))))))))))))
set_option maxRecDepth 100000 in
set_option maxHeartbeats 4000000 in
theorem ks_X12_next (G : Wp) (l : Launch) : ∀ e ∈ k_X12_next, Snd loR G l RX12 cX12_next 2 none rm_X12_next e.1 e.2 :=
  fa1 (s_aload_n (kf := 0) (j := 0) (by decide +kernel) rfl) <|
  fa1 (s_getI (ci := 12) (f := 30) (idx := 199) (C := RX12) (T := TX12) (NF := 83) (by decide +kernel) rfl (by decide) inG_X12 (by decide) w_1268 li_X12_30) <|
  fa1 (s_ifle (off := 4) (by decide +kernel) (by decide)) <|
  fa1 (s_vret (by decide +kernel) rfl) <|
  fa1 (s_aload_n (kf := 0) (j := 0) (by decide +kernel) rfl) <|
  fa1 (s_aload_n (kf := 0) (j := 0) (by decide +kernel) rfl) <|
  fa1 (s_getI (ci := 12) (f := 26) (idx := 208) (C := RX12) (T := TX12) (NF := 83) (by decide +kernel) rfl (by decide) inG_X12 (by decide) w_1264 li_X12_26) <|
  fa1 (s_vcallI (n := 1) (ci := 12) (C := RX12) (T := TX12) (NF := 83) (idx := 211) (y := yX12_look) (by decide +kernel) (gg_X12_look) rfl (by decide) yv_X12_look (all5 w_1509 w_1511 w_44 w_113 w_1512) rfl rfl ⟨by decide, by decide⟩) <|
  fa1 (s_bipush (n := 32) (v := 32) (by decide +kernel) (by decide +kernel) (p32 rfl)) <|
  fa1 (s_cmpne (off := 16) (by decide +kernel) (by decide)) <|
  fa1 (s_aload_n (kf := 0) (j := 0) (by decide +kernel) rfl) <|
  fa1 (s_dup (by decide +kernel)) <|
  fa1 (s_getI (ci := 12) (f := 26) (idx := 208) (C := RX12) (T := TX12) (NF := 83) (by decide +kernel) rfl (by decide) inG_X12 (by decide) w_1264 li_X12_26) <|
  fa1 (s_iconst (n := 1) (v := 1) (by decide +kernel) (by decide +kernel) (p32 rfl)) <|
  fa1 (s_iadd (by decide +kernel)) <|
  fa1 (s_putI (ci := 12) (f := 26) (idx := 208) (C := RX12) (T := TX12) (NF := 83) (by decide +kernel) rfl (by decide) inG_X12 (by decide) w_1264 tyX12 tyX12_ok nmX12 rfl (by decide +kernel) li_X12_26) <|
  fa1 (s_goto (off := -23) (by decide +kernel) (by decide)) <|
  fa1 (s_aload_n (kf := 0) (j := 0) (by decide +kernel) rfl) <|
  fa1 (s_aload_n (kf := 0) (j := 0) (by decide +kernel) rfl) <|
  fa1 (s_getI (ci := 12) (f := 26) (idx := 208) (C := RX12) (T := TX12) (NF := 83) (by decide +kernel) rfl (by decide) inG_X12 (by decide) w_1264 li_X12_26) <|
  fa1 (s_putI (ci := 12) (f := 27) (idx := 202) (C := RX12) (T := TX12) (NF := 83) (by decide +kernel) rfl (by decide) inG_X12 (by decide) w_1265 tyX12 tyX12_ok nmX12 rfl (by decide +kernel) li_X12_27) <|
  fa1 (s_aload_n (kf := 0) (j := 0) (by decide +kernel) rfl) <|
  fa1 (s_aload_n (kf := 0) (j := 0) (by decide +kernel) rfl) <|
  fa1 (s_getI (ci := 12) (f := 26) (idx := 208) (C := RX12) (T := TX12) (NF := 83) (by decide +kernel) rfl (by decide) inG_X12 (by decide) w_1264 li_X12_26) <|
  fa1 (s_vcallI (n := 1) (ci := 12) (C := RX12) (T := TX12) (NF := 83) (idx := 211) (y := yX12_look) (by decide +kernel) (gg_X12_look) rfl (by decide) yv_X12_look (all5 w_1509 w_1511 w_44 w_113 w_1512) rfl rfl ⟨by decide, by decide⟩) <|
  fa1 (s_istore_n (kf := 1) (j := 1) (by decide +kernel) rfl (by decide)) <|
  fa1 (s_iload_n (kf := 1) (j := 1) (by decide +kernel) rfl) <|
  fa1 (s_ifge (off := 11) (by decide +kernel) (by decide)) <|
  fa1 (s_aload_n (kf := 0) (j := 0) (by decide +kernel) rfl) <|
  fa1 (s_iconst (n := 0) (v := 0) (by decide +kernel) (by decide +kernel) (p32 rfl)) <|
  fa1 (s_putI (ci := 12) (f := 28) (idx := 214) (C := RX12) (T := TX12) (NF := 83) (by decide +kernel) rfl (by decide) inG_X12 (by decide) w_1266 tyX12 tyX12_ok nmX12 rfl (by decide +kernel) li_X12_28) <|
  fa1 (s_goto (off := 185) (by decide +kernel) (by decide)) <|
  fa1 (s_iload_n (kf := 1) (j := 1) (by decide +kernel) rfl) <|
  fa1 (s_i2l (by decide +kernel)) <|
  fa1 (s_ldc2 (idx := 217) (v := 97) (by decide +kernel) w_1513 (p64 rfl)) <|
  fa1 (s_ldc2 (idx := 219) (v := 122) (by decide +kernel) w_1514 (p64 rfl)) <|
  fa1 (s_scallI (n := 3) (idx := 187) (y := yX12_in) (by decide +kernel) (gg_X12_in) yv_X12_in (all4 w_1498 w_1499 w_113 w_1500) rfl rfl ⟨by decide, by decide⟩) <|
  fa1 (s_ifeq (off := 42) (by decide +kernel) (by decide)) <|
  fa1 (s_aload_n (kf := 0) (j := 0) (by decide +kernel) rfl) <|
  fa1 (s_iconst (n := 1) (v := 1) (by decide +kernel) (by decide +kernel) (p32 rfl)) <|
  fa1 (s_putI (ci := 12) (f := 28) (idx := 214) (C := RX12) (T := TX12) (NF := 83) (by decide +kernel) rfl (by decide) inG_X12 (by decide) w_1266 tyX12 tyX12_ok nmX12 rfl (by decide +kernel) li_X12_28) <|
  fa1 (s_aload_n (kf := 0) (j := 0) (by decide +kernel) rfl) <|
  fa1 (s_aload_n (kf := 0) (j := 0) (by decide +kernel) rfl) <|
  fa1 (s_getI (ci := 12) (f := 26) (idx := 208) (C := RX12) (T := TX12) (NF := 83) (by decide +kernel) rfl (by decide) inG_X12 (by decide) w_1264 li_X12_26) <|
  fa1 (s_vcallI (n := 1) (ci := 12) (C := RX12) (T := TX12) (NF := 83) (idx := 211) (y := yX12_look) (by decide +kernel) (gg_X12_look) rfl (by decide) yv_X12_look (all5 w_1509 w_1511 w_44 w_113 w_1512) rfl rfl ⟨by decide, by decide⟩) <|
  fa1 (s_i2l (by decide +kernel)) <|
  fa1 (s_ldc2 (idx := 217) (v := 97) (by decide +kernel) w_1513 (p64 rfl)) <|
  fa1 (s_ldc2 (idx := 219) (v := 122) (by decide +kernel) w_1514 (p64 rfl)) <|
  fa1 (s_scallI (n := 3) (idx := 187) (y := yX12_in) (by decide +kernel) (gg_X12_in) yv_X12_in (all4 w_1498 w_1499 w_113 w_1500) rfl rfl ⟨by decide, by decide⟩) <|
  fa1 (s_ifeq (off := 145) (by decide +kernel) (by decide)) <|
  fa1 (s_aload_n (kf := 0) (j := 0) (by decide +kernel) rfl) <|
  fa1 (s_dup (by decide +kernel)) <|
  fa1 (s_getI (ci := 12) (f := 26) (idx := 208) (C := RX12) (T := TX12) (NF := 83) (by decide +kernel) rfl (by decide) inG_X12 (by decide) w_1264 li_X12_26) <|
  fa1 (s_iconst (n := 1) (v := 1) (by decide +kernel) (by decide +kernel) (p32 rfl)) <|
  fa1 (s_iadd (by decide +kernel)) <|
  fa1 (s_putI (ci := 12) (f := 26) (idx := 208) (C := RX12) (T := TX12) (NF := 83) (by decide +kernel) rfl (by decide) inG_X12 (by decide) w_1264 tyX12 tyX12_ok nmX12 rfl (by decide +kernel) li_X12_26) <|
  fa1 (s_goto (off := -31) (by decide +kernel) (by decide)) <|
  fa1 (s_iload_n (kf := 1) (j := 1) (by decide +kernel) rfl) <|
  fa1 (s_i2l (by decide +kernel)) <|
  fa1 (s_ldc2 (idx := 221) (v := 48) (by decide +kernel) w_1515 (p64 rfl)) <|
  fa1 (s_ldc2 (idx := 223) (v := 57) (by decide +kernel) w_1516 (p64 rfl)) <|
  fa1 (s_scallI (n := 3) (idx := 187) (y := yX12_in) (by decide +kernel) (gg_X12_in) yv_X12_in (all4 w_1498 w_1499 w_113 w_1500) rfl rfl ⟨by decide, by decide⟩) <|
  fa1 (s_ifeq (off := 76) (by decide +kernel) (by decide)) <|
  fa1 (s_aload_n (kf := 0) (j := 0) (by decide +kernel) rfl) <|
  fa1 (s_iconst (n := 2) (v := 2) (by decide +kernel) (by decide +kernel) (p32 rfl)) <|
  fa1 (s_putI (ci := 12) (f := 28) (idx := 214) (C := RX12) (T := TX12) (NF := 83) (by decide +kernel) rfl (by decide) inG_X12 (by decide) w_1266 tyX12 tyX12_ok nmX12 rfl (by decide +kernel) li_X12_28) <|
  fa1 (s_aload_n (kf := 0) (j := 0) (by decide +kernel) rfl) <|
  fa1 (s_iload_n (kf := 1) (j := 1) (by decide +kernel) rfl) <|
  fa1 (s_bipush (n := 48) (v := 48) (by decide +kernel) (by decide +kernel) (p32 rfl)) <|
  fa1 (s_isub (by decide +kernel)) <|
  fa1 (s_putI (ci := 12) (f := 29) (idx := 225) (C := RX12) (T := TX12) (NF := 83) (by decide +kernel) rfl (by decide) inG_X12 (by decide) w_1267 tyX12 tyX12_ok nmX12 rfl (by decide +kernel) li_X12_29) <|
  fa1 (s_aload_n (kf := 0) (j := 0) (by decide +kernel) rfl) <|
  fa1 (s_aload_n (kf := 0) (j := 0) (by decide +kernel) rfl) <|
  fa1 (s_getI (ci := 12) (f := 26) (idx := 208) (C := RX12) (T := TX12) (NF := 83) (by decide +kernel) rfl (by decide) inG_X12 (by decide) w_1264 li_X12_26) <|
  fa1 (s_vcallI (n := 1) (ci := 12) (C := RX12) (T := TX12) (NF := 83) (idx := 211) (y := yX12_look) (by decide +kernel) (gg_X12_look) rfl (by decide) yv_X12_look (all5 w_1509 w_1511 w_44 w_113 w_1512) rfl rfl ⟨by decide, by decide⟩) <|
  fa1 (s_i2l (by decide +kernel)) <|
  fa1 (s_ldc2 (idx := 221) (v := 48) (by decide +kernel) w_1515 (p64 rfl)) <|
  fa1 (s_ldc2 (idx := 223) (v := 57) (by decide +kernel) w_1516 (p64 rfl)) <|
  fa1 (s_scallI (n := 3) (idx := 187) (y := yX12_in) (by decide +kernel) (gg_X12_in) yv_X12_in (all4 w_1498 w_1499 w_113 w_1500) rfl rfl ⟨by decide, by decide⟩) <|
  fa1 (s_ifeq (off := 16) (by decide +kernel) (by decide)) <|
  fa1 (s_aload_n (kf := 0) (j := 0) (by decide +kernel) rfl) <|
  fa1 (s_dup (by decide +kernel)) <|
  fa1 (s_getI (ci := 12) (f := 26) (idx := 208) (C := RX12) (T := TX12) (NF := 83) (by decide +kernel) rfl (by decide) inG_X12 (by decide) w_1264 li_X12_26) <|
  fa1 (s_iconst (n := 1) (v := 1) (by decide +kernel) (by decide +kernel) (p32 rfl)) <|
  fa1 (s_iadd (by decide +kernel)) <|
  fa1 (s_putI (ci := 12) (f := 26) (idx := 208) (C := RX12) (T := TX12) (NF := 83) (by decide +kernel) rfl (by decide) inG_X12 (by decide) w_1264 tyX12 tyX12_ok nmX12 rfl (by decide +kernel) li_X12_26) <|
  fa1 (s_goto (off := -31) (by decide +kernel) (by decide)) <|
  fa1 (s_aload_n (kf := 0) (j := 0) (by decide +kernel) rfl) <|
  fa1 (s_aload_n (kf := 0) (j := 0) (by decide +kernel) rfl) <|
  fa1 (s_getI (ci := 12) (f := 26) (idx := 208) (C := RX12) (T := TX12) (NF := 83) (by decide +kernel) rfl (by decide) inG_X12 (by decide) w_1264 li_X12_26) <|
  fa1 (s_aload_n (kf := 0) (j := 0) (by decide +kernel) rfl) <|
  fa1 (s_getI (ci := 12) (f := 27) (idx := 202) (C := RX12) (T := TX12) (NF := 83) (by decide +kernel) rfl (by decide) inG_X12 (by decide) w_1265 li_X12_27) <|
  fa1 (s_isub (by decide +kernel)) <|
  fa1 (s_iconst (n := 1) (v := 1) (by decide +kernel) (by decide +kernel) (p32 rfl)) <|
  fa1 (s_cmpne (off := 7) (by decide +kernel) (by decide)) <|
  fa1 (s_iconst (n := 1) (v := 1) (by decide +kernel) (by decide +kernel) (p32 rfl)) <|
  fa1 (s_goto (off := 4) (by decide +kernel) (by decide)) <|
  fa1 (s_iconst (n := 0) (v := 0) (by decide +kernel) (by decide +kernel) (p32 rfl)) <|
  fa1 (s_iconst (n := 1) (v := 1) (by decide +kernel) (by decide +kernel) (p32 rfl)) <|
  fa1 (s_vcallV (n := 2) (ci := 12) (C := RX12) (T := TX12) (NF := 83) (idx := 228) (y := yX12_wants) (by decide +kernel) (gg_X12_wants) rfl (by decide) yv_X12_wants (all5 w_1517 w_1519 w_45 w_113 w_1520) rfl rfl ⟨by decide, by decide⟩) <|
  fa1 (s_goto (off := 45) (by decide +kernel) (by decide)) <|
  fa1 (s_aload_n (kf := 0) (j := 0) (by decide +kernel) rfl) <|
  fa1 (s_iconst (n := 3) (v := 3) (by decide +kernel) (by decide +kernel) (p32 rfl)) <|
  fa1 (s_putI (ci := 12) (f := 28) (idx := 214) (C := RX12) (T := TX12) (NF := 83) (by decide +kernel) rfl (by decide) inG_X12 (by decide) w_1266 tyX12 tyX12_ok nmX12 rfl (by decide +kernel) li_X12_28) <|
  fa1 (s_aload_n (kf := 0) (j := 0) (by decide +kernel) rfl) <|
  fa1 (s_iload_n (kf := 1) (j := 1) (by decide +kernel) rfl) <|
  fa1 (s_putI (ci := 12) (f := 29) (idx := 225) (C := RX12) (T := TX12) (NF := 83) (by decide +kernel) rfl (by decide) inG_X12 (by decide) w_1267 tyX12 tyX12_ok nmX12 rfl (by decide +kernel) li_X12_29) <|
  fa1 (s_aload_n (kf := 0) (j := 0) (by decide +kernel) rfl) <|
  fa1 (s_iload_n (kf := 1) (j := 1) (by decide +kernel) rfl) <|
  fa1 (s_bipush (n := 61) (v := 61) (by decide +kernel) (by decide +kernel) (p32 rfl)) <|
  fa1 (s_cmpeq (off := 9) (by decide +kernel) (by decide)) <|
  fa1 (s_iload_n (kf := 1) (j := 1) (by decide +kernel) rfl) <|
  fa1 (s_bipush (n := 59) (v := 59) (by decide +kernel) (by decide +kernel) (p32 rfl)) <|
  fa1 (s_cmpne (off := 7) (by decide +kernel) (by decide)) <|
  fa1 (s_iconst (n := 1) (v := 1) (by decide +kernel) (by decide +kernel) (p32 rfl)) <|
  fa1 (s_goto (off := 4) (by decide +kernel) (by decide)) <|
  fa1 (s_iconst (n := 0) (v := 0) (by decide +kernel) (by decide +kernel) (p32 rfl)) <|
  fa1 (s_iconst (n := 1) (v := 1) (by decide +kernel) (by decide +kernel) (p32 rfl)) <|
  fa1 (s_vcallV (n := 2) (ci := 12) (C := RX12) (T := TX12) (NF := 83) (idx := 228) (y := yX12_wants) (by decide +kernel) (gg_X12_wants) rfl (by decide) yv_X12_wants (all5 w_1517 w_1519 w_45 w_113 w_1520) rfl rfl ⟨by decide, by decide⟩) <|
  fa1 (s_aload_n (kf := 0) (j := 0) (by decide +kernel) rfl) <|
  fa1 (s_dup (by decide +kernel)) <|
  fa1 (s_getI (ci := 12) (f := 26) (idx := 208) (C := RX12) (T := TX12) (NF := 83) (by decide +kernel) rfl (by decide) inG_X12 (by decide) w_1264 li_X12_26) <|
  fa1 (s_iconst (n := 1) (v := 1) (by decide +kernel) (by decide +kernel) (p32 rfl)) <|
  fa1 (s_iadd (by decide +kernel)) <|
  fa1 (s_putI (ci := 12) (f := 26) (idx := 208) (C := RX12) (T := TX12) (NF := 83) (by decide +kernel) rfl (by decide) inG_X12 (by decide) w_1264 tyX12 tyX12_ok nmX12 rfl (by decide +kernel) li_X12_26) <|
  fa1 (s_vret (by decide +kernel) rfl) <| fa0
theorem gg_X12_next {G : Wp} {l : Launch} : GoodM loR G l yX12_next cX12_next 2 none rm_X12_next f_X12_next := met_of kt_X12_next (lkp_snd (ks_X12_next G l)) (by decide +kernel) rfl (by decide)
noncomputable def k_X12_isRow : List (Nat × Ins) := [
  (0, i_aload 1 0),
  (1, i_getI 4 12 28),
  (4, i_push 5 (.inl 1)),
  (5, i_cmpne 8 81),
  (8, i_aload 9 0),
  (9, i_getI 12 12 26),
  (12, i_aload 13 0),
  (13, i_getI 16 12 27),
  (16, i_bin 17 (fun x y => wr (x - y))),
  (17, i_iload 18 1),
  (18, i_cmpne 21 81),
  (21, i_aload 22 0),
  (22, i_aload 23 0),
  (23, i_getI 26 12 27),
  (26, i_callI 29 2 (rcv 12) f_X12_look),
  (29, i_iload 30 2),
  (30, i_cmpne 33 81),
  (33, i_aload 34 0),
  (34, i_aload 35 0),
  (35, i_getI 38 12 27),
  (38, i_push 39 (.inl 1)),
  (39, i_bin 40 (fun x y => wr (x + y))),
  (40, i_callI 43 2 (rcv 12) f_X12_look),
  (43, i_iload 44 3),
  (44, i_cmpne 47 81),
  (47, i_aload 48 0),
  (48, i_aload 49 0),
  (49, i_getI 52 12 27),
  (52, i_push 53 (.inl 2)),
  (53, i_bin 54 (fun x y => wr (x + y))),
  (54, i_callI 57 2 (rcv 12) f_X12_look),
  (57, i_iload 59 4),
  (59, i_cmpne 62 81),
  (62, i_aload 63 0),
  (63, i_aload 64 0),
  (64, i_getI 67 12 27),
  (67, i_push 68 (.inl 3)),
  (68, i_bin 69 (fun x y => wr (x + y))),
  (69, i_callI 72 2 (rcv 12) f_X12_look),
  (72, i_iload 74 5),
  (74, i_cmpne 77 81),
  (77, i_push 78 (.inl 1)),
  (78, i_goto 82),
  (81, i_push 82 (.inl 0)),
  (82, i_zret)]
noncomputable def kc_X12_isRow : Nat → Option Ins := lkp k_X12_isRow
noncomputable def f_X12_isRow : List AV → Mem → Option Rs := den 6 kc_X12_isRow
abbrev rm_X12_isRow : Room := { frames := 1, cells := 0, slots := 0, locals := 21 }
set_option maxRecDepth 100000 in
theorem kt_X12_isRow : TriC kc_X12_isRow := lkp_tri (fa1 (tri_aload 1 0) (fa1 (tri_getI 4 12 28) (fa1 (tri_push 5 (.inl 1)) (fa1 (tri_cmpne 8 81) (fa1 (tri_aload 9 0) (fa1 (tri_getI 12 12 26) (fa1 (tri_aload 13 0) (fa1 (tri_getI 16 12 27) (fa1 (tri_bin 17 (fun x y => wr (x - y))) (fa1 (tri_iload 18 1) (fa1 (tri_cmpne 21 81) (fa1 (tri_aload 22 0) (fa1 (tri_aload 23 0) (fa1 (tri_getI 26 12 27) (fa1 (tri_callI 29 2 (rcv 12) f_X12_look) (fa1 (tri_iload 30 2) (fa1 (tri_cmpne 33 81) (fa1 (tri_aload 34 0) (fa1 (tri_aload 35 0) (fa1 (tri_getI 38 12 27) (fa1 (tri_push 39 (.inl 1)) (fa1 (tri_bin 40 (fun x y => wr (x + y))) (fa1 (tri_callI 43 2 (rcv 12) f_X12_look) (fa1 (tri_iload 44 3) (fa1 (tri_cmpne 47 81) (fa1 (tri_aload 48 0) (fa1 (tri_aload 49 0) (fa1 (tri_getI 52 12 27) (fa1 (tri_push 53 (.inl 2)) (fa1 (tri_bin 54 (fun x y => wr (x + y))) (fa1 (tri_callI 57 2 (rcv 12) f_X12_look) (fa1 (tri_iload 59 4) (fa1 (tri_cmpne 62 81) (fa1 (tri_aload 63 0) (fa1 (tri_aload 64 0) (fa1 (tri_getI 67 12 27) (fa1 (tri_push 68 (.inl 3)) (fa1 (tri_bin 69 (fun x y => wr (x + y))) (fa1 (tri_callI 72 2 (rcv 12) f_X12_look) (fa1 (tri_iload 74 5) (fa1 (tri_cmpne 77 81) (fa1 (tri_push 78 (.inl 1)) (fa1 (tri_goto 82) (fa1 (tri_push 82 (.inl 0)) (fa1 (tri_zret) (fa0))))))))))))))))))))))))))))))))))))))))))))))
set_option maxRecDepth 100000 in
set_option maxHeartbeats 4000000 in
theorem ks_X12_isRow (G : Wp) (l : Launch) : ∀ e ∈ k_X12_isRow, Snd loR G l RX12 cX12_isRow 6 (some .boolean) rm_X12_isRow e.1 e.2 :=
  fa1 (s_aload_n (kf := 0) (j := 0) (by decide +kernel) rfl) <|
  fa1 (s_getI (ci := 12) (f := 28) (idx := 214) (C := RX12) (T := TX12) (NF := 83) (by decide +kernel) rfl (by decide) inG_X12 (by decide) w_1266 li_X12_28) <|
  fa1 (s_iconst (n := 1) (v := 1) (by decide +kernel) (by decide +kernel) (p32 rfl)) <|
  fa1 (s_cmpne (off := 76) (by decide +kernel) (by decide)) <|
  fa1 (s_aload_n (kf := 0) (j := 0) (by decide +kernel) rfl) <|
  fa1 (s_getI (ci := 12) (f := 26) (idx := 208) (C := RX12) (T := TX12) (NF := 83) (by decide +kernel) rfl (by decide) inG_X12 (by decide) w_1264 li_X12_26) <|
  fa1 (s_aload_n (kf := 0) (j := 0) (by decide +kernel) rfl) <|
  fa1 (s_getI (ci := 12) (f := 27) (idx := 202) (C := RX12) (T := TX12) (NF := 83) (by decide +kernel) rfl (by decide) inG_X12 (by decide) w_1265 li_X12_27) <|
  fa1 (s_isub (by decide +kernel)) <|
  fa1 (s_iload_n (kf := 1) (j := 1) (by decide +kernel) rfl) <|
  fa1 (s_cmpne (off := 63) (by decide +kernel) (by decide)) <|
  fa1 (s_aload_n (kf := 0) (j := 0) (by decide +kernel) rfl) <|
  fa1 (s_aload_n (kf := 0) (j := 0) (by decide +kernel) rfl) <|
  fa1 (s_getI (ci := 12) (f := 27) (idx := 202) (C := RX12) (T := TX12) (NF := 83) (by decide +kernel) rfl (by decide) inG_X12 (by decide) w_1265 li_X12_27) <|
  fa1 (s_vcallI (n := 1) (ci := 12) (C := RX12) (T := TX12) (NF := 83) (idx := 211) (y := yX12_look) (by decide +kernel) (gg_X12_look) rfl (by decide) yv_X12_look (all5 w_1509 w_1511 w_44 w_113 w_1512) rfl rfl ⟨by decide, by decide⟩) <|
  fa1 (s_iload_n (kf := 2) (j := 2) (by decide +kernel) rfl) <|
  fa1 (s_cmpne (off := 51) (by decide +kernel) (by decide)) <|
  fa1 (s_aload_n (kf := 0) (j := 0) (by decide +kernel) rfl) <|
  fa1 (s_aload_n (kf := 0) (j := 0) (by decide +kernel) rfl) <|
  fa1 (s_getI (ci := 12) (f := 27) (idx := 202) (C := RX12) (T := TX12) (NF := 83) (by decide +kernel) rfl (by decide) inG_X12 (by decide) w_1265 li_X12_27) <|
  fa1 (s_iconst (n := 1) (v := 1) (by decide +kernel) (by decide +kernel) (p32 rfl)) <|
  fa1 (s_iadd (by decide +kernel)) <|
  fa1 (s_vcallI (n := 1) (ci := 12) (C := RX12) (T := TX12) (NF := 83) (idx := 211) (y := yX12_look) (by decide +kernel) (gg_X12_look) rfl (by decide) yv_X12_look (all5 w_1509 w_1511 w_44 w_113 w_1512) rfl rfl ⟨by decide, by decide⟩) <|
  fa1 (s_iload_n (kf := 3) (j := 3) (by decide +kernel) rfl) <|
  fa1 (s_cmpne (off := 37) (by decide +kernel) (by decide)) <|
  fa1 (s_aload_n (kf := 0) (j := 0) (by decide +kernel) rfl) <|
  fa1 (s_aload_n (kf := 0) (j := 0) (by decide +kernel) rfl) <|
  fa1 (s_getI (ci := 12) (f := 27) (idx := 202) (C := RX12) (T := TX12) (NF := 83) (by decide +kernel) rfl (by decide) inG_X12 (by decide) w_1265 li_X12_27) <|
  fa1 (s_iconst (n := 2) (v := 2) (by decide +kernel) (by decide +kernel) (p32 rfl)) <|
  fa1 (s_iadd (by decide +kernel)) <|
  fa1 (s_vcallI (n := 1) (ci := 12) (C := RX12) (T := TX12) (NF := 83) (idx := 211) (y := yX12_look) (by decide +kernel) (gg_X12_look) rfl (by decide) yv_X12_look (all5 w_1509 w_1511 w_44 w_113 w_1512) rfl rfl ⟨by decide, by decide⟩) <|
  fa1 (s_iload (j := 4) (by decide +kernel)) <|
  fa1 (s_cmpne (off := 22) (by decide +kernel) (by decide)) <|
  fa1 (s_aload_n (kf := 0) (j := 0) (by decide +kernel) rfl) <|
  fa1 (s_aload_n (kf := 0) (j := 0) (by decide +kernel) rfl) <|
  fa1 (s_getI (ci := 12) (f := 27) (idx := 202) (C := RX12) (T := TX12) (NF := 83) (by decide +kernel) rfl (by decide) inG_X12 (by decide) w_1265 li_X12_27) <|
  fa1 (s_iconst (n := 3) (v := 3) (by decide +kernel) (by decide +kernel) (p32 rfl)) <|
  fa1 (s_iadd (by decide +kernel)) <|
  fa1 (s_vcallI (n := 1) (ci := 12) (C := RX12) (T := TX12) (NF := 83) (idx := 211) (y := yX12_look) (by decide +kernel) (gg_X12_look) rfl (by decide) yv_X12_look (all5 w_1509 w_1511 w_44 w_113 w_1512) rfl rfl ⟨by decide, by decide⟩) <|
  fa1 (s_iload (j := 5) (by decide +kernel)) <|
  fa1 (s_cmpne (off := 7) (by decide +kernel) (by decide)) <|
  fa1 (s_iconst (n := 1) (v := 1) (by decide +kernel) (by decide +kernel) (p32 rfl)) <|
  fa1 (s_goto (off := 4) (by decide +kernel) (by decide)) <|
  fa1 (s_iconst (n := 0) (v := 0) (by decide +kernel) (by decide +kernel) (p32 rfl)) <|
  fa1 (s_zret (by decide +kernel) rfl) <| fa0
theorem gg_X12_isRow {G : Wp} {l : Launch} : GoodM loR G l yX12_isRow cX12_isRow 6 (some .boolean) rm_X12_isRow f_X12_isRow := met_of kt_X12_isRow (lkp_snd (ks_X12_isRow G l)) (by decide +kernel) rfl (by decide)
noncomputable def k_X12_readSign : List (Nat × Ins) := [
  (0, i_aload 1 0),
  (1, i_getI 4 12 30),
  (4, i_ifne 7 33),
  (7, i_aload 8 0),
  (8, i_aload 9 0),
  (9, i_getI 12 12 28),
  (12, i_push 13 (.inl 3)),
  (13, i_cmpne 16 28),
  (16, i_aload 17 0),
  (17, i_getI 20 12 29),
  (20, i_iload 21 1),
  (21, i_cmpne 24 28),
  (24, i_push 25 (.inl 1)),
  (25, i_goto 29),
  (28, i_push 29 (.inl 0)),
  (29, i_push 30 (.inl 2)),
  (30, i_callV 33 3 (rcv 12) f_X12_wants),
  (33, i_aload 34 0),
  (34, i_callV 37 1 (rcv 12) f_X12_next),
  (37, i_vret)]
noncomputable def kc_X12_readSign : Nat → Option Ins := lkp k_X12_readSign
noncomputable def f_X12_readSign : List AV → Mem → Option Rs := den 2 kc_X12_readSign
abbrev rm_X12_readSign : Room := { frames := 2, cells := 0, slots := 0, locals := 46 }
set_option maxRecDepth 100000 in
theorem kt_X12_readSign : TriC kc_X12_readSign := lkp_tri (fa1 (tri_aload 1 0) (fa1 (tri_getI 4 12 30) (fa1 (tri_ifne 7 33) (fa1 (tri_aload 8 0) (fa1 (tri_aload 9 0) (fa1 (tri_getI 12 12 28) (fa1 (tri_push 13 (.inl 3)) (fa1 (tri_cmpne 16 28) (fa1 (tri_aload 17 0) (fa1 (tri_getI 20 12 29) (fa1 (tri_iload 21 1) (fa1 (tri_cmpne 24 28) (fa1 (tri_push 25 (.inl 1)) (fa1 (tri_goto 29) (fa1 (tri_push 29 (.inl 0)) (fa1 (tri_push 30 (.inl 2)) (fa1 (tri_callV 33 3 (rcv 12) f_X12_wants) (fa1 (tri_aload 34 0) (fa1 (tri_callV 37 1 (rcv 12) f_X12_next) (fa1 (tri_vret) (fa0)))))))))))))))))))))
set_option maxRecDepth 100000 in
set_option maxHeartbeats 4000000 in
theorem ks_X12_readSign (G : Wp) (l : Launch) : ∀ e ∈ k_X12_readSign, Snd loR G l RX12 cX12_readSign 2 none rm_X12_readSign e.1 e.2 :=
  fa1 (s_aload_n (kf := 0) (j := 0) (by decide +kernel) rfl) <|
  fa1 (s_getI (ci := 12) (f := 30) (idx := 199) (C := RX12) (T := TX12) (NF := 83) (by decide +kernel) rfl (by decide) inG_X12 (by decide) w_1268 li_X12_30) <|
  fa1 (s_ifne (off := 29) (by decide +kernel) (by decide)) <|
  fa1 (s_aload_n (kf := 0) (j := 0) (by decide +kernel) rfl) <|
  fa1 (s_aload_n (kf := 0) (j := 0) (by decide +kernel) rfl) <|
  fa1 (s_getI (ci := 12) (f := 28) (idx := 214) (C := RX12) (T := TX12) (NF := 83) (by decide +kernel) rfl (by decide) inG_X12 (by decide) w_1266 li_X12_28) <|
  fa1 (s_iconst (n := 3) (v := 3) (by decide +kernel) (by decide +kernel) (p32 rfl)) <|
  fa1 (s_cmpne (off := 15) (by decide +kernel) (by decide)) <|
  fa1 (s_aload_n (kf := 0) (j := 0) (by decide +kernel) rfl) <|
  fa1 (s_getI (ci := 12) (f := 29) (idx := 225) (C := RX12) (T := TX12) (NF := 83) (by decide +kernel) rfl (by decide) inG_X12 (by decide) w_1267 li_X12_29) <|
  fa1 (s_iload_n (kf := 1) (j := 1) (by decide +kernel) rfl) <|
  fa1 (s_cmpne (off := 7) (by decide +kernel) (by decide)) <|
  fa1 (s_iconst (n := 1) (v := 1) (by decide +kernel) (by decide +kernel) (p32 rfl)) <|
  fa1 (s_goto (off := 4) (by decide +kernel) (by decide)) <|
  fa1 (s_iconst (n := 0) (v := 0) (by decide +kernel) (by decide +kernel) (p32 rfl)) <|
  fa1 (s_iconst (n := 2) (v := 2) (by decide +kernel) (by decide +kernel) (p32 rfl)) <|
  fa1 (s_vcallV (n := 2) (ci := 12) (C := RX12) (T := TX12) (NF := 83) (idx := 228) (y := yX12_wants) (by decide +kernel) (gg_X12_wants) rfl (by decide) yv_X12_wants (all5 w_1517 w_1519 w_45 w_113 w_1520) rfl rfl ⟨by decide, by decide⟩) <|
  fa1 (s_aload_n (kf := 0) (j := 0) (by decide +kernel) rfl) <|
  fa1 (s_vcallV (n := 0) (ci := 12) (C := RX12) (T := TX12) (NF := 83) (idx := 232) (y := yX12_next) (by decide +kernel) (gg_X12_next) rfl (by decide) yv_X12_next (all5 w_1505 w_1507 w_43 w_113 w_1508) rfl rfl ⟨by decide, by decide⟩) <|
  fa1 (s_vret (by decide +kernel) rfl) <| fa0
theorem gg_X12_readSign {G : Wp} {l : Launch} : GoodM loR G l yX12_readSign cX12_readSign 2 none rm_X12_readSign f_X12_readSign := met_of kt_X12_readSign (lkp_snd (ks_X12_readSign G l)) (by decide +kernel) rfl (by decide)
noncomputable def k_X12_readTerm : List (Nat × Ins) := [
  (0, i_aload 1 0),
  (1, i_aload 2 0),
  (2, i_getI 5 12 28),
  (5, i_push 6 (.inl 1)),
  (6, i_cmpne 9 13),
  (9, i_push 10 (.inl 1)),
  (10, i_goto 14),
  (13, i_push 14 (.inl 0)),
  (14, i_push 15 (.inl 2)),
  (15, i_callV 18 3 (rcv 12) f_X12_wants),
  (18, i_aload 19 0),
  (19, i_getI 22 12 30),
  (22, i_ifle 25 26),
  (25, i_vret),
  (26, i_aload 27 0),
  (27, i_aload 28 0),
  (28, i_getI 31 12 26),
  (31, i_aload 32 0),
  (32, i_getI 35 12 27),
  (35, i_bin 36 (fun x y => wr (x - y))),
  (36, i_putI 39 12 33),
  (39, i_aload 40 0),
  (40, i_getI 43 12 33),
  (43, i_push 45 (.inl 20)),
  (45, i_cmpgt 48 52),
  (48, i_push 49 (.inl 1)),
  (49, i_goto 53),
  (52, i_push 53 (.inl 0)),
  (53, i_istore 54 3),
  (54, i_push 55 (.inl 0)),
  (55, i_istore 57 4),
  (57, i_iload 59 4),
  (59, i_aload 60 0),
  (60, i_getI 63 12 33),
  (63, i_cmpge 66 158),
  (66, i_iload 67 3),
  (67, i_ifeq 70 158),
  (70, i_aload 71 0),
  (71, i_aload 72 0),
  (72, i_getI 75 12 27),
  (75, i_iload 77 4),
  (77, i_bin 78 (fun x y => wr (x + y))),
  (78, i_callI 81 2 (rcv 12) f_X12_look),
  (81, i_push 83 (.inl 97)),
  (83, i_bin 84 (fun x y => wr (x - y))),
  (84, i_istore 86 5),
  (86, i_aload 87 0),
  (87, i_iload 89 5),
  (89, i_callI 92 2 (rcv 12) f_X12_wordBy),
  (92, i_istore 94 6),
  (94, i_aload 95 0),
  (95, i_getR 98 12 20 (fun _ => 19)),
  (98, i_iload 100 4),
  (100, i_iload 102 5),
  (102, i_ast 103 20 lnR id),
  (103, i_iload 105 5),
  (105, i_push 107 (.inl 12)),
  (107, i_cmpeq 110 146),
  (110, i_iload 112 5),
  (112, i_push 114 (.inl 14)),
  (114, i_cmpeq 117 146),
  (117, i_iload 119 5),
  (119, i_push 121 (.inl 23)),
  (121, i_cmplt 124 133),
  (124, i_iload 126 5),
  (126, i_push 128 (.inl 23)),
  (128, i_iload 129 1),
  (129, i_bin 130 (fun x y => wr (x + y))),
  (130, i_cmplt 133 146),
  (133, i_iload 135 6),
  (135, i_push 137 (.inl (-4))),
  (137, i_cmpeq 140 150),
  (140, i_iload 142 6),
  (142, i_iload 143 2),
  (143, i_cmpge 146 150),
  (146, i_push 147 (.inl 1)),
  (147, i_goto 151),
  (150, i_push 151 (.inl 0)),
  (151, i_istore 152 3),
  (152, i_iinc 155 4 (1)),
  (155, i_goto 57),
  (158, i_aload 159 0),
  (159, i_iload 160 3),
  (160, i_ifeq 163 187),
  (163, i_aload 164 0),
  (164, i_aload 165 0),
  (165, i_getR 168 12 20 (fun _ => 19)),
  (168, i_push 169 (.inl 0)),
  (169, i_aload 170 0),
  (170, i_getI 173 12 33),
  (173, i_callI 176 4 (rcv 12) f_X12_endAt),
  (176, i_aload 177 0),
  (177, i_getI 180 12 33),
  (180, i_cmpne 183 187),
  (183, i_push 184 (.inl 1)),
  (184, i_goto 188),
  (187, i_push 188 (.inl 0)),
  (188, i_push 189 (.inl 5)),
  (189, i_callV 192 3 (rcv 12) f_X12_wants),
  (192, i_aload 193 0),
  (193, i_callV 196 1 (rcv 12) f_X12_next),
  (196, i_vret)]
noncomputable def kc_X12_readTerm : Nat → Option Ins := lkp k_X12_readTerm
noncomputable def f_X12_readTerm : List AV → Mem → Option Rs := den 7 kc_X12_readTerm
abbrev rm_X12_readTerm : Room := { frames := 3, cells := 0, slots := 0, locals := 71 }
set_option maxRecDepth 100000 in
theorem kt_X12_readTerm : TriC kc_X12_readTerm := lkp_tri (fa1 (tri_aload 1 0) (fa1 (tri_aload 2 0) (fa1 (tri_getI 5 12 28) (fa1 (tri_push 6 (.inl 1)) (fa1 (tri_cmpne 9 13) (fa1 (tri_push 10 (.inl 1)) (fa1 (tri_goto 14) (fa1 (tri_push 14 (.inl 0)) (fa1 (tri_push 15 (.inl 2)) (fa1 (tri_callV 18 3 (rcv 12) f_X12_wants) (fa1 (tri_aload 19 0) (fa1 (tri_getI 22 12 30) (fa1 (tri_ifle 25 26) (fa1 (tri_vret) (fa1 (tri_aload 27 0) (fa1 (tri_aload 28 0) (fa1 (tri_getI 31 12 26) (fa1 (tri_aload 32 0) (fa1 (tri_getI 35 12 27) (fa1 (tri_bin 36 (fun x y => wr (x - y))) (fa1 (tri_putI 39 12 33) (fa1 (tri_aload 40 0) (fa1 (tri_getI 43 12 33) (fa1 (tri_push 45 (.inl 20)) (fa1 (tri_cmpgt 48 52) (fa1 (tri_push 49 (.inl 1)) (fa1 (tri_goto 53) (fa1 (tri_push 53 (.inl 0)) (fa1 (tri_istore 54 3) (fa1 (tri_push 55 (.inl 0)) (fa1 (tri_istore 57 4) (fa1 (tri_iload 59 4) (fa1 (tri_aload 60 0) (fa1 (tri_getI 63 12 33) (fa1 (tri_cmpge 66 158) (fa1 (tri_iload 67 3) (fa1 (tri_ifeq 70 158) (fa1 (tri_aload 71 0) (fa1 (tri_aload 72 0) (fa1 (tri_getI 75 12 27) (fa1 (tri_iload 77 4) (fa1 (tri_bin 78 (fun x y => wr (x + y))) (fa1 (tri_callI 81 2 (rcv 12) f_X12_look) (fa1 (tri_push 83 (.inl 97)) (fa1 (tri_bin 84 (fun x y => wr (x - y))) (fa1 (tri_istore 86 5) (fa1 (tri_aload 87 0) (fa1 (tri_iload 89 5) (fa1 (tri_callI 92 2 (rcv 12) f_X12_wordBy) (fa1 (tri_istore 94 6) (fa1 (tri_aload 95 0) (fa1 (tri_getR 98 12 20 (fun _ => 19)) (fa1 (tri_iload 100 4) (fa1 (tri_iload 102 5) (fa1 (tri_ast 103 20 lnR id) (fa1 (tri_iload 105 5) (fa1 (tri_push 107 (.inl 12)) (fa1 (tri_cmpeq 110 146) (fa1 (tri_iload 112 5) (fa1 (tri_push 114 (.inl 14)) (fa1 (tri_cmpeq 117 146) (fa1 (tri_iload 119 5) (fa1 (tri_push 121 (.inl 23)) (fa1 (tri_cmplt 124 133) (fa1 (tri_iload 126 5) (fa1 (tri_push 128 (.inl 23)) (fa1 (tri_iload 129 1) (fa1 (tri_bin 130 (fun x y => wr (x + y))) (fa1 (tri_cmplt 133 146) (fa1 (tri_iload 135 6) (fa1 (tri_push 137 (.inl (-4))) (fa1 (tri_cmpeq 140 150) (fa1 (tri_iload 142 6) (fa1 (tri_iload 143 2) (fa1 (tri_cmpge 146 150) (fa1 (tri_push 147 (.inl 1)) (fa1 (tri_goto 151) (fa1 (tri_push 151 (.inl 0)) (fa1 (tri_istore 152 3) (fa1 (tri_iinc 155 4 (1)) (fa1 (tri_goto 57) (fa1 (tri_aload 159 0) (fa1 (tri_iload 160 3) (fa1 (tri_ifeq 163 187) (fa1 (tri_aload 164 0) (fa1 (tri_aload 165 0) (fa1 (tri_getR 168 12 20 (fun _ => 19)) (fa1 (tri_push 169 (.inl 0)) (fa1 (tri_aload 170 0) (fa1 (tri_getI 173 12 33) (fa1 (tri_callI 176 4 (rcv 12) f_X12_endAt) (fa1 (tri_aload 177 0) (fa1 (tri_getI 180 12 33) (fa1 (tri_cmpne 183 187) (fa1 (tri_push 184 (.inl 1)) (fa1 (tri_goto 188) (fa1 (tri_push 188 (.inl 0)) (fa1 (tri_push 189 (.inl 5)) (fa1 (tri_callV 192 3 (rcv 12) f_X12_wants) (fa1 (tri_aload 193 0) (fa1 (tri_callV 196 1 (rcv 12) f_X12_next) (fa1 (tri_vret) (fa0)))))))))))))))))))))))))))))))))))))))))))))))))))))))))))))))))))))))))))))))))))))))))))))))))))))))
set_option maxRecDepth 100000 in
set_option maxHeartbeats 4000000 in
theorem ks_X12_readTerm (G : Wp) (l : Launch) : ∀ e ∈ k_X12_readTerm, Snd loR G l RX12 cX12_readTerm 7 none rm_X12_readTerm e.1 e.2 :=
  fa1 (s_aload_n (kf := 0) (j := 0) (by decide +kernel) rfl) <|
  fa1 (s_aload_n (kf := 0) (j := 0) (by decide +kernel) rfl) <|
  fa1 (s_getI (ci := 12) (f := 28) (idx := 214) (C := RX12) (T := TX12) (NF := 83) (by decide +kernel) rfl (by decide) inG_X12 (by decide) w_1266 li_X12_28) <|
  fa1 (s_iconst (n := 1) (v := 1) (by decide +kernel) (by decide +kernel) (p32 rfl)) <|
  fa1 (s_cmpne (off := 7) (by decide +kernel) (by decide)) <|
  fa1 (s_iconst (n := 1) (v := 1) (by decide +kernel) (by decide +kernel) (p32 rfl)) <|
  fa1 (s_goto (off := 4) (by decide +kernel) (by decide)) <|
  fa1 (s_iconst (n := 0) (v := 0) (by decide +kernel) (by decide +kernel) (p32 rfl)) <|
  fa1 (s_iconst (n := 2) (v := 2) (by decide +kernel) (by decide +kernel) (p32 rfl)) <|
  fa1 (s_vcallV (n := 2) (ci := 12) (C := RX12) (T := TX12) (NF := 83) (idx := 228) (y := yX12_wants) (by decide +kernel) (gg_X12_wants) rfl (by decide) yv_X12_wants (all5 w_1517 w_1519 w_45 w_113 w_1520) rfl rfl ⟨by decide, by decide⟩) <|
  fa1 (s_aload_n (kf := 0) (j := 0) (by decide +kernel) rfl) <|
  fa1 (s_getI (ci := 12) (f := 30) (idx := 199) (C := RX12) (T := TX12) (NF := 83) (by decide +kernel) rfl (by decide) inG_X12 (by decide) w_1268 li_X12_30) <|
  fa1 (s_ifle (off := 4) (by decide +kernel) (by decide)) <|
  fa1 (s_vret (by decide +kernel) rfl) <|
  fa1 (s_aload_n (kf := 0) (j := 0) (by decide +kernel) rfl) <|
  fa1 (s_aload_n (kf := 0) (j := 0) (by decide +kernel) rfl) <|
  fa1 (s_getI (ci := 12) (f := 26) (idx := 208) (C := RX12) (T := TX12) (NF := 83) (by decide +kernel) rfl (by decide) inG_X12 (by decide) w_1264 li_X12_26) <|
  fa1 (s_aload_n (kf := 0) (j := 0) (by decide +kernel) rfl) <|
  fa1 (s_getI (ci := 12) (f := 27) (idx := 202) (C := RX12) (T := TX12) (NF := 83) (by decide +kernel) rfl (by decide) inG_X12 (by decide) w_1265 li_X12_27) <|
  fa1 (s_isub (by decide +kernel)) <|
  fa1 (s_putI (ci := 12) (f := 33) (idx := 235) (C := RX12) (T := TX12) (NF := 83) (by decide +kernel) rfl (by decide) inG_X12 (by decide) w_1271 tyX12 tyX12_ok nmX12 rfl (by decide +kernel) li_X12_33) <|
  fa1 (s_aload_n (kf := 0) (j := 0) (by decide +kernel) rfl) <|
  fa1 (s_getI (ci := 12) (f := 33) (idx := 235) (C := RX12) (T := TX12) (NF := 83) (by decide +kernel) rfl (by decide) inG_X12 (by decide) w_1271 li_X12_33) <|
  fa1 (s_bipush (n := 20) (v := 20) (by decide +kernel) (by decide +kernel) (p32 rfl)) <|
  fa1 (s_cmpgt (off := 7) (by decide +kernel) (by decide)) <|
  fa1 (s_iconst (n := 1) (v := 1) (by decide +kernel) (by decide +kernel) (p32 rfl)) <|
  fa1 (s_goto (off := 4) (by decide +kernel) (by decide)) <|
  fa1 (s_iconst (n := 0) (v := 0) (by decide +kernel) (by decide +kernel) (p32 rfl)) <|
  fa1 (s_istore_n (kf := 3) (j := 3) (by decide +kernel) rfl (by decide)) <|
  fa1 (s_iconst (n := 0) (v := 0) (by decide +kernel) (by decide +kernel) (p32 rfl)) <|
  fa1 (s_istore (j := 4) (by decide +kernel) (by decide)) <|
  fa1 (s_iload (j := 4) (by decide +kernel)) <|
  fa1 (s_aload_n (kf := 0) (j := 0) (by decide +kernel) rfl) <|
  fa1 (s_getI (ci := 12) (f := 33) (idx := 235) (C := RX12) (T := TX12) (NF := 83) (by decide +kernel) rfl (by decide) inG_X12 (by decide) w_1271 li_X12_33) <|
  fa1 (s_cmpge (off := 95) (by decide +kernel) (by decide)) <|
  fa1 (s_iload_n (kf := 3) (j := 3) (by decide +kernel) rfl) <|
  fa1 (s_ifeq (off := 91) (by decide +kernel) (by decide)) <|
  fa1 (s_aload_n (kf := 0) (j := 0) (by decide +kernel) rfl) <|
  fa1 (s_aload_n (kf := 0) (j := 0) (by decide +kernel) rfl) <|
  fa1 (s_getI (ci := 12) (f := 27) (idx := 202) (C := RX12) (T := TX12) (NF := 83) (by decide +kernel) rfl (by decide) inG_X12 (by decide) w_1265 li_X12_27) <|
  fa1 (s_iload (j := 4) (by decide +kernel)) <|
  fa1 (s_iadd (by decide +kernel)) <|
  fa1 (s_vcallI (n := 1) (ci := 12) (C := RX12) (T := TX12) (NF := 83) (idx := 211) (y := yX12_look) (by decide +kernel) (gg_X12_look) rfl (by decide) yv_X12_look (all5 w_1509 w_1511 w_44 w_113 w_1512) rfl rfl ⟨by decide, by decide⟩) <|
  fa1 (s_bipush (n := 97) (v := 97) (by decide +kernel) (by decide +kernel) (p32 rfl)) <|
  fa1 (s_isub (by decide +kernel)) <|
  fa1 (s_istore (j := 5) (by decide +kernel) (by decide)) <|
  fa1 (s_aload_n (kf := 0) (j := 0) (by decide +kernel) rfl) <|
  fa1 (s_iload (j := 5) (by decide +kernel)) <|
  fa1 (s_vcallI (n := 1) (ci := 12) (C := RX12) (T := TX12) (NF := 83) (idx := 177) (y := yX12_wordBy) (by decide +kernel) (gg_X12_wordBy) rfl (by decide) yv_X12_wordBy (all5 w_1530 w_1532 w_48 w_113 w_1533) rfl rfl ⟨by decide, by decide⟩) <|
  fa1 (s_istore (j := 6) (by decide +kernel) (by decide)) <|
  fa1 (s_aload_n (kf := 0) (j := 0) (by decide +kernel) rfl) <|
  fa1 (s_getR (t2 := 20) (g := (fun _ => 19)) (ci := 12) (f := 32) (idx := 64) (C := RX12) (T := TX12) (NF := 83) (by decide +kernel) rfl (by decide) inG_X12 (by decide) w_1270 lr_X12_32 (by decide)) <|
  fa1 (s_iload (j := 4) (by decide +kernel)) <|
  fa1 (s_iload (j := 5) (by decide +kernel)) <|
  fa1 (s_iast (by decide +kernel) lt_loR_20) <|
  fa1 (s_iload (j := 5) (by decide +kernel)) <|
  fa1 (s_bipush (n := 12) (v := 12) (by decide +kernel) (by decide +kernel) (p32 rfl)) <|
  fa1 (s_cmpeq (off := 39) (by decide +kernel) (by decide)) <|
  fa1 (s_iload (j := 5) (by decide +kernel)) <|
  fa1 (s_bipush (n := 14) (v := 14) (by decide +kernel) (by decide +kernel) (p32 rfl)) <|
  fa1 (s_cmpeq (off := 32) (by decide +kernel) (by decide)) <|
  fa1 (s_iload (j := 5) (by decide +kernel)) <|
  fa1 (s_bipush (n := 23) (v := 23) (by decide +kernel) (by decide +kernel) (p32 rfl)) <|
  fa1 (s_cmplt (off := 12) (by decide +kernel) (by decide)) <|
  fa1 (s_iload (j := 5) (by decide +kernel)) <|
  fa1 (s_bipush (n := 23) (v := 23) (by decide +kernel) (by decide +kernel) (p32 rfl)) <|
  fa1 (s_iload_n (kf := 1) (j := 1) (by decide +kernel) rfl) <|
  fa1 (s_iadd (by decide +kernel)) <|
  fa1 (s_cmplt (off := 16) (by decide +kernel) (by decide)) <|
  fa1 (s_iload (j := 6) (by decide +kernel)) <|
  fa1 (s_bipush (n := -4) (v := -4) (by decide +kernel) (by decide +kernel) (p32 rfl)) <|
  fa1 (s_cmpeq (off := 13) (by decide +kernel) (by decide)) <|
  fa1 (s_iload (j := 6) (by decide +kernel)) <|
  fa1 (s_iload_n (kf := 2) (j := 2) (by decide +kernel) rfl) <|
  fa1 (s_cmpge (off := 7) (by decide +kernel) (by decide)) <|
  fa1 (s_iconst (n := 1) (v := 1) (by decide +kernel) (by decide +kernel) (p32 rfl)) <|
  fa1 (s_goto (off := 4) (by decide +kernel) (by decide)) <|
  fa1 (s_iconst (n := 0) (v := 0) (by decide +kernel) (by decide +kernel) (p32 rfl)) <|
  fa1 (s_istore_n (kf := 3) (j := 3) (by decide +kernel) rfl (by decide)) <|
  fa1 (s_iinc (j := 4) (d := 1) (by decide +kernel) (by decide)) <|
  fa1 (s_goto (off := -98) (by decide +kernel) (by decide)) <|
  fa1 (s_aload_n (kf := 0) (j := 0) (by decide +kernel) rfl) <|
  fa1 (s_iload_n (kf := 3) (j := 3) (by decide +kernel) rfl) <|
  fa1 (s_ifeq (off := 27) (by decide +kernel) (by decide)) <|
  fa1 (s_aload_n (kf := 0) (j := 0) (by decide +kernel) rfl) <|
  fa1 (s_aload_n (kf := 0) (j := 0) (by decide +kernel) rfl) <|
  fa1 (s_getR (t2 := 20) (g := (fun _ => 19)) (ci := 12) (f := 32) (idx := 64) (C := RX12) (T := TX12) (NF := 83) (by decide +kernel) rfl (by decide) inG_X12 (by decide) w_1270 lr_X12_32 (by decide)) <|
  fa1 (s_iconst (n := 0) (v := 0) (by decide +kernel) (by decide +kernel) (p32 rfl)) <|
  fa1 (s_aload_n (kf := 0) (j := 0) (by decide +kernel) rfl) <|
  fa1 (s_getI (ci := 12) (f := 33) (idx := 235) (C := RX12) (T := TX12) (NF := 83) (by decide +kernel) rfl (by decide) inG_X12 (by decide) w_1271 li_X12_33) <|
  fa1 (s_vcallI (n := 3) (ci := 12) (C := RX12) (T := TX12) (NF := 83) (idx := 238) (y := yX12_endAt) (by decide +kernel) (gg_X12_endAt) rfl (by decide) yv_X12_endAt (all5 w_1539 w_1541 w_50 w_113 w_1542) rfl rfl ⟨by decide, by decide⟩) <|
  fa1 (s_aload_n (kf := 0) (j := 0) (by decide +kernel) rfl) <|
  fa1 (s_getI (ci := 12) (f := 33) (idx := 235) (C := RX12) (T := TX12) (NF := 83) (by decide +kernel) rfl (by decide) inG_X12 (by decide) w_1271 li_X12_33) <|
  fa1 (s_cmpne (off := 7) (by decide +kernel) (by decide)) <|
  fa1 (s_iconst (n := 1) (v := 1) (by decide +kernel) (by decide +kernel) (p32 rfl)) <|
  fa1 (s_goto (off := 4) (by decide +kernel) (by decide)) <|
  fa1 (s_iconst (n := 0) (v := 0) (by decide +kernel) (by decide +kernel) (p32 rfl)) <|
  fa1 (s_iconst (n := 5) (v := 5) (by decide +kernel) (by decide +kernel) (p32 rfl)) <|
  fa1 (s_vcallV (n := 2) (ci := 12) (C := RX12) (T := TX12) (NF := 83) (idx := 228) (y := yX12_wants) (by decide +kernel) (gg_X12_wants) rfl (by decide) yv_X12_wants (all5 w_1517 w_1519 w_45 w_113 w_1520) rfl rfl ⟨by decide, by decide⟩) <|
  fa1 (s_aload_n (kf := 0) (j := 0) (by decide +kernel) rfl) <|
  fa1 (s_vcallV (n := 0) (ci := 12) (C := RX12) (T := TX12) (NF := 83) (idx := 232) (y := yX12_next) (by decide +kernel) (gg_X12_next) rfl (by decide) yv_X12_next (all5 w_1505 w_1507 w_43 w_113 w_1508) rfl rfl ⟨by decide, by decide⟩) <|
  fa1 (s_vret (by decide +kernel) rfl) <| fa0
theorem gg_X12_readTerm {G : Wp} {l : Launch} : GoodM loR G l yX12_readTerm cX12_readTerm 7 none rm_X12_readTerm f_X12_readTerm := met_of kt_X12_readTerm (lkp_snd (ks_X12_readTerm G l)) (by decide +kernel) rfl (by decide)
noncomputable def k_X12_keepsMeaning : List (Nat × Ins) := [
  (0, i_aload 1 0),
  (1, i_getR 4 12 20 (fun _ => 3)),
  (4, i_iload 5 1),
  (5, i_aload 6 0),
  (6, i_getI 9 12 33),
  (9, i_ast 10 20 lnR id),
  (10, i_push 11 (.inl 0)),
  (11, i_istore 12 2),
  (12, i_iload 13 2),
  (13, i_aload 14 0),
  (14, i_getI 17 12 33),
  (17, i_cmpge 20 43),
  (20, i_aload 21 0),
  (21, i_getR 24 12 20 (fun _ => 4)),
  (24, i_push 26 (.inl 20)),
  (26, i_iload 27 1),
  (27, i_bin 28 (fun x y => wr (x * y))),
  (28, i_iload 29 2),
  (29, i_bin 30 (fun x y => wr (x + y))),
  (30, i_aload 31 0),
  (31, i_getR 34 12 20 (fun _ => 19)),
  (34, i_iload 35 2),
  (35, i_ald 36 20 lnR),
  (36, i_ast 37 20 lnR id),
  (37, i_iinc 40 2 (1)),
  (40, i_goto 12),
  (43, i_vret)]
noncomputable def kc_X12_keepsMeaning : Nat → Option Ins := lkp k_X12_keepsMeaning
noncomputable def f_X12_keepsMeaning : List AV → Mem → Option Rs := den 3 kc_X12_keepsMeaning
abbrev rm_X12_keepsMeaning : Room := { frames := 0, cells := 0, slots := 0, locals := 0 }
set_option maxRecDepth 100000 in
theorem kt_X12_keepsMeaning : TriC kc_X12_keepsMeaning := lkp_tri (fa1 (tri_aload 1 0) (fa1 (tri_getR 4 12 20 (fun _ => 3)) (fa1 (tri_iload 5 1) (fa1 (tri_aload 6 0) (fa1 (tri_getI 9 12 33) (fa1 (tri_ast 10 20 lnR id) (fa1 (tri_push 11 (.inl 0)) (fa1 (tri_istore 12 2) (fa1 (tri_iload 13 2) (fa1 (tri_aload 14 0) (fa1 (tri_getI 17 12 33) (fa1 (tri_cmpge 20 43) (fa1 (tri_aload 21 0) (fa1 (tri_getR 24 12 20 (fun _ => 4)) (fa1 (tri_push 26 (.inl 20)) (fa1 (tri_iload 27 1) (fa1 (tri_bin 28 (fun x y => wr (x * y))) (fa1 (tri_iload 29 2) (fa1 (tri_bin 30 (fun x y => wr (x + y))) (fa1 (tri_aload 31 0) (fa1 (tri_getR 34 12 20 (fun _ => 19)) (fa1 (tri_iload 35 2) (fa1 (tri_ald 36 20 lnR) (fa1 (tri_ast 37 20 lnR id) (fa1 (tri_iinc 40 2 (1)) (fa1 (tri_goto 12) (fa1 (tri_vret) (fa0))))))))))))))))))))))))))))
set_option maxRecDepth 100000 in
set_option maxHeartbeats 4000000 in
theorem ks_X12_keepsMeaning (G : Wp) (l : Launch) : ∀ e ∈ k_X12_keepsMeaning, Snd loR G l RX12 cX12_keepsMeaning 3 none rm_X12_keepsMeaning e.1 e.2 :=
  fa1 (s_aload_n (kf := 0) (j := 0) (by decide +kernel) rfl) <|
  fa1 (s_getR (t2 := 20) (g := (fun _ => 3)) (ci := 12) (f := 3) (idx := 16) (C := RX12) (T := TX12) (NF := 83) (by decide +kernel) rfl (by decide) inG_X12 (by decide) w_1241 lr_X12_3 (by decide)) <|
  fa1 (s_iload_n (kf := 1) (j := 1) (by decide +kernel) rfl) <|
  fa1 (s_aload_n (kf := 0) (j := 0) (by decide +kernel) rfl) <|
  fa1 (s_getI (ci := 12) (f := 33) (idx := 235) (C := RX12) (T := TX12) (NF := 83) (by decide +kernel) rfl (by decide) inG_X12 (by decide) w_1271 li_X12_33) <|
  fa1 (s_iast (by decide +kernel) lt_loR_20) <|
  fa1 (s_iconst (n := 0) (v := 0) (by decide +kernel) (by decide +kernel) (p32 rfl)) <|
  fa1 (s_istore_n (kf := 2) (j := 2) (by decide +kernel) rfl (by decide)) <|
  fa1 (s_iload_n (kf := 2) (j := 2) (by decide +kernel) rfl) <|
  fa1 (s_aload_n (kf := 0) (j := 0) (by decide +kernel) rfl) <|
  fa1 (s_getI (ci := 12) (f := 33) (idx := 235) (C := RX12) (T := TX12) (NF := 83) (by decide +kernel) rfl (by decide) inG_X12 (by decide) w_1271 li_X12_33) <|
  fa1 (s_cmpge (off := 26) (by decide +kernel) (by decide)) <|
  fa1 (s_aload_n (kf := 0) (j := 0) (by decide +kernel) rfl) <|
  fa1 (s_getR (t2 := 20) (g := (fun _ => 4)) (ci := 12) (f := 4) (idx := 19) (C := RX12) (T := TX12) (NF := 83) (by decide +kernel) rfl (by decide) inG_X12 (by decide) w_1242 lr_X12_4 (by decide)) <|
  fa1 (s_bipush (n := 20) (v := 20) (by decide +kernel) (by decide +kernel) (p32 rfl)) <|
  fa1 (s_iload_n (kf := 1) (j := 1) (by decide +kernel) rfl) <|
  fa1 (s_imul (by decide +kernel)) <|
  fa1 (s_iload_n (kf := 2) (j := 2) (by decide +kernel) rfl) <|
  fa1 (s_iadd (by decide +kernel)) <|
  fa1 (s_aload_n (kf := 0) (j := 0) (by decide +kernel) rfl) <|
  fa1 (s_getR (t2 := 20) (g := (fun _ => 19)) (ci := 12) (f := 32) (idx := 64) (C := RX12) (T := TX12) (NF := 83) (by decide +kernel) rfl (by decide) inG_X12 (by decide) w_1270 lr_X12_32 (by decide)) <|
  fa1 (s_iload_n (kf := 2) (j := 2) (by decide +kernel) rfl) <|
  fa1 (s_iald (by decide +kernel)) <|
  fa1 (s_iast (by decide +kernel) lt_loR_20) <|
  fa1 (s_iinc (j := 2) (d := 1) (by decide +kernel) (by decide)) <|
  fa1 (s_goto (off := -28) (by decide +kernel) (by decide)) <|
  fa1 (s_vret (by decide +kernel) rfl) <| fa0
theorem gg_X12_keepsMeaning {G : Wp} {l : Launch} : GoodM loR G l yX12_keepsMeaning cX12_keepsMeaning 3 none rm_X12_keepsMeaning f_X12_keepsMeaning := met_of kt_X12_keepsMeaning (lkp_snd (ks_X12_keepsMeaning G l)) (by decide +kernel) rfl (by decide)
noncomputable def k_X12_readWord : List (Nat × Ins) := [
  (0, i_aload 1 0),
  (1, i_callV 4 1 (rcv 12) f_X12_next),
  (4, i_aload 5 0),
  (5, i_getI 8 12 28),
  (8, i_push 9 (.inl 1)),
  (9, i_cmpne 12 50),
  (12, i_aload 13 0),
  (13, i_getI 16 12 26),
  (16, i_aload 17 0),
  (17, i_getI 20 12 27),
  (20, i_bin 21 (fun x y => wr (x - y))),
  (21, i_push 22 (.inl 1)),
  (22, i_cmpne 25 50),
  (25, i_aload 26 0),
  (26, i_aload 27 0),
  (27, i_getI 30 12 27),
  (30, i_callI 33 2 (rcv 12) f_X12_look),
  (33, i_i2l 34),
  (34, i_push 37 (.inr (.inl (97)))),
  (37, i_push 40 (.inr (.inl (100)))),
  (40, i_callI 43 3 anyv f_X12_in),
  (43, i_ifeq 46 50),
  (46, i_push 47 (.inl 1)),
  (47, i_goto 51),
  (50, i_push 51 (.inl 0)),
  (51, i_istore 52 1),
  (52, i_aload 53 0),
  (53, i_iload 54 1),
  (54, i_push 55 (.inl 2)),
  (55, i_callV 58 3 (rcv 12) f_X12_wants),
  (58, i_aload 59 0),
  (59, i_aload 60 0),
  (60, i_getI 63 12 27),
  (63, i_callI 66 2 (rcv 12) f_X12_look),
  (66, i_push 68 (.inl 97)),
  (68, i_bin 69 (fun x y => wr (x - y))),
  (69, i_istore 70 2),
  (70, i_aload 71 0),
  (71, i_getI 74 12 30),
  (74, i_ifne 77 97),
  (77, i_aload 78 0),
  (78, i_aload 79 0),
  (79, i_iload 80 2),
  (80, i_callI 83 2 (rcv 12) f_X12_wordBy),
  (83, i_push 85 (.inl (-4))),
  (85, i_cmpne 88 92),
  (88, i_push 89 (.inl 1)),
  (89, i_goto 93),
  (92, i_push 93 (.inl 0)),
  (93, i_push 94 (.inl 4)),
  (94, i_callV 97 3 (rcv 12) f_X12_wants),
  (97, i_aload 98 0),
  (98, i_callV 101 1 (rcv 12) f_X12_next),
  (101, i_aload 102 0),
  (102, i_getI 105 12 30),
  (105, i_ifne 108 126),
  (108, i_aload 109 0),
  (109, i_aload 110 0),
  (110, i_getI 113 12 28),
  (113, i_push 114 (.inl 2)),
  (114, i_cmpne 117 121),
  (117, i_push 118 (.inl 1)),
  (118, i_goto 122),
  (121, i_push 122 (.inl 0)),
  (122, i_push 123 (.inl 2)),
  (123, i_callV 126 3 (rcv 12) f_X12_wants),
  (126, i_aload 127 0),
  (127, i_getI 130 12 30),
  (130, i_ifne 133 150),
  (133, i_aload 134 0),
  (134, i_aload 135 0),
  (135, i_getI 138 12 29),
  (138, i_i2l 139),
  (139, i_push 140 (.inr (.inl 1))),
  (140, i_push 143 (.inr (.inl (2)))),
  (143, i_callI 146 3 anyv f_X12_in),
  (146, i_push 147 (.inl 3)),
  (147, i_callV 150 3 (rcv 12) f_X12_wants),
  (150, i_aload 151 0),
  (151, i_getI 154 12 29),
  (154, i_istore 155 3),
  (155, i_aload 156 0),
  (156, i_callV 159 1 (rcv 12) f_X12_next),
  (159, i_aload 160 0),
  (160, i_getI 163 12 30),
  (163, i_ifne 166 175),
  (166, i_aload 167 0),
  (167, i_iload 168 3),
  (168, i_aload 169 0),
  (169, i_getI 172 12 23),
  (172, i_callV 175 3 (rcv 12) f_X12_readTerm),
  (175, i_aload 176 0),
  (176, i_getI 179 12 30),
  (179, i_ifne 182 220),
  (182, i_aload 183 0),
  (183, i_getR 186 12 20 (fun _ => 1)),
  (186, i_aload 187 0),
  (187, i_getI 190 12 23),
  (190, i_iload 191 2),
  (191, i_ast 192 20 lnR id),
  (192, i_aload 193 0),
  (193, i_getR 196 12 20 (fun _ => 2)),
  (196, i_aload 197 0),
  (197, i_getI 200 12 23),
  (200, i_iload 201 3),
  (201, i_ast 202 20 lnR id),
  (202, i_aload 203 0),
  (203, i_aload 204 0),
  (204, i_getI 207 12 23),
  (207, i_callV 210 2 (rcv 12) f_X12_keepsMeaning),
  (210, i_aload 211 0),
  (211, i_dup 212),
  (212, i_getI 215 12 23),
  (215, i_push 216 (.inl 1)),
  (216, i_bin 217 (fun x y => wr (x + y))),
  (217, i_putI 220 12 23),
  (220, i_vret)]
noncomputable def kc_X12_readWord : Nat → Option Ins := lkp k_X12_readWord
noncomputable def f_X12_readWord : List AV → Mem → Option Rs := den 4 kc_X12_readWord
abbrev rm_X12_readWord : Room := { frames := 4, cells := 0, slots := 0, locals := 97 }
set_option maxRecDepth 100000 in
theorem kt_X12_readWord : TriC kc_X12_readWord := lkp_tri (fa1 (tri_aload 1 0) (fa1 (tri_callV 4 1 (rcv 12) f_X12_next) (fa1 (tri_aload 5 0) (fa1 (tri_getI 8 12 28) (fa1 (tri_push 9 (.inl 1)) (fa1 (tri_cmpne 12 50) (fa1 (tri_aload 13 0) (fa1 (tri_getI 16 12 26) (fa1 (tri_aload 17 0) (fa1 (tri_getI 20 12 27) (fa1 (tri_bin 21 (fun x y => wr (x - y))) (fa1 (tri_push 22 (.inl 1)) (fa1 (tri_cmpne 25 50) (fa1 (tri_aload 26 0) (fa1 (tri_aload 27 0) (fa1 (tri_getI 30 12 27) (fa1 (tri_callI 33 2 (rcv 12) f_X12_look) (fa1 (tri_i2l 34) (fa1 (tri_push 37 (.inr (.inl (97)))) (fa1 (tri_push 40 (.inr (.inl (100)))) (fa1 (tri_callI 43 3 anyv f_X12_in) (fa1 (tri_ifeq 46 50) (fa1 (tri_push 47 (.inl 1)) (fa1 (tri_goto 51) (fa1 (tri_push 51 (.inl 0)) (fa1 (tri_istore 52 1) (fa1 (tri_aload 53 0) (fa1 (tri_iload 54 1) (fa1 (tri_push 55 (.inl 2)) (fa1 (tri_callV 58 3 (rcv 12) f_X12_wants) (fa1 (tri_aload 59 0) (fa1 (tri_aload 60 0) (fa1 (tri_getI 63 12 27) (fa1 (tri_callI 66 2 (rcv 12) f_X12_look) (fa1 (tri_push 68 (.inl 97)) (fa1 (tri_bin 69 (fun x y => wr (x - y))) (fa1 (tri_istore 70 2) (fa1 (tri_aload 71 0) (fa1 (tri_getI 74 12 30) (fa1 (tri_ifne 77 97) (fa1 (tri_aload 78 0) (fa1 (tri_aload 79 0) (fa1 (tri_iload 80 2) (fa1 (tri_callI 83 2 (rcv 12) f_X12_wordBy) (fa1 (tri_push 85 (.inl (-4))) (fa1 (tri_cmpne 88 92) (fa1 (tri_push 89 (.inl 1)) (fa1 (tri_goto 93) (fa1 (tri_push 93 (.inl 0)) (fa1 (tri_push 94 (.inl 4)) (fa1 (tri_callV 97 3 (rcv 12) f_X12_wants) (fa1 (tri_aload 98 0) (fa1 (tri_callV 101 1 (rcv 12) f_X12_next) (fa1 (tri_aload 102 0) (fa1 (tri_getI 105 12 30) (fa1 (tri_ifne 108 126) (fa1 (tri_aload 109 0) (fa1 (tri_aload 110 0) (fa1 (tri_getI 113 12 28) (fa1 (tri_push 114 (.inl 2)) (fa1 (tri_cmpne 117 121) (fa1 (tri_push 118 (.inl 1)) (fa1 (tri_goto 122) (fa1 (tri_push 122 (.inl 0)) (fa1 (tri_push 123 (.inl 2)) (fa1 (tri_callV 126 3 (rcv 12) f_X12_wants) (fa1 (tri_aload 127 0) (fa1 (tri_getI 130 12 30) (fa1 (tri_ifne 133 150) (fa1 (tri_aload 134 0) (fa1 (tri_aload 135 0) (fa1 (tri_getI 138 12 29) (fa1 (tri_i2l 139) (fa1 (tri_push 140 (.inr (.inl 1))) (fa1 (tri_push 143 (.inr (.inl (2)))) (fa1 (tri_callI 146 3 anyv f_X12_in) (fa1 (tri_push 147 (.inl 3)) (fa1 (tri_callV 150 3 (rcv 12) f_X12_wants) (fa1 (tri_aload 151 0) (fa1 (tri_getI 154 12 29) (fa1 (tri_istore 155 3) (fa1 (tri_aload 156 0) (fa1 (tri_callV 159 1 (rcv 12) f_X12_next) (fa1 (tri_aload 160 0) (fa1 (tri_getI 163 12 30) (fa1 (tri_ifne 166 175) (fa1 (tri_aload 167 0) (fa1 (tri_iload 168 3) (fa1 (tri_aload 169 0) (fa1 (tri_getI 172 12 23) (fa1 (tri_callV 175 3 (rcv 12) f_X12_readTerm) (fa1 (tri_aload 176 0) (fa1 (tri_getI 179 12 30) (fa1 (tri_ifne 182 220) (fa1 (tri_aload 183 0) (fa1 (tri_getR 186 12 20 (fun _ => 1)) (fa1 (tri_aload 187 0) (fa1 (tri_getI 190 12 23) (fa1 (tri_iload 191 2) (fa1 (tri_ast 192 20 lnR id) (fa1 (tri_aload 193 0) (fa1 (tri_getR 196 12 20 (fun _ => 2)) (fa1 (tri_aload 197 0) (fa1 (tri_getI 200 12 23) (fa1 (tri_iload 201 3) (fa1 (tri_ast 202 20 lnR id) (fa1 (tri_aload 203 0) (fa1 (tri_aload 204 0) (fa1 (tri_getI 207 12 23) (fa1 (tri_callV 210 2 (rcv 12) f_X12_keepsMeaning) (fa1 (tri_aload 211 0) (fa1 (tri_dup 212) (fa1 (tri_getI 215 12 23) (fa1 (tri_push 216 (.inl 1)) (fa1 (tri_bin 217 (fun x y => wr (x + y))) (fa1 (tri_putI 220 12 23) (fa1 (tri_vret) (fa0))))))))))))))))))))))))))))))))))))))))))))))))))))))))))))))))))))))))))))))))))))))))))))))))))))))))))))))))))))))
set_option maxRecDepth 100000 in
set_option maxHeartbeats 4000000 in
theorem ks_X12_readWord (G : Wp) (l : Launch) : ∀ e ∈ k_X12_readWord, Snd loR G l RX12 cX12_readWord 4 none rm_X12_readWord e.1 e.2 :=
  fa1 (s_aload_n (kf := 0) (j := 0) (by decide +kernel) rfl) <|
  fa1 (s_vcallV (n := 0) (ci := 12) (C := RX12) (T := TX12) (NF := 83) (idx := 232) (y := yX12_next) (by decide +kernel) (gg_X12_next) rfl (by decide) yv_X12_next (all5 w_1505 w_1507 w_43 w_113 w_1508) rfl rfl ⟨by decide, by decide⟩) <|
  fa1 (s_aload_n (kf := 0) (j := 0) (by decide +kernel) rfl) <|
  fa1 (s_getI (ci := 12) (f := 28) (idx := 214) (C := RX12) (T := TX12) (NF := 83) (by decide +kernel) rfl (by decide) inG_X12 (by decide) w_1266 li_X12_28) <|
  fa1 (s_iconst (n := 1) (v := 1) (by decide +kernel) (by decide +kernel) (p32 rfl)) <|
  fa1 (s_cmpne (off := 41) (by decide +kernel) (by decide)) <|
  fa1 (s_aload_n (kf := 0) (j := 0) (by decide +kernel) rfl) <|
  fa1 (s_getI (ci := 12) (f := 26) (idx := 208) (C := RX12) (T := TX12) (NF := 83) (by decide +kernel) rfl (by decide) inG_X12 (by decide) w_1264 li_X12_26) <|
  fa1 (s_aload_n (kf := 0) (j := 0) (by decide +kernel) rfl) <|
  fa1 (s_getI (ci := 12) (f := 27) (idx := 202) (C := RX12) (T := TX12) (NF := 83) (by decide +kernel) rfl (by decide) inG_X12 (by decide) w_1265 li_X12_27) <|
  fa1 (s_isub (by decide +kernel)) <|
  fa1 (s_iconst (n := 1) (v := 1) (by decide +kernel) (by decide +kernel) (p32 rfl)) <|
  fa1 (s_cmpne (off := 28) (by decide +kernel) (by decide)) <|
  fa1 (s_aload_n (kf := 0) (j := 0) (by decide +kernel) rfl) <|
  fa1 (s_aload_n (kf := 0) (j := 0) (by decide +kernel) rfl) <|
  fa1 (s_getI (ci := 12) (f := 27) (idx := 202) (C := RX12) (T := TX12) (NF := 83) (by decide +kernel) rfl (by decide) inG_X12 (by decide) w_1265 li_X12_27) <|
  fa1 (s_vcallI (n := 1) (ci := 12) (C := RX12) (T := TX12) (NF := 83) (idx := 211) (y := yX12_look) (by decide +kernel) (gg_X12_look) rfl (by decide) yv_X12_look (all5 w_1509 w_1511 w_44 w_113 w_1512) rfl rfl ⟨by decide, by decide⟩) <|
  fa1 (s_i2l (by decide +kernel)) <|
  fa1 (s_ldc2 (idx := 217) (v := 97) (by decide +kernel) w_1513 (p64 rfl)) <|
  fa1 (s_ldc2 (idx := 242) (v := 100) (by decide +kernel) w_1529 (p64 rfl)) <|
  fa1 (s_scallI (n := 3) (idx := 187) (y := yX12_in) (by decide +kernel) (gg_X12_in) yv_X12_in (all4 w_1498 w_1499 w_113 w_1500) rfl rfl ⟨by decide, by decide⟩) <|
  fa1 (s_ifeq (off := 7) (by decide +kernel) (by decide)) <|
  fa1 (s_iconst (n := 1) (v := 1) (by decide +kernel) (by decide +kernel) (p32 rfl)) <|
  fa1 (s_goto (off := 4) (by decide +kernel) (by decide)) <|
  fa1 (s_iconst (n := 0) (v := 0) (by decide +kernel) (by decide +kernel) (p32 rfl)) <|
  fa1 (s_istore_n (kf := 1) (j := 1) (by decide +kernel) rfl (by decide)) <|
  fa1 (s_aload_n (kf := 0) (j := 0) (by decide +kernel) rfl) <|
  fa1 (s_iload_n (kf := 1) (j := 1) (by decide +kernel) rfl) <|
  fa1 (s_iconst (n := 2) (v := 2) (by decide +kernel) (by decide +kernel) (p32 rfl)) <|
  fa1 (s_vcallV (n := 2) (ci := 12) (C := RX12) (T := TX12) (NF := 83) (idx := 228) (y := yX12_wants) (by decide +kernel) (gg_X12_wants) rfl (by decide) yv_X12_wants (all5 w_1517 w_1519 w_45 w_113 w_1520) rfl rfl ⟨by decide, by decide⟩) <|
  fa1 (s_aload_n (kf := 0) (j := 0) (by decide +kernel) rfl) <|
  fa1 (s_aload_n (kf := 0) (j := 0) (by decide +kernel) rfl) <|
  fa1 (s_getI (ci := 12) (f := 27) (idx := 202) (C := RX12) (T := TX12) (NF := 83) (by decide +kernel) rfl (by decide) inG_X12 (by decide) w_1265 li_X12_27) <|
  fa1 (s_vcallI (n := 1) (ci := 12) (C := RX12) (T := TX12) (NF := 83) (idx := 211) (y := yX12_look) (by decide +kernel) (gg_X12_look) rfl (by decide) yv_X12_look (all5 w_1509 w_1511 w_44 w_113 w_1512) rfl rfl ⟨by decide, by decide⟩) <|
  fa1 (s_bipush (n := 97) (v := 97) (by decide +kernel) (by decide +kernel) (p32 rfl)) <|
  fa1 (s_isub (by decide +kernel)) <|
  fa1 (s_istore_n (kf := 2) (j := 2) (by decide +kernel) rfl (by decide)) <|
  fa1 (s_aload_n (kf := 0) (j := 0) (by decide +kernel) rfl) <|
  fa1 (s_getI (ci := 12) (f := 30) (idx := 199) (C := RX12) (T := TX12) (NF := 83) (by decide +kernel) rfl (by decide) inG_X12 (by decide) w_1268 li_X12_30) <|
  fa1 (s_ifne (off := 23) (by decide +kernel) (by decide)) <|
  fa1 (s_aload_n (kf := 0) (j := 0) (by decide +kernel) rfl) <|
  fa1 (s_aload_n (kf := 0) (j := 0) (by decide +kernel) rfl) <|
  fa1 (s_iload_n (kf := 2) (j := 2) (by decide +kernel) rfl) <|
  fa1 (s_vcallI (n := 1) (ci := 12) (C := RX12) (T := TX12) (NF := 83) (idx := 177) (y := yX12_wordBy) (by decide +kernel) (gg_X12_wordBy) rfl (by decide) yv_X12_wordBy (all5 w_1530 w_1532 w_48 w_113 w_1533) rfl rfl ⟨by decide, by decide⟩) <|
  fa1 (s_bipush (n := -4) (v := -4) (by decide +kernel) (by decide +kernel) (p32 rfl)) <|
  fa1 (s_cmpne (off := 7) (by decide +kernel) (by decide)) <|
  fa1 (s_iconst (n := 1) (v := 1) (by decide +kernel) (by decide +kernel) (p32 rfl)) <|
  fa1 (s_goto (off := 4) (by decide +kernel) (by decide)) <|
  fa1 (s_iconst (n := 0) (v := 0) (by decide +kernel) (by decide +kernel) (p32 rfl)) <|
  fa1 (s_iconst (n := 4) (v := 4) (by decide +kernel) (by decide +kernel) (p32 rfl)) <|
  fa1 (s_vcallV (n := 2) (ci := 12) (C := RX12) (T := TX12) (NF := 83) (idx := 228) (y := yX12_wants) (by decide +kernel) (gg_X12_wants) rfl (by decide) yv_X12_wants (all5 w_1517 w_1519 w_45 w_113 w_1520) rfl rfl ⟨by decide, by decide⟩) <|
  fa1 (s_aload_n (kf := 0) (j := 0) (by decide +kernel) rfl) <|
  fa1 (s_vcallV (n := 0) (ci := 12) (C := RX12) (T := TX12) (NF := 83) (idx := 232) (y := yX12_next) (by decide +kernel) (gg_X12_next) rfl (by decide) yv_X12_next (all5 w_1505 w_1507 w_43 w_113 w_1508) rfl rfl ⟨by decide, by decide⟩) <|
  fa1 (s_aload_n (kf := 0) (j := 0) (by decide +kernel) rfl) <|
  fa1 (s_getI (ci := 12) (f := 30) (idx := 199) (C := RX12) (T := TX12) (NF := 83) (by decide +kernel) rfl (by decide) inG_X12 (by decide) w_1268 li_X12_30) <|
  fa1 (s_ifne (off := 21) (by decide +kernel) (by decide)) <|
  fa1 (s_aload_n (kf := 0) (j := 0) (by decide +kernel) rfl) <|
  fa1 (s_aload_n (kf := 0) (j := 0) (by decide +kernel) rfl) <|
  fa1 (s_getI (ci := 12) (f := 28) (idx := 214) (C := RX12) (T := TX12) (NF := 83) (by decide +kernel) rfl (by decide) inG_X12 (by decide) w_1266 li_X12_28) <|
  fa1 (s_iconst (n := 2) (v := 2) (by decide +kernel) (by decide +kernel) (p32 rfl)) <|
  fa1 (s_cmpne (off := 7) (by decide +kernel) (by decide)) <|
  fa1 (s_iconst (n := 1) (v := 1) (by decide +kernel) (by decide +kernel) (p32 rfl)) <|
  fa1 (s_goto (off := 4) (by decide +kernel) (by decide)) <|
  fa1 (s_iconst (n := 0) (v := 0) (by decide +kernel) (by decide +kernel) (p32 rfl)) <|
  fa1 (s_iconst (n := 2) (v := 2) (by decide +kernel) (by decide +kernel) (p32 rfl)) <|
  fa1 (s_vcallV (n := 2) (ci := 12) (C := RX12) (T := TX12) (NF := 83) (idx := 228) (y := yX12_wants) (by decide +kernel) (gg_X12_wants) rfl (by decide) yv_X12_wants (all5 w_1517 w_1519 w_45 w_113 w_1520) rfl rfl ⟨by decide, by decide⟩) <|
  fa1 (s_aload_n (kf := 0) (j := 0) (by decide +kernel) rfl) <|
  fa1 (s_getI (ci := 12) (f := 30) (idx := 199) (C := RX12) (T := TX12) (NF := 83) (by decide +kernel) rfl (by decide) inG_X12 (by decide) w_1268 li_X12_30) <|
  fa1 (s_ifne (off := 20) (by decide +kernel) (by decide)) <|
  fa1 (s_aload_n (kf := 0) (j := 0) (by decide +kernel) rfl) <|
  fa1 (s_aload_n (kf := 0) (j := 0) (by decide +kernel) rfl) <|
  fa1 (s_getI (ci := 12) (f := 29) (idx := 225) (C := RX12) (T := TX12) (NF := 83) (by decide +kernel) rfl (by decide) inG_X12 (by decide) w_1267 li_X12_29) <|
  fa1 (s_i2l (by decide +kernel)) <|
  fa1 (s_lconst (n := 1) (v := 1) (by decide +kernel) (by decide +kernel) (p64 rfl)) <|
  fa1 (s_ldc2 (idx := 244) (v := 2) (by decide +kernel) w_1534 (p64 rfl)) <|
  fa1 (s_scallI (n := 3) (idx := 187) (y := yX12_in) (by decide +kernel) (gg_X12_in) yv_X12_in (all4 w_1498 w_1499 w_113 w_1500) rfl rfl ⟨by decide, by decide⟩) <|
  fa1 (s_iconst (n := 3) (v := 3) (by decide +kernel) (by decide +kernel) (p32 rfl)) <|
  fa1 (s_vcallV (n := 2) (ci := 12) (C := RX12) (T := TX12) (NF := 83) (idx := 228) (y := yX12_wants) (by decide +kernel) (gg_X12_wants) rfl (by decide) yv_X12_wants (all5 w_1517 w_1519 w_45 w_113 w_1520) rfl rfl ⟨by decide, by decide⟩) <|
  fa1 (s_aload_n (kf := 0) (j := 0) (by decide +kernel) rfl) <|
  fa1 (s_getI (ci := 12) (f := 29) (idx := 225) (C := RX12) (T := TX12) (NF := 83) (by decide +kernel) rfl (by decide) inG_X12 (by decide) w_1267 li_X12_29) <|
  fa1 (s_istore_n (kf := 3) (j := 3) (by decide +kernel) rfl (by decide)) <|
  fa1 (s_aload_n (kf := 0) (j := 0) (by decide +kernel) rfl) <|
  fa1 (s_vcallV (n := 0) (ci := 12) (C := RX12) (T := TX12) (NF := 83) (idx := 232) (y := yX12_next) (by decide +kernel) (gg_X12_next) rfl (by decide) yv_X12_next (all5 w_1505 w_1507 w_43 w_113 w_1508) rfl rfl ⟨by decide, by decide⟩) <|
  fa1 (s_aload_n (kf := 0) (j := 0) (by decide +kernel) rfl) <|
  fa1 (s_getI (ci := 12) (f := 30) (idx := 199) (C := RX12) (T := TX12) (NF := 83) (by decide +kernel) rfl (by decide) inG_X12 (by decide) w_1268 li_X12_30) <|
  fa1 (s_ifne (off := 12) (by decide +kernel) (by decide)) <|
  fa1 (s_aload_n (kf := 0) (j := 0) (by decide +kernel) rfl) <|
  fa1 (s_iload_n (kf := 3) (j := 3) (by decide +kernel) rfl) <|
  fa1 (s_aload_n (kf := 0) (j := 0) (by decide +kernel) rfl) <|
  fa1 (s_getI (ci := 12) (f := 23) (idx := 174) (C := RX12) (T := TX12) (NF := 83) (by decide +kernel) rfl (by decide) inG_X12 (by decide) w_1261 li_X12_23) <|
  fa1 (s_vcallV (n := 2) (ci := 12) (C := RX12) (T := TX12) (NF := 83) (idx := 246) (y := yX12_readTerm) (by decide +kernel) (gg_X12_readTerm) rfl (by decide) yv_X12_readTerm (all5 w_1535 w_1537 w_49 w_113 w_1538) rfl rfl ⟨by decide, by decide⟩) <|
  fa1 (s_aload_n (kf := 0) (j := 0) (by decide +kernel) rfl) <|
  fa1 (s_getI (ci := 12) (f := 30) (idx := 199) (C := RX12) (T := TX12) (NF := 83) (by decide +kernel) rfl (by decide) inG_X12 (by decide) w_1268 li_X12_30) <|
  fa1 (s_ifne (off := 41) (by decide +kernel) (by decide)) <|
  fa1 (s_aload_n (kf := 0) (j := 0) (by decide +kernel) rfl) <|
  fa1 (s_getR (t2 := 20) (g := (fun _ => 1)) (ci := 12) (f := 1) (idx := 7) (C := RX12) (T := TX12) (NF := 83) (by decide +kernel) rfl (by decide) inG_X12 (by decide) w_1239 lr_X12_1 (by decide)) <|
  fa1 (s_aload_n (kf := 0) (j := 0) (by decide +kernel) rfl) <|
  fa1 (s_getI (ci := 12) (f := 23) (idx := 174) (C := RX12) (T := TX12) (NF := 83) (by decide +kernel) rfl (by decide) inG_X12 (by decide) w_1261 li_X12_23) <|
  fa1 (s_iload_n (kf := 2) (j := 2) (by decide +kernel) rfl) <|
  fa1 (s_iast (by decide +kernel) lt_loR_20) <|
  fa1 (s_aload_n (kf := 0) (j := 0) (by decide +kernel) rfl) <|
  fa1 (s_getR (t2 := 20) (g := (fun _ => 2)) (ci := 12) (f := 2) (idx := 13) (C := RX12) (T := TX12) (NF := 83) (by decide +kernel) rfl (by decide) inG_X12 (by decide) w_1240 lr_X12_2 (by decide)) <|
  fa1 (s_aload_n (kf := 0) (j := 0) (by decide +kernel) rfl) <|
  fa1 (s_getI (ci := 12) (f := 23) (idx := 174) (C := RX12) (T := TX12) (NF := 83) (by decide +kernel) rfl (by decide) inG_X12 (by decide) w_1261 li_X12_23) <|
  fa1 (s_iload_n (kf := 3) (j := 3) (by decide +kernel) rfl) <|
  fa1 (s_iast (by decide +kernel) lt_loR_20) <|
  fa1 (s_aload_n (kf := 0) (j := 0) (by decide +kernel) rfl) <|
  fa1 (s_aload_n (kf := 0) (j := 0) (by decide +kernel) rfl) <|
  fa1 (s_getI (ci := 12) (f := 23) (idx := 174) (C := RX12) (T := TX12) (NF := 83) (by decide +kernel) rfl (by decide) inG_X12 (by decide) w_1261 li_X12_23) <|
  fa1 (s_vcallV (n := 1) (ci := 12) (C := RX12) (T := TX12) (NF := 83) (idx := 250) (y := yX12_keepsMeaning) (by decide +kernel) (gg_X12_keepsMeaning) rfl (by decide) yv_X12_keepsMeaning (all5 w_1547 w_1549 w_52 w_113 w_1550) rfl rfl ⟨by decide, by decide⟩) <|
  fa1 (s_aload_n (kf := 0) (j := 0) (by decide +kernel) rfl) <|
  fa1 (s_dup (by decide +kernel)) <|
  fa1 (s_getI (ci := 12) (f := 23) (idx := 174) (C := RX12) (T := TX12) (NF := 83) (by decide +kernel) rfl (by decide) inG_X12 (by decide) w_1261 li_X12_23) <|
  fa1 (s_iconst (n := 1) (v := 1) (by decide +kernel) (by decide +kernel) (p32 rfl)) <|
  fa1 (s_iadd (by decide +kernel)) <|
  fa1 (s_putI (ci := 12) (f := 23) (idx := 174) (C := RX12) (T := TX12) (NF := 83) (by decide +kernel) rfl (by decide) inG_X12 (by decide) w_1261 tyX12 tyX12_ok nmX12 rfl (by decide +kernel) li_X12_23) <|
  fa1 (s_vret (by decide +kernel) rfl) <| fa0
theorem gg_X12_readWord {G : Wp} {l : Launch} : GoodM loR G l yX12_readWord cX12_readWord 4 none rm_X12_readWord f_X12_readWord := met_of kt_X12_readWord (lkp_snd (ks_X12_readWord G l)) (by decide +kernel) rfl (by decide)
noncomputable def k_X12_keepsSide : List (Nat × Ins) := [
  (0, i_aload 1 0),
  (1, i_getR 4 12 20 (fun _ => 6)),
  (4, i_push 5 (.inl 2)),
  (5, i_iload 6 1),
  (6, i_bin 7 (fun x y => wr (x * y))),
  (7, i_iload 8 2),
  (8, i_bin 9 (fun x y => wr (x + y))),
  (9, i_aload 10 0),
  (10, i_getI 13 12 33),
  (13, i_ast 14 20 lnR id),
  (14, i_push 15 (.inl 0)),
  (15, i_istore 16 3),
  (16, i_iload 17 3),
  (17, i_aload 18 0),
  (18, i_getI 21 12 33),
  (21, i_cmpge 24 52),
  (24, i_aload 25 0),
  (25, i_getR 28 12 20 (fun _ => 5)),
  (28, i_push 30 (.inl 40)),
  (30, i_iload 31 1),
  (31, i_bin 32 (fun x y => wr (x * y))),
  (32, i_push 34 (.inl 20)),
  (34, i_iload 35 2),
  (35, i_bin 36 (fun x y => wr (x * y))),
  (36, i_bin 37 (fun x y => wr (x + y))),
  (37, i_iload 38 3),
  (38, i_bin 39 (fun x y => wr (x + y))),
  (39, i_aload 40 0),
  (40, i_getR 43 12 20 (fun _ => 19)),
  (43, i_iload 44 3),
  (44, i_ald 45 20 lnR),
  (45, i_ast 46 20 lnR id),
  (46, i_iinc 49 3 (1)),
  (49, i_goto 16),
  (52, i_vret)]
noncomputable def kc_X12_keepsSide : Nat → Option Ins := lkp k_X12_keepsSide
noncomputable def f_X12_keepsSide : List AV → Mem → Option Rs := den 4 kc_X12_keepsSide
abbrev rm_X12_keepsSide : Room := { frames := 0, cells := 0, slots := 0, locals := 0 }
set_option maxRecDepth 100000 in
theorem kt_X12_keepsSide : TriC kc_X12_keepsSide := lkp_tri (fa1 (tri_aload 1 0) (fa1 (tri_getR 4 12 20 (fun _ => 6)) (fa1 (tri_push 5 (.inl 2)) (fa1 (tri_iload 6 1) (fa1 (tri_bin 7 (fun x y => wr (x * y))) (fa1 (tri_iload 8 2) (fa1 (tri_bin 9 (fun x y => wr (x + y))) (fa1 (tri_aload 10 0) (fa1 (tri_getI 13 12 33) (fa1 (tri_ast 14 20 lnR id) (fa1 (tri_push 15 (.inl 0)) (fa1 (tri_istore 16 3) (fa1 (tri_iload 17 3) (fa1 (tri_aload 18 0) (fa1 (tri_getI 21 12 33) (fa1 (tri_cmpge 24 52) (fa1 (tri_aload 25 0) (fa1 (tri_getR 28 12 20 (fun _ => 5)) (fa1 (tri_push 30 (.inl 40)) (fa1 (tri_iload 31 1) (fa1 (tri_bin 32 (fun x y => wr (x * y))) (fa1 (tri_push 34 (.inl 20)) (fa1 (tri_iload 35 2) (fa1 (tri_bin 36 (fun x y => wr (x * y))) (fa1 (tri_bin 37 (fun x y => wr (x + y))) (fa1 (tri_iload 38 3) (fa1 (tri_bin 39 (fun x y => wr (x + y))) (fa1 (tri_aload 40 0) (fa1 (tri_getR 43 12 20 (fun _ => 19)) (fa1 (tri_iload 44 3) (fa1 (tri_ald 45 20 lnR) (fa1 (tri_ast 46 20 lnR id) (fa1 (tri_iinc 49 3 (1)) (fa1 (tri_goto 16) (fa1 (tri_vret) (fa0))))))))))))))))))))))))))))))))))))
set_option maxRecDepth 100000 in
set_option maxHeartbeats 4000000 in
theorem ks_X12_keepsSide (G : Wp) (l : Launch) : ∀ e ∈ k_X12_keepsSide, Snd loR G l RX12 cX12_keepsSide 4 none rm_X12_keepsSide e.1 e.2 :=
  fa1 (s_aload_n (kf := 0) (j := 0) (by decide +kernel) rfl) <|
  fa1 (s_getR (t2 := 20) (g := (fun _ => 6)) (ci := 12) (f := 7) (idx := 25) (C := RX12) (T := TX12) (NF := 83) (by decide +kernel) rfl (by decide) inG_X12 (by decide) w_1245 lr_X12_7 (by decide)) <|
  fa1 (s_iconst (n := 2) (v := 2) (by decide +kernel) (by decide +kernel) (p32 rfl)) <|
  fa1 (s_iload_n (kf := 1) (j := 1) (by decide +kernel) rfl) <|
  fa1 (s_imul (by decide +kernel)) <|
  fa1 (s_iload_n (kf := 2) (j := 2) (by decide +kernel) rfl) <|
  fa1 (s_iadd (by decide +kernel)) <|
  fa1 (s_aload_n (kf := 0) (j := 0) (by decide +kernel) rfl) <|
  fa1 (s_getI (ci := 12) (f := 33) (idx := 235) (C := RX12) (T := TX12) (NF := 83) (by decide +kernel) rfl (by decide) inG_X12 (by decide) w_1271 li_X12_33) <|
  fa1 (s_iast (by decide +kernel) lt_loR_20) <|
  fa1 (s_iconst (n := 0) (v := 0) (by decide +kernel) (by decide +kernel) (p32 rfl)) <|
  fa1 (s_istore_n (kf := 3) (j := 3) (by decide +kernel) rfl (by decide)) <|
  fa1 (s_iload_n (kf := 3) (j := 3) (by decide +kernel) rfl) <|
  fa1 (s_aload_n (kf := 0) (j := 0) (by decide +kernel) rfl) <|
  fa1 (s_getI (ci := 12) (f := 33) (idx := 235) (C := RX12) (T := TX12) (NF := 83) (by decide +kernel) rfl (by decide) inG_X12 (by decide) w_1271 li_X12_33) <|
  fa1 (s_cmpge (off := 31) (by decide +kernel) (by decide)) <|
  fa1 (s_aload_n (kf := 0) (j := 0) (by decide +kernel) rfl) <|
  fa1 (s_getR (t2 := 20) (g := (fun _ => 5)) (ci := 12) (f := 6) (idx := 22) (C := RX12) (T := TX12) (NF := 83) (by decide +kernel) rfl (by decide) inG_X12 (by decide) w_1244 lr_X12_6 (by decide)) <|
  fa1 (s_bipush (n := 40) (v := 40) (by decide +kernel) (by decide +kernel) (p32 rfl)) <|
  fa1 (s_iload_n (kf := 1) (j := 1) (by decide +kernel) rfl) <|
  fa1 (s_imul (by decide +kernel)) <|
  fa1 (s_bipush (n := 20) (v := 20) (by decide +kernel) (by decide +kernel) (p32 rfl)) <|
  fa1 (s_iload_n (kf := 2) (j := 2) (by decide +kernel) rfl) <|
  fa1 (s_imul (by decide +kernel)) <|
  fa1 (s_iadd (by decide +kernel)) <|
  fa1 (s_iload_n (kf := 3) (j := 3) (by decide +kernel) rfl) <|
  fa1 (s_iadd (by decide +kernel)) <|
  fa1 (s_aload_n (kf := 0) (j := 0) (by decide +kernel) rfl) <|
  fa1 (s_getR (t2 := 20) (g := (fun _ => 19)) (ci := 12) (f := 32) (idx := 64) (C := RX12) (T := TX12) (NF := 83) (by decide +kernel) rfl (by decide) inG_X12 (by decide) w_1270 lr_X12_32 (by decide)) <|
  fa1 (s_iload_n (kf := 3) (j := 3) (by decide +kernel) rfl) <|
  fa1 (s_iald (by decide +kernel)) <|
  fa1 (s_iast (by decide +kernel) lt_loR_20) <|
  fa1 (s_iinc (j := 3) (d := 1) (by decide +kernel) (by decide)) <|
  fa1 (s_goto (off := -33) (by decide +kernel) (by decide)) <|
  fa1 (s_vret (by decide +kernel) rfl) <| fa0
theorem gg_X12_keepsSide {G : Wp} {l : Launch} : GoodM loR G l yX12_keepsSide cX12_keepsSide 4 none rm_X12_keepsSide f_X12_keepsSide := met_of kt_X12_keepsSide (lkp_snd (ks_X12_keepsSide G l)) (by decide +kernel) rfl (by decide)
noncomputable def k_X12_readSaying : List (Nat × Ins) := [
  (0, i_aload 1 0),
  (1, i_aload 2 0),
  (2, i_getI 5 12 34),
  (5, i_push 7 (.inl 24)),
  (7, i_cmpge 10 14),
  (10, i_push 11 (.inl 1)),
  (11, i_goto 15),
  (14, i_push 15 (.inl 0)),
  (15, i_push 17 (.inl 6)),
  (17, i_callV 20 3 (rcv 12) f_X12_wants),
  (20, i_aload 21 0),
  (21, i_callV 24 1 (rcv 12) f_X12_next),
  (24, i_aload 25 0),
  (25, i_getI 28 12 30),
  (28, i_ifne 31 37),
  (31, i_aload 32 0),
  (32, i_push 33 (.inl 3)),
  (33, i_push 34 (.inl 4)),
  (34, i_callV 37 3 (rcv 12) f_X12_readTerm),
  (37, i_aload 38 0),
  (38, i_getI 41 12 30),
  (41, i_ifne 44 53),
  (44, i_aload 45 0),
  (45, i_aload 46 0),
  (46, i_getI 49 12 34),
  (49, i_push 50 (.inl 0)),
  (50, i_callV 53 3 (rcv 12) f_X12_keepsSide),
  (53, i_aload 54 0),
  (54, i_push 56 (.inl 61)),
  (56, i_callV 59 2 (rcv 12) f_X12_readSign),
  (59, i_aload 60 0),
  (60, i_getI 63 12 30),
  (63, i_ifne 66 72),
  (66, i_aload 67 0),
  (67, i_push 68 (.inl 3)),
  (68, i_push 69 (.inl 4)),
  (69, i_callV 72 3 (rcv 12) f_X12_readTerm),
  (72, i_aload 73 0),
  (73, i_getI 76 12 30),
  (76, i_ifne 79 108),
  (79, i_aload 80 0),
  (80, i_aload 81 0),
  (81, i_getI 84 12 34),
  (84, i_push 85 (.inl 1)),
  (85, i_callV 88 3 (rcv 12) f_X12_keepsSide),
  (88, i_aload 89 0),
  (89, i_getR 92 12 20 (fun _ => 7)),
  (92, i_aload 93 0),
  (93, i_getI 96 12 34),
  (96, i_iload 97 1),
  (97, i_ast 98 20 lnR id),
  (98, i_aload 99 0),
  (99, i_dup 100),
  (100, i_getI 103 12 34),
  (103, i_push 104 (.inl 1)),
  (104, i_bin 105 (fun x y => wr (x + y))),
  (105, i_putI 108 12 34),
  (108, i_vret)]
noncomputable def kc_X12_readSaying : Nat → Option Ins := lkp k_X12_readSaying
noncomputable def f_X12_readSaying : List AV → Mem → Option Rs := den 2 kc_X12_readSaying
abbrev rm_X12_readSaying : Room := { frames := 4, cells := 0, slots := 0, locals := 97 }
set_option maxRecDepth 100000 in
theorem kt_X12_readSaying : TriC kc_X12_readSaying := lkp_tri (fa1 (tri_aload 1 0) (fa1 (tri_aload 2 0) (fa1 (tri_getI 5 12 34) (fa1 (tri_push 7 (.inl 24)) (fa1 (tri_cmpge 10 14) (fa1 (tri_push 11 (.inl 1)) (fa1 (tri_goto 15) (fa1 (tri_push 15 (.inl 0)) (fa1 (tri_push 17 (.inl 6)) (fa1 (tri_callV 20 3 (rcv 12) f_X12_wants) (fa1 (tri_aload 21 0) (fa1 (tri_callV 24 1 (rcv 12) f_X12_next) (fa1 (tri_aload 25 0) (fa1 (tri_getI 28 12 30) (fa1 (tri_ifne 31 37) (fa1 (tri_aload 32 0) (fa1 (tri_push 33 (.inl 3)) (fa1 (tri_push 34 (.inl 4)) (fa1 (tri_callV 37 3 (rcv 12) f_X12_readTerm) (fa1 (tri_aload 38 0) (fa1 (tri_getI 41 12 30) (fa1 (tri_ifne 44 53) (fa1 (tri_aload 45 0) (fa1 (tri_aload 46 0) (fa1 (tri_getI 49 12 34) (fa1 (tri_push 50 (.inl 0)) (fa1 (tri_callV 53 3 (rcv 12) f_X12_keepsSide) (fa1 (tri_aload 54 0) (fa1 (tri_push 56 (.inl 61)) (fa1 (tri_callV 59 2 (rcv 12) f_X12_readSign) (fa1 (tri_aload 60 0) (fa1 (tri_getI 63 12 30) (fa1 (tri_ifne 66 72) (fa1 (tri_aload 67 0) (fa1 (tri_push 68 (.inl 3)) (fa1 (tri_push 69 (.inl 4)) (fa1 (tri_callV 72 3 (rcv 12) f_X12_readTerm) (fa1 (tri_aload 73 0) (fa1 (tri_getI 76 12 30) (fa1 (tri_ifne 79 108) (fa1 (tri_aload 80 0) (fa1 (tri_aload 81 0) (fa1 (tri_getI 84 12 34) (fa1 (tri_push 85 (.inl 1)) (fa1 (tri_callV 88 3 (rcv 12) f_X12_keepsSide) (fa1 (tri_aload 89 0) (fa1 (tri_getR 92 12 20 (fun _ => 7)) (fa1 (tri_aload 93 0) (fa1 (tri_getI 96 12 34) (fa1 (tri_iload 97 1) (fa1 (tri_ast 98 20 lnR id) (fa1 (tri_aload 99 0) (fa1 (tri_dup 100) (fa1 (tri_getI 103 12 34) (fa1 (tri_push 104 (.inl 1)) (fa1 (tri_bin 105 (fun x y => wr (x + y))) (fa1 (tri_putI 108 12 34) (fa1 (tri_vret) (fa0)))))))))))))))))))))))))))))))))))))))))))))))))))))))))))
set_option maxRecDepth 100000 in
set_option maxHeartbeats 4000000 in
theorem ks_X12_readSaying (G : Wp) (l : Launch) : ∀ e ∈ k_X12_readSaying, Snd loR G l RX12 cX12_readSaying 2 none rm_X12_readSaying e.1 e.2 :=
  fa1 (s_aload_n (kf := 0) (j := 0) (by decide +kernel) rfl) <|
  fa1 (s_aload_n (kf := 0) (j := 0) (by decide +kernel) rfl) <|
  fa1 (s_getI (ci := 12) (f := 34) (idx := 254) (C := RX12) (T := TX12) (NF := 83) (by decide +kernel) rfl (by decide) inG_X12 (by decide) w_1272 li_X12_34) <|
  fa1 (s_bipush (n := 24) (v := 24) (by decide +kernel) (by decide +kernel) (p32 rfl)) <|
  fa1 (s_cmpge (off := 7) (by decide +kernel) (by decide)) <|
  fa1 (s_iconst (n := 1) (v := 1) (by decide +kernel) (by decide +kernel) (p32 rfl)) <|
  fa1 (s_goto (off := 4) (by decide +kernel) (by decide)) <|
  fa1 (s_iconst (n := 0) (v := 0) (by decide +kernel) (by decide +kernel) (p32 rfl)) <|
  fa1 (s_bipush (n := 6) (v := 6) (by decide +kernel) (by decide +kernel) (p32 rfl)) <|
  fa1 (s_vcallV (n := 2) (ci := 12) (C := RX12) (T := TX12) (NF := 83) (idx := 228) (y := yX12_wants) (by decide +kernel) (gg_X12_wants) rfl (by decide) yv_X12_wants (all5 w_1517 w_1519 w_45 w_113 w_1520) rfl rfl ⟨by decide, by decide⟩) <|
  fa1 (s_aload_n (kf := 0) (j := 0) (by decide +kernel) rfl) <|
  fa1 (s_vcallV (n := 0) (ci := 12) (C := RX12) (T := TX12) (NF := 83) (idx := 232) (y := yX12_next) (by decide +kernel) (gg_X12_next) rfl (by decide) yv_X12_next (all5 w_1505 w_1507 w_43 w_113 w_1508) rfl rfl ⟨by decide, by decide⟩) <|
  fa1 (s_aload_n (kf := 0) (j := 0) (by decide +kernel) rfl) <|
  fa1 (s_getI (ci := 12) (f := 30) (idx := 199) (C := RX12) (T := TX12) (NF := 83) (by decide +kernel) rfl (by decide) inG_X12 (by decide) w_1268 li_X12_30) <|
  fa1 (s_ifne (off := 9) (by decide +kernel) (by decide)) <|
  fa1 (s_aload_n (kf := 0) (j := 0) (by decide +kernel) rfl) <|
  fa1 (s_iconst (n := 3) (v := 3) (by decide +kernel) (by decide +kernel) (p32 rfl)) <|
  fa1 (s_iconst (n := 4) (v := 4) (by decide +kernel) (by decide +kernel) (p32 rfl)) <|
  fa1 (s_vcallV (n := 2) (ci := 12) (C := RX12) (T := TX12) (NF := 83) (idx := 246) (y := yX12_readTerm) (by decide +kernel) (gg_X12_readTerm) rfl (by decide) yv_X12_readTerm (all5 w_1535 w_1537 w_49 w_113 w_1538) rfl rfl ⟨by decide, by decide⟩) <|
  fa1 (s_aload_n (kf := 0) (j := 0) (by decide +kernel) rfl) <|
  fa1 (s_getI (ci := 12) (f := 30) (idx := 199) (C := RX12) (T := TX12) (NF := 83) (by decide +kernel) rfl (by decide) inG_X12 (by decide) w_1268 li_X12_30) <|
  fa1 (s_ifne (off := 12) (by decide +kernel) (by decide)) <|
  fa1 (s_aload_n (kf := 0) (j := 0) (by decide +kernel) rfl) <|
  fa1 (s_aload_n (kf := 0) (j := 0) (by decide +kernel) rfl) <|
  fa1 (s_getI (ci := 12) (f := 34) (idx := 254) (C := RX12) (T := TX12) (NF := 83) (by decide +kernel) rfl (by decide) inG_X12 (by decide) w_1272 li_X12_34) <|
  fa1 (s_iconst (n := 0) (v := 0) (by decide +kernel) (by decide +kernel) (p32 rfl)) <|
  fa1 (s_vcallV (n := 2) (ci := 12) (C := RX12) (T := TX12) (NF := 83) (idx := 257) (y := yX12_keepsSide) (by decide +kernel) (gg_X12_keepsSide) rfl (by decide) yv_X12_keepsSide (all5 w_1555 w_1557 w_54 w_113 w_1558) rfl rfl ⟨by decide, by decide⟩) <|
  fa1 (s_aload_n (kf := 0) (j := 0) (by decide +kernel) rfl) <|
  fa1 (s_bipush (n := 61) (v := 61) (by decide +kernel) (by decide +kernel) (p32 rfl)) <|
  fa1 (s_vcallV (n := 1) (ci := 12) (C := RX12) (T := TX12) (NF := 83) (idx := 260) (y := yX12_readSign) (by decide +kernel) (gg_X12_readSign) rfl (by decide) yv_X12_readSign (all5 w_1559 w_1561 w_55 w_113 w_1562) rfl rfl ⟨by decide, by decide⟩) <|
  fa1 (s_aload_n (kf := 0) (j := 0) (by decide +kernel) rfl) <|
  fa1 (s_getI (ci := 12) (f := 30) (idx := 199) (C := RX12) (T := TX12) (NF := 83) (by decide +kernel) rfl (by decide) inG_X12 (by decide) w_1268 li_X12_30) <|
  fa1 (s_ifne (off := 9) (by decide +kernel) (by decide)) <|
  fa1 (s_aload_n (kf := 0) (j := 0) (by decide +kernel) rfl) <|
  fa1 (s_iconst (n := 3) (v := 3) (by decide +kernel) (by decide +kernel) (p32 rfl)) <|
  fa1 (s_iconst (n := 4) (v := 4) (by decide +kernel) (by decide +kernel) (p32 rfl)) <|
  fa1 (s_vcallV (n := 2) (ci := 12) (C := RX12) (T := TX12) (NF := 83) (idx := 246) (y := yX12_readTerm) (by decide +kernel) (gg_X12_readTerm) rfl (by decide) yv_X12_readTerm (all5 w_1535 w_1537 w_49 w_113 w_1538) rfl rfl ⟨by decide, by decide⟩) <|
  fa1 (s_aload_n (kf := 0) (j := 0) (by decide +kernel) rfl) <|
  fa1 (s_getI (ci := 12) (f := 30) (idx := 199) (C := RX12) (T := TX12) (NF := 83) (by decide +kernel) rfl (by decide) inG_X12 (by decide) w_1268 li_X12_30) <|
  fa1 (s_ifne (off := 32) (by decide +kernel) (by decide)) <|
  fa1 (s_aload_n (kf := 0) (j := 0) (by decide +kernel) rfl) <|
  fa1 (s_aload_n (kf := 0) (j := 0) (by decide +kernel) rfl) <|
  fa1 (s_getI (ci := 12) (f := 34) (idx := 254) (C := RX12) (T := TX12) (NF := 83) (by decide +kernel) rfl (by decide) inG_X12 (by decide) w_1272 li_X12_34) <|
  fa1 (s_iconst (n := 1) (v := 1) (by decide +kernel) (by decide +kernel) (p32 rfl)) <|
  fa1 (s_vcallV (n := 2) (ci := 12) (C := RX12) (T := TX12) (NF := 83) (idx := 257) (y := yX12_keepsSide) (by decide +kernel) (gg_X12_keepsSide) rfl (by decide) yv_X12_keepsSide (all5 w_1555 w_1557 w_54 w_113 w_1558) rfl rfl ⟨by decide, by decide⟩) <|
  fa1 (s_aload_n (kf := 0) (j := 0) (by decide +kernel) rfl) <|
  fa1 (s_getR (t2 := 20) (g := (fun _ => 7)) (ci := 12) (f := 8) (idx := 28) (C := RX12) (T := TX12) (NF := 83) (by decide +kernel) rfl (by decide) inG_X12 (by decide) w_1246 lr_X12_8 (by decide)) <|
  fa1 (s_aload_n (kf := 0) (j := 0) (by decide +kernel) rfl) <|
  fa1 (s_getI (ci := 12) (f := 34) (idx := 254) (C := RX12) (T := TX12) (NF := 83) (by decide +kernel) rfl (by decide) inG_X12 (by decide) w_1272 li_X12_34) <|
  fa1 (s_iload_n (kf := 1) (j := 1) (by decide +kernel) rfl) <|
  fa1 (s_iast (by decide +kernel) lt_loR_20) <|
  fa1 (s_aload_n (kf := 0) (j := 0) (by decide +kernel) rfl) <|
  fa1 (s_dup (by decide +kernel)) <|
  fa1 (s_getI (ci := 12) (f := 34) (idx := 254) (C := RX12) (T := TX12) (NF := 83) (by decide +kernel) rfl (by decide) inG_X12 (by decide) w_1272 li_X12_34) <|
  fa1 (s_iconst (n := 1) (v := 1) (by decide +kernel) (by decide +kernel) (p32 rfl)) <|
  fa1 (s_iadd (by decide +kernel)) <|
  fa1 (s_putI (ci := 12) (f := 34) (idx := 254) (C := RX12) (T := TX12) (NF := 83) (by decide +kernel) rfl (by decide) inG_X12 (by decide) w_1272 tyX12 tyX12_ok nmX12 rfl (by decide +kernel) li_X12_34) <|
  fa1 (s_vret (by decide +kernel) rfl) <| fa0
theorem gg_X12_readSaying {G : Wp} {l : Launch} : GoodM loR G l yX12_readSaying cX12_readSaying 2 none rm_X12_readSaying f_X12_readSaying := met_of kt_X12_readSaying (lkp_snd (ks_X12_readSaying G l)) (by decide +kernel) rfl (by decide)
noncomputable def k_X12_text : List (Nat × Ins) := [
  (0, i_push 1 (.inl 0)),
  (1, i_istore 2 1),
  (2, i_aload 3 0),
  (3, i_push 4 (.inl 0)),
  (4, i_putI 7 12 30),
  (7, i_aload 8 0),
  (8, i_push 9 (.inl 0)),
  (9, i_putI 12 12 26),
  (12, i_aload 13 0),
  (13, i_aload 14 0),
  (14, i_getI 17 12 0),
  (17, i_putI 20 12 23),
  (20, i_aload 21 0),
  (21, i_aload 22 0),
  (22, i_getI 25 12 5),
  (25, i_putI 28 12 34),
  (28, i_aload 29 0),
  (29, i_callV 32 1 (rcv 12) f_X12_next),
  (32, i_aload 33 0),
  (33, i_getI 36 12 30),
  (36, i_ifne 39 150),
  (39, i_aload 40 0),
  (40, i_getI 43 12 28),
  (43, i_ifeq 46 150),
  (46, i_aload 47 0),
  (47, i_push 48 (.inl 4)),
  (48, i_push 50 (.inl 119)),
  (50, i_push 52 (.inl 111)),
  (52, i_push 54 (.inl 114)),
  (54, i_push 56 (.inl 100)),
  (56, i_callI 59 6 (rcv 12) f_X12_isRow),
  (59, i_ifeq 62 69),
  (62, i_aload 63 0),
  (63, i_callV 66 1 (rcv 12) f_X12_readWord),
  (66, i_goto 138),
  (69, i_aload 70 0),
  (70, i_push 71 (.inl 5)),
  (71, i_push 73 (.inl 116)),
  (73, i_push 75 (.inl 97)),
  (75, i_push 77 (.inl 107)),
  (77, i_push 79 (.inl 101)),
  (79, i_callI 82 6 (rcv 12) f_X12_isRow),
  (82, i_ifeq 85 108),
  (85, i_aload 86 0),
  (86, i_aload 87 0),
  (87, i_getI 90 12 27),
  (90, i_push 91 (.inl 4)),
  (91, i_bin 92 (fun x y => wr (x + y))),
  (92, i_callI 95 2 (rcv 12) f_X12_look),
  (95, i_push 97 (.inl 110)),
  (97, i_cmpne 100 108),
  (100, i_aload 101 0),
  (101, i_push 102 (.inl 0)),
  (102, i_callV 105 2 (rcv 12) f_X12_readSaying),
  (105, i_goto 138),
  (108, i_aload 109 0),
  (109, i_aload 110 0),
  (110, i_push 111 (.inl 4)),
  (111, i_push 113 (.inl 119)),
  (113, i_push 115 (.inl 105)),
  (115, i_push 117 (.inl 115)),
  (117, i_push 119 (.inl 104)),
  (119, i_callI 122 6 (rcv 12) f_X12_isRow),
  (122, i_push 123 (.inl 2)),
  (123, i_callV 126 3 (rcv 12) f_X12_wants),
  (126, i_aload 127 0),
  (127, i_getI 130 12 30),
  (130, i_ifne 133 138),
  (133, i_aload 134 0),
  (134, i_push 135 (.inl 1)),
  (135, i_callV 138 2 (rcv 12) f_X12_readSaying),
  (138, i_aload 139 0),
  (139, i_push 141 (.inl 59)),
  (141, i_callV 144 2 (rcv 12) f_X12_readSign),
  (144, i_iinc 147 1 (1)),
  (147, i_goto 32),
  (150, i_aload 151 0),
  (151, i_push 152 (.inl 0)),
  (152, i_putI 155 12 25),
  (155, i_aload 156 0),
  (156, i_getI 159 12 30),
  (159, i_ifle 162 178),
  (162, i_aload 163 0),
  (163, i_aload 164 0),
  (164, i_getI 167 12 0),
  (167, i_putI 170 12 23),
  (170, i_push 172 (.inl (-10))),
  (172, i_aload 173 0),
  (173, i_getI 176 12 31),
  (176, i_bin 177 (fun x y => wr (x - y))),
  (177, i_iret),
  (178, i_aload 179 0),
  (179, i_aload 180 0),
  (180, i_getI 183 12 23),
  (183, i_putI 186 12 0),
  (186, i_aload 187 0),
  (187, i_getI 190 12 5),
  (190, i_istore 191 2),
  (191, i_iload 192 2),
  (192, i_aload 193 0),
  (193, i_getI 196 12 34),
  (196, i_cmpge 199 271),
  (199, i_aload 200 0),
  (200, i_getR 203 12 20 (fun _ => 8)),
  (203, i_iload 204 2),
  (204, i_aload 205 0),
  (205, i_getI 208 12 21),
  (208, i_ast 209 20 lnR id),
  (209, i_aload 210 0),
  (210, i_getR 213 12 20 (fun _ => 9)),
  (213, i_iload 214 2),
  (214, i_aload 215 0),
  (215, i_getI 218 12 22),
  (218, i_ast 219 20 lnR id),
  (219, i_aload 220 0),
  (220, i_getR 223 12 20 (fun _ => 10)),
  (223, i_iload 224 2),
  (224, i_push 226 (.inl (-4))),
  (226, i_ast 227 20 lnR id),
  (227, i_aload 228 0),
  (228, i_getR 231 12 20 (fun _ => 11)),
  (231, i_iload 232 2),
  (232, i_push 233 (.inl 0)),
  (233, i_ast 234 20 lnR id),
  (234, i_aload 235 0),
  (235, i_getR 238 12 20 (fun _ => 12)),
  (238, i_iload 239 2),
  (239, i_push 241 (.inl (-4))),
  (241, i_ast 242 20 lnR id),
  (242, i_aload 243 0),
  (243, i_getR 246 12 20 (fun _ => 17)),
  (246, i_push 249 (.inl 1000)),
  (249, i_iload 250 2),
  (250, i_bin 251 (fun x y => wr (x * y))),
  (251, i_aload 252 0),
  (252, i_getI 255 12 22),
  (255, i_bin 256 (fun x y => wr (x + y))),
  (256, i_aload 257 0),
  (257, i_getR 260 12 20 (fun _ => 7)),
  (260, i_iload 261 2),
  (261, i_ald 262 20 lnR),
  (262, i_push 263 (.inl 1)),
  (263, i_bin 264 (fun x y => wr (x + y))),
  (264, i_ast 265 20 lnR id),
  (265, i_iinc 268 2 (1)),
  (268, i_goto 191),
  (271, i_aload 272 0),
  (272, i_aload 273 0),
  (273, i_getI 276 12 34),
  (276, i_putI 279 12 5),
  (279, i_aload 280 0),
  (280, i_push 281 (.inl 0)),
  (281, i_putZ 284 12 68),
  (284, i_iload 285 1),
  (285, i_iret)]
noncomputable def kc_X12_text : Nat → Option Ins := lkp k_X12_text
noncomputable def f_X12_text : List AV → Mem → Option Rs := den 3 kc_X12_text
abbrev rm_X12_text : Room := { frames := 5, cells := 0, slots := 0, locals := 120 }
set_option maxRecDepth 100000 in
theorem kt_X12_text : TriC kc_X12_text := lkp_tri (fa1 (tri_push 1 (.inl 0)) (fa1 (tri_istore 2 1) (fa1 (tri_aload 3 0) (fa1 (tri_push 4 (.inl 0)) (fa1 (tri_putI 7 12 30) (fa1 (tri_aload 8 0) (fa1 (tri_push 9 (.inl 0)) (fa1 (tri_putI 12 12 26) (fa1 (tri_aload 13 0) (fa1 (tri_aload 14 0) (fa1 (tri_getI 17 12 0) (fa1 (tri_putI 20 12 23) (fa1 (tri_aload 21 0) (fa1 (tri_aload 22 0) (fa1 (tri_getI 25 12 5) (fa1 (tri_putI 28 12 34) (fa1 (tri_aload 29 0) (fa1 (tri_callV 32 1 (rcv 12) f_X12_next) (fa1 (tri_aload 33 0) (fa1 (tri_getI 36 12 30) (fa1 (tri_ifne 39 150) (fa1 (tri_aload 40 0) (fa1 (tri_getI 43 12 28) (fa1 (tri_ifeq 46 150) (fa1 (tri_aload 47 0) (fa1 (tri_push 48 (.inl 4)) (fa1 (tri_push 50 (.inl 119)) (fa1 (tri_push 52 (.inl 111)) (fa1 (tri_push 54 (.inl 114)) (fa1 (tri_push 56 (.inl 100)) (fa1 (tri_callI 59 6 (rcv 12) f_X12_isRow) (fa1 (tri_ifeq 62 69) (fa1 (tri_aload 63 0) (fa1 (tri_callV 66 1 (rcv 12) f_X12_readWord) (fa1 (tri_goto 138) (fa1 (tri_aload 70 0) (fa1 (tri_push 71 (.inl 5)) (fa1 (tri_push 73 (.inl 116)) (fa1 (tri_push 75 (.inl 97)) (fa1 (tri_push 77 (.inl 107)) (fa1 (tri_push 79 (.inl 101)) (fa1 (tri_callI 82 6 (rcv 12) f_X12_isRow) (fa1 (tri_ifeq 85 108) (fa1 (tri_aload 86 0) (fa1 (tri_aload 87 0) (fa1 (tri_getI 90 12 27) (fa1 (tri_push 91 (.inl 4)) (fa1 (tri_bin 92 (fun x y => wr (x + y))) (fa1 (tri_callI 95 2 (rcv 12) f_X12_look) (fa1 (tri_push 97 (.inl 110)) (fa1 (tri_cmpne 100 108) (fa1 (tri_aload 101 0) (fa1 (tri_push 102 (.inl 0)) (fa1 (tri_callV 105 2 (rcv 12) f_X12_readSaying) (fa1 (tri_goto 138) (fa1 (tri_aload 109 0) (fa1 (tri_aload 110 0) (fa1 (tri_push 111 (.inl 4)) (fa1 (tri_push 113 (.inl 119)) (fa1 (tri_push 115 (.inl 105)) (fa1 (tri_push 117 (.inl 115)) (fa1 (tri_push 119 (.inl 104)) (fa1 (tri_callI 122 6 (rcv 12) f_X12_isRow) (fa1 (tri_push 123 (.inl 2)) (fa1 (tri_callV 126 3 (rcv 12) f_X12_wants) (fa1 (tri_aload 127 0) (fa1 (tri_getI 130 12 30) (fa1 (tri_ifne 133 138) (fa1 (tri_aload 134 0) (fa1 (tri_push 135 (.inl 1)) (fa1 (tri_callV 138 2 (rcv 12) f_X12_readSaying) (fa1 (tri_aload 139 0) (fa1 (tri_push 141 (.inl 59)) (fa1 (tri_callV 144 2 (rcv 12) f_X12_readSign) (fa1 (tri_iinc 147 1 (1)) (fa1 (tri_goto 32) (fa1 (tri_aload 151 0) (fa1 (tri_push 152 (.inl 0)) (fa1 (tri_putI 155 12 25) (fa1 (tri_aload 156 0) (fa1 (tri_getI 159 12 30) (fa1 (tri_ifle 162 178) (fa1 (tri_aload 163 0) (fa1 (tri_aload 164 0) (fa1 (tri_getI 167 12 0) (fa1 (tri_putI 170 12 23) (fa1 (tri_push 172 (.inl (-10))) (fa1 (tri_aload 173 0) (fa1 (tri_getI 176 12 31) (fa1 (tri_bin 177 (fun x y => wr (x - y))) (fa1 (tri_iret) (fa1 (tri_aload 179 0) (fa1 (tri_aload 180 0) (fa1 (tri_getI 183 12 23) (fa1 (tri_putI 186 12 0) (fa1 (tri_aload 187 0) (fa1 (tri_getI 190 12 5) (fa1 (tri_istore 191 2) (fa1 (tri_iload 192 2) (fa1 (tri_aload 193 0) (fa1 (tri_getI 196 12 34) (fa1 (tri_cmpge 199 271) (fa1 (tri_aload 200 0) (fa1 (tri_getR 203 12 20 (fun _ => 8)) (fa1 (tri_iload 204 2) (fa1 (tri_aload 205 0) (fa1 (tri_getI 208 12 21) (fa1 (tri_ast 209 20 lnR id) (fa1 (tri_aload 210 0) (fa1 (tri_getR 213 12 20 (fun _ => 9)) (fa1 (tri_iload 214 2) (fa1 (tri_aload 215 0) (fa1 (tri_getI 218 12 22) (fa1 (tri_ast 219 20 lnR id) (fa1 (tri_aload 220 0) (fa1 (tri_getR 223 12 20 (fun _ => 10)) (fa1 (tri_iload 224 2) (fa1 (tri_push 226 (.inl (-4))) (fa1 (tri_ast 227 20 lnR id) (fa1 (tri_aload 228 0) (fa1 (tri_getR 231 12 20 (fun _ => 11)) (fa1 (tri_iload 232 2) (fa1 (tri_push 233 (.inl 0)) (fa1 (tri_ast 234 20 lnR id) (fa1 (tri_aload 235 0) (fa1 (tri_getR 238 12 20 (fun _ => 12)) (fa1 (tri_iload 239 2) (fa1 (tri_push 241 (.inl (-4))) (fa1 (tri_ast 242 20 lnR id) (fa1 (tri_aload 243 0) (fa1 (tri_getR 246 12 20 (fun _ => 17)) (fa1 (tri_push 249 (.inl 1000)) (fa1 (tri_iload 250 2) (fa1 (tri_bin 251 (fun x y => wr (x * y))) (fa1 (tri_aload 252 0) (fa1 (tri_getI 255 12 22) (fa1 (tri_bin 256 (fun x y => wr (x + y))) (fa1 (tri_aload 257 0) (fa1 (tri_getR 260 12 20 (fun _ => 7)) (fa1 (tri_iload 261 2) (fa1 (tri_ald 262 20 lnR) (fa1 (tri_push 263 (.inl 1)) (fa1 (tri_bin 264 (fun x y => wr (x + y))) (fa1 (tri_ast 265 20 lnR id) (fa1 (tri_iinc 268 2 (1)) (fa1 (tri_goto 191) (fa1 (tri_aload 272 0) (fa1 (tri_aload 273 0) (fa1 (tri_getI 276 12 34) (fa1 (tri_putI 279 12 5) (fa1 (tri_aload 280 0) (fa1 (tri_push 281 (.inl 0)) (fa1 (tri_putZ 284 12 68) (fa1 (tri_iload 285 1) (fa1 (tri_iret) (fa0))))))))))))))))))))))))))))))))))))))))))))))))))))))))))))))))))))))))))))))))))))))))))))))))))))))))))))))))))))))))))))))))))))))))))))))))))))))))))))
set_option maxRecDepth 100000 in
set_option maxHeartbeats 4000000 in
theorem ks_X12_text (G : Wp) (l : Launch) : ∀ e ∈ k_X12_text, Snd loR G l RX12 cX12_text 3 (some .int) rm_X12_text e.1 e.2 :=
  fa1 (s_iconst (n := 0) (v := 0) (by decide +kernel) (by decide +kernel) (p32 rfl)) <|
  fa1 (s_istore_n (kf := 1) (j := 1) (by decide +kernel) rfl (by decide)) <|
  fa1 (s_aload_n (kf := 0) (j := 0) (by decide +kernel) rfl) <|
  fa1 (s_iconst (n := 0) (v := 0) (by decide +kernel) (by decide +kernel) (p32 rfl)) <|
  fa1 (s_putI (ci := 12) (f := 30) (idx := 199) (C := RX12) (T := TX12) (NF := 83) (by decide +kernel) rfl (by decide) inG_X12 (by decide) w_1268 tyX12 tyX12_ok nmX12 rfl (by decide +kernel) li_X12_30) <|
  fa1 (s_aload_n (kf := 0) (j := 0) (by decide +kernel) rfl) <|
  fa1 (s_iconst (n := 0) (v := 0) (by decide +kernel) (by decide +kernel) (p32 rfl)) <|
  fa1 (s_putI (ci := 12) (f := 26) (idx := 208) (C := RX12) (T := TX12) (NF := 83) (by decide +kernel) rfl (by decide) inG_X12 (by decide) w_1264 tyX12 tyX12_ok nmX12 rfl (by decide +kernel) li_X12_26) <|
  fa1 (s_aload_n (kf := 0) (j := 0) (by decide +kernel) rfl) <|
  fa1 (s_aload_n (kf := 0) (j := 0) (by decide +kernel) rfl) <|
  fa1 (s_getI (ci := 12) (f := 0) (idx := 191) (C := RX12) (T := TX12) (NF := 83) (by decide +kernel) rfl (by decide) inG_X12 (by decide) w_1238 li_X12_0) <|
  fa1 (s_putI (ci := 12) (f := 23) (idx := 174) (C := RX12) (T := TX12) (NF := 83) (by decide +kernel) rfl (by decide) inG_X12 (by decide) w_1261 tyX12 tyX12_ok nmX12 rfl (by decide +kernel) li_X12_23) <|
  fa1 (s_aload_n (kf := 0) (j := 0) (by decide +kernel) rfl) <|
  fa1 (s_aload_n (kf := 0) (j := 0) (by decide +kernel) rfl) <|
  fa1 (s_getI (ci := 12) (f := 5) (idx := 184) (C := RX12) (T := TX12) (NF := 83) (by decide +kernel) rfl (by decide) inG_X12 (by decide) w_1243 li_X12_5) <|
  fa1 (s_putI (ci := 12) (f := 34) (idx := 254) (C := RX12) (T := TX12) (NF := 83) (by decide +kernel) rfl (by decide) inG_X12 (by decide) w_1272 tyX12 tyX12_ok nmX12 rfl (by decide +kernel) li_X12_34) <|
  fa1 (s_aload_n (kf := 0) (j := 0) (by decide +kernel) rfl) <|
  fa1 (s_vcallV (n := 0) (ci := 12) (C := RX12) (T := TX12) (NF := 83) (idx := 232) (y := yX12_next) (by decide +kernel) (gg_X12_next) rfl (by decide) yv_X12_next (all5 w_1505 w_1507 w_43 w_113 w_1508) rfl rfl ⟨by decide, by decide⟩) <|
  fa1 (s_aload_n (kf := 0) (j := 0) (by decide +kernel) rfl) <|
  fa1 (s_getI (ci := 12) (f := 30) (idx := 199) (C := RX12) (T := TX12) (NF := 83) (by decide +kernel) rfl (by decide) inG_X12 (by decide) w_1268 li_X12_30) <|
  fa1 (s_ifne (off := 114) (by decide +kernel) (by decide)) <|
  fa1 (s_aload_n (kf := 0) (j := 0) (by decide +kernel) rfl) <|
  fa1 (s_getI (ci := 12) (f := 28) (idx := 214) (C := RX12) (T := TX12) (NF := 83) (by decide +kernel) rfl (by decide) inG_X12 (by decide) w_1266 li_X12_28) <|
  fa1 (s_ifeq (off := 107) (by decide +kernel) (by decide)) <|
  fa1 (s_aload_n (kf := 0) (j := 0) (by decide +kernel) rfl) <|
  fa1 (s_iconst (n := 4) (v := 4) (by decide +kernel) (by decide +kernel) (p32 rfl)) <|
  fa1 (s_bipush (n := 119) (v := 119) (by decide +kernel) (by decide +kernel) (p32 rfl)) <|
  fa1 (s_bipush (n := 111) (v := 111) (by decide +kernel) (by decide +kernel) (p32 rfl)) <|
  fa1 (s_bipush (n := 114) (v := 114) (by decide +kernel) (by decide +kernel) (p32 rfl)) <|
  fa1 (s_bipush (n := 100) (v := 100) (by decide +kernel) (by decide +kernel) (p32 rfl)) <|
  fa1 (s_vcallI (n := 5) (ci := 12) (C := RX12) (T := TX12) (NF := 83) (idx := 263) (y := yX12_isRow) (by decide +kernel) (gg_X12_isRow) rfl (by decide) yv_X12_isRow (all5 w_1521 w_1523 w_46 w_113 w_1524) rfl rfl ⟨by decide, by decide⟩) <|
  fa1 (s_ifeq (off := 10) (by decide +kernel) (by decide)) <|
  fa1 (s_aload_n (kf := 0) (j := 0) (by decide +kernel) rfl) <|
  fa1 (s_vcallV (n := 0) (ci := 12) (C := RX12) (T := TX12) (NF := 83) (idx := 267) (y := yX12_readWord) (by decide +kernel) (gg_X12_readWord) rfl (by decide) yv_X12_readWord (all5 w_1525 w_1527 w_47 w_113 w_1528) rfl rfl ⟨by decide, by decide⟩) <|
  fa1 (s_goto (off := 72) (by decide +kernel) (by decide)) <|
  fa1 (s_aload_n (kf := 0) (j := 0) (by decide +kernel) rfl) <|
  fa1 (s_iconst (n := 5) (v := 5) (by decide +kernel) (by decide +kernel) (p32 rfl)) <|
  fa1 (s_bipush (n := 116) (v := 116) (by decide +kernel) (by decide +kernel) (p32 rfl)) <|
  fa1 (s_bipush (n := 97) (v := 97) (by decide +kernel) (by decide +kernel) (p32 rfl)) <|
  fa1 (s_bipush (n := 107) (v := 107) (by decide +kernel) (by decide +kernel) (p32 rfl)) <|
  fa1 (s_bipush (n := 101) (v := 101) (by decide +kernel) (by decide +kernel) (p32 rfl)) <|
  fa1 (s_vcallI (n := 5) (ci := 12) (C := RX12) (T := TX12) (NF := 83) (idx := 263) (y := yX12_isRow) (by decide +kernel) (gg_X12_isRow) rfl (by decide) yv_X12_isRow (all5 w_1521 w_1523 w_46 w_113 w_1524) rfl rfl ⟨by decide, by decide⟩) <|
  fa1 (s_ifeq (off := 26) (by decide +kernel) (by decide)) <|
  fa1 (s_aload_n (kf := 0) (j := 0) (by decide +kernel) rfl) <|
  fa1 (s_aload_n (kf := 0) (j := 0) (by decide +kernel) rfl) <|
  fa1 (s_getI (ci := 12) (f := 27) (idx := 202) (C := RX12) (T := TX12) (NF := 83) (by decide +kernel) rfl (by decide) inG_X12 (by decide) w_1265 li_X12_27) <|
  fa1 (s_iconst (n := 4) (v := 4) (by decide +kernel) (by decide +kernel) (p32 rfl)) <|
  fa1 (s_iadd (by decide +kernel)) <|
  fa1 (s_vcallI (n := 1) (ci := 12) (C := RX12) (T := TX12) (NF := 83) (idx := 211) (y := yX12_look) (by decide +kernel) (gg_X12_look) rfl (by decide) yv_X12_look (all5 w_1509 w_1511 w_44 w_113 w_1512) rfl rfl ⟨by decide, by decide⟩) <|
  fa1 (s_bipush (n := 110) (v := 110) (by decide +kernel) (by decide +kernel) (p32 rfl)) <|
  fa1 (s_cmpne (off := 11) (by decide +kernel) (by decide)) <|
  fa1 (s_aload_n (kf := 0) (j := 0) (by decide +kernel) rfl) <|
  fa1 (s_iconst (n := 0) (v := 0) (by decide +kernel) (by decide +kernel) (p32 rfl)) <|
  fa1 (s_vcallV (n := 1) (ci := 12) (C := RX12) (T := TX12) (NF := 83) (idx := 270) (y := yX12_readSaying) (by decide +kernel) (gg_X12_readSaying) rfl (by decide) yv_X12_readSaying (all5 w_1551 w_1553 w_53 w_113 w_1554) rfl rfl ⟨by decide, by decide⟩) <|
  fa1 (s_goto (off := 33) (by decide +kernel) (by decide)) <|
  fa1 (s_aload_n (kf := 0) (j := 0) (by decide +kernel) rfl) <|
  fa1 (s_aload_n (kf := 0) (j := 0) (by decide +kernel) rfl) <|
  fa1 (s_iconst (n := 4) (v := 4) (by decide +kernel) (by decide +kernel) (p32 rfl)) <|
  fa1 (s_bipush (n := 119) (v := 119) (by decide +kernel) (by decide +kernel) (p32 rfl)) <|
  fa1 (s_bipush (n := 105) (v := 105) (by decide +kernel) (by decide +kernel) (p32 rfl)) <|
  fa1 (s_bipush (n := 115) (v := 115) (by decide +kernel) (by decide +kernel) (p32 rfl)) <|
  fa1 (s_bipush (n := 104) (v := 104) (by decide +kernel) (by decide +kernel) (p32 rfl)) <|
  fa1 (s_vcallI (n := 5) (ci := 12) (C := RX12) (T := TX12) (NF := 83) (idx := 263) (y := yX12_isRow) (by decide +kernel) (gg_X12_isRow) rfl (by decide) yv_X12_isRow (all5 w_1521 w_1523 w_46 w_113 w_1524) rfl rfl ⟨by decide, by decide⟩) <|
  fa1 (s_iconst (n := 2) (v := 2) (by decide +kernel) (by decide +kernel) (p32 rfl)) <|
  fa1 (s_vcallV (n := 2) (ci := 12) (C := RX12) (T := TX12) (NF := 83) (idx := 228) (y := yX12_wants) (by decide +kernel) (gg_X12_wants) rfl (by decide) yv_X12_wants (all5 w_1517 w_1519 w_45 w_113 w_1520) rfl rfl ⟨by decide, by decide⟩) <|
  fa1 (s_aload_n (kf := 0) (j := 0) (by decide +kernel) rfl) <|
  fa1 (s_getI (ci := 12) (f := 30) (idx := 199) (C := RX12) (T := TX12) (NF := 83) (by decide +kernel) rfl (by decide) inG_X12 (by decide) w_1268 li_X12_30) <|
  fa1 (s_ifne (off := 8) (by decide +kernel) (by decide)) <|
  fa1 (s_aload_n (kf := 0) (j := 0) (by decide +kernel) rfl) <|
  fa1 (s_iconst (n := 1) (v := 1) (by decide +kernel) (by decide +kernel) (p32 rfl)) <|
  fa1 (s_vcallV (n := 1) (ci := 12) (C := RX12) (T := TX12) (NF := 83) (idx := 270) (y := yX12_readSaying) (by decide +kernel) (gg_X12_readSaying) rfl (by decide) yv_X12_readSaying (all5 w_1551 w_1553 w_53 w_113 w_1554) rfl rfl ⟨by decide, by decide⟩) <|
  fa1 (s_aload_n (kf := 0) (j := 0) (by decide +kernel) rfl) <|
  fa1 (s_bipush (n := 59) (v := 59) (by decide +kernel) (by decide +kernel) (p32 rfl)) <|
  fa1 (s_vcallV (n := 1) (ci := 12) (C := RX12) (T := TX12) (NF := 83) (idx := 260) (y := yX12_readSign) (by decide +kernel) (gg_X12_readSign) rfl (by decide) yv_X12_readSign (all5 w_1559 w_1561 w_55 w_113 w_1562) rfl rfl ⟨by decide, by decide⟩) <|
  fa1 (s_iinc (j := 1) (d := 1) (by decide +kernel) (by decide)) <|
  fa1 (s_goto (off := -115) (by decide +kernel) (by decide)) <|
  fa1 (s_aload_n (kf := 0) (j := 0) (by decide +kernel) rfl) <|
  fa1 (s_iconst (n := 0) (v := 0) (by decide +kernel) (by decide +kernel) (p32 rfl)) <|
  fa1 (s_putI (ci := 12) (f := 25) (idx := 194) (C := RX12) (T := TX12) (NF := 83) (by decide +kernel) rfl (by decide) inG_X12 (by decide) w_1263 tyX12 tyX12_ok nmX12 rfl (by decide +kernel) li_X12_25) <|
  fa1 (s_aload_n (kf := 0) (j := 0) (by decide +kernel) rfl) <|
  fa1 (s_getI (ci := 12) (f := 30) (idx := 199) (C := RX12) (T := TX12) (NF := 83) (by decide +kernel) rfl (by decide) inG_X12 (by decide) w_1268 li_X12_30) <|
  fa1 (s_ifle (off := 19) (by decide +kernel) (by decide)) <|
  fa1 (s_aload_n (kf := 0) (j := 0) (by decide +kernel) rfl) <|
  fa1 (s_aload_n (kf := 0) (j := 0) (by decide +kernel) rfl) <|
  fa1 (s_getI (ci := 12) (f := 0) (idx := 191) (C := RX12) (T := TX12) (NF := 83) (by decide +kernel) rfl (by decide) inG_X12 (by decide) w_1238 li_X12_0) <|
  fa1 (s_putI (ci := 12) (f := 23) (idx := 174) (C := RX12) (T := TX12) (NF := 83) (by decide +kernel) rfl (by decide) inG_X12 (by decide) w_1261 tyX12 tyX12_ok nmX12 rfl (by decide +kernel) li_X12_23) <|
  fa1 (s_bipush (n := -10) (v := -10) (by decide +kernel) (by decide +kernel) (p32 rfl)) <|
  fa1 (s_aload_n (kf := 0) (j := 0) (by decide +kernel) rfl) <|
  fa1 (s_getI (ci := 12) (f := 31) (idx := 205) (C := RX12) (T := TX12) (NF := 83) (by decide +kernel) rfl (by decide) inG_X12 (by decide) w_1269 li_X12_31) <|
  fa1 (s_isub (by decide +kernel)) <|
  fa1 (s_iret (by decide +kernel) rfl) <|
  fa1 (s_aload_n (kf := 0) (j := 0) (by decide +kernel) rfl) <|
  fa1 (s_aload_n (kf := 0) (j := 0) (by decide +kernel) rfl) <|
  fa1 (s_getI (ci := 12) (f := 23) (idx := 174) (C := RX12) (T := TX12) (NF := 83) (by decide +kernel) rfl (by decide) inG_X12 (by decide) w_1261 li_X12_23) <|
  fa1 (s_putI (ci := 12) (f := 0) (idx := 191) (C := RX12) (T := TX12) (NF := 83) (by decide +kernel) rfl (by decide) inG_X12 (by decide) w_1238 tyX12 tyX12_ok nmX12 rfl (by decide +kernel) li_X12_0) <|
  fa1 (s_aload_n (kf := 0) (j := 0) (by decide +kernel) rfl) <|
  fa1 (s_getI (ci := 12) (f := 5) (idx := 184) (C := RX12) (T := TX12) (NF := 83) (by decide +kernel) rfl (by decide) inG_X12 (by decide) w_1243 li_X12_5) <|
  fa1 (s_istore_n (kf := 2) (j := 2) (by decide +kernel) rfl (by decide)) <|
  fa1 (s_iload_n (kf := 2) (j := 2) (by decide +kernel) rfl) <|
  fa1 (s_aload_n (kf := 0) (j := 0) (by decide +kernel) rfl) <|
  fa1 (s_getI (ci := 12) (f := 34) (idx := 254) (C := RX12) (T := TX12) (NF := 83) (by decide +kernel) rfl (by decide) inG_X12 (by decide) w_1272 li_X12_34) <|
  fa1 (s_cmpge (off := 75) (by decide +kernel) (by decide)) <|
  fa1 (s_aload_n (kf := 0) (j := 0) (by decide +kernel) rfl) <|
  fa1 (s_getR (t2 := 20) (g := (fun _ => 8)) (ci := 12) (f := 9) (idx := 31) (C := RX12) (T := TX12) (NF := 83) (by decide +kernel) rfl (by decide) inG_X12 (by decide) w_1247 lr_X12_9 (by decide)) <|
  fa1 (s_iload_n (kf := 2) (j := 2) (by decide +kernel) rfl) <|
  fa1 (s_aload_n (kf := 0) (j := 0) (by decide +kernel) rfl) <|
  fa1 (s_getI (ci := 12) (f := 21) (idx := 273) (C := RX12) (T := TX12) (NF := 83) (by decide +kernel) rfl (by decide) inG_X12 (by decide) w_1259 li_X12_21) <|
  fa1 (s_iast (by decide +kernel) lt_loR_20) <|
  fa1 (s_aload_n (kf := 0) (j := 0) (by decide +kernel) rfl) <|
  fa1 (s_getR (t2 := 20) (g := (fun _ => 9)) (ci := 12) (f := 10) (idx := 34) (C := RX12) (T := TX12) (NF := 83) (by decide +kernel) rfl (by decide) inG_X12 (by decide) w_1248 lr_X12_10 (by decide)) <|
  fa1 (s_iload_n (kf := 2) (j := 2) (by decide +kernel) rfl) <|
  fa1 (s_aload_n (kf := 0) (j := 0) (by decide +kernel) rfl) <|
  fa1 (s_getI (ci := 12) (f := 22) (idx := 276) (C := RX12) (T := TX12) (NF := 83) (by decide +kernel) rfl (by decide) inG_X12 (by decide) w_1260 li_X12_22) <|
  fa1 (s_iast (by decide +kernel) lt_loR_20) <|
  fa1 (s_aload_n (kf := 0) (j := 0) (by decide +kernel) rfl) <|
  fa1 (s_getR (t2 := 20) (g := (fun _ => 10)) (ci := 12) (f := 11) (idx := 37) (C := RX12) (T := TX12) (NF := 83) (by decide +kernel) rfl (by decide) inG_X12 (by decide) w_1249 lr_X12_11 (by decide)) <|
  fa1 (s_iload_n (kf := 2) (j := 2) (by decide +kernel) rfl) <|
  fa1 (s_bipush (n := -4) (v := -4) (by decide +kernel) (by decide +kernel) (p32 rfl)) <|
  fa1 (s_iast (by decide +kernel) lt_loR_20) <|
  fa1 (s_aload_n (kf := 0) (j := 0) (by decide +kernel) rfl) <|
  fa1 (s_getR (t2 := 20) (g := (fun _ => 11)) (ci := 12) (f := 12) (idx := 40) (C := RX12) (T := TX12) (NF := 83) (by decide +kernel) rfl (by decide) inG_X12 (by decide) w_1250 lr_X12_12 (by decide)) <|
  fa1 (s_iload_n (kf := 2) (j := 2) (by decide +kernel) rfl) <|
  fa1 (s_iconst (n := 0) (v := 0) (by decide +kernel) (by decide +kernel) (p32 rfl)) <|
  fa1 (s_iast (by decide +kernel) lt_loR_20) <|
  fa1 (s_aload_n (kf := 0) (j := 0) (by decide +kernel) rfl) <|
  fa1 (s_getR (t2 := 20) (g := (fun _ => 12)) (ci := 12) (f := 13) (idx := 43) (C := RX12) (T := TX12) (NF := 83) (by decide +kernel) rfl (by decide) inG_X12 (by decide) w_1251 lr_X12_13 (by decide)) <|
  fa1 (s_iload_n (kf := 2) (j := 2) (by decide +kernel) rfl) <|
  fa1 (s_bipush (n := -4) (v := -4) (by decide +kernel) (by decide +kernel) (p32 rfl)) <|
  fa1 (s_iast (by decide +kernel) lt_loR_20) <|
  fa1 (s_aload_n (kf := 0) (j := 0) (by decide +kernel) rfl) <|
  fa1 (s_getR (t2 := 20) (g := (fun _ => 17)) (ci := 12) (f := 20) (idx := 58) (C := RX12) (T := TX12) (NF := 83) (by decide +kernel) rfl (by decide) inG_X12 (by decide) w_1258 lr_X12_20 (by decide)) <|
  fa1 (s_sipush (n := 1000) (v := 1000) (by decide +kernel) (by decide +kernel) (p32 rfl)) <|
  fa1 (s_iload_n (kf := 2) (j := 2) (by decide +kernel) rfl) <|
  fa1 (s_imul (by decide +kernel)) <|
  fa1 (s_aload_n (kf := 0) (j := 0) (by decide +kernel) rfl) <|
  fa1 (s_getI (ci := 12) (f := 22) (idx := 276) (C := RX12) (T := TX12) (NF := 83) (by decide +kernel) rfl (by decide) inG_X12 (by decide) w_1260 li_X12_22) <|
  fa1 (s_iadd (by decide +kernel)) <|
  fa1 (s_aload_n (kf := 0) (j := 0) (by decide +kernel) rfl) <|
  fa1 (s_getR (t2 := 20) (g := (fun _ => 7)) (ci := 12) (f := 8) (idx := 28) (C := RX12) (T := TX12) (NF := 83) (by decide +kernel) rfl (by decide) inG_X12 (by decide) w_1246 lr_X12_8 (by decide)) <|
  fa1 (s_iload_n (kf := 2) (j := 2) (by decide +kernel) rfl) <|
  fa1 (s_iald (by decide +kernel)) <|
  fa1 (s_iconst (n := 1) (v := 1) (by decide +kernel) (by decide +kernel) (p32 rfl)) <|
  fa1 (s_iadd (by decide +kernel)) <|
  fa1 (s_iast (by decide +kernel) lt_loR_20) <|
  fa1 (s_iinc (j := 2) (d := 1) (by decide +kernel) (by decide)) <|
  fa1 (s_goto (off := -77) (by decide +kernel) (by decide)) <|
  fa1 (s_aload_n (kf := 0) (j := 0) (by decide +kernel) rfl) <|
  fa1 (s_aload_n (kf := 0) (j := 0) (by decide +kernel) rfl) <|
  fa1 (s_getI (ci := 12) (f := 34) (idx := 254) (C := RX12) (T := TX12) (NF := 83) (by decide +kernel) rfl (by decide) inG_X12 (by decide) w_1272 li_X12_34) <|
  fa1 (s_putI (ci := 12) (f := 5) (idx := 184) (C := RX12) (T := TX12) (NF := 83) (by decide +kernel) rfl (by decide) inG_X12 (by decide) w_1243 tyX12 tyX12_ok nmX12 rfl (by decide +kernel) li_X12_5) <|
  fa1 (s_aload_n (kf := 0) (j := 0) (by decide +kernel) rfl) <|
  fa1 (s_iconst (n := 0) (v := 0) (by decide +kernel) (by decide +kernel) (p32 rfl)) <|
  fa1 (s_putZ (ci := 12) (f := 68) (idx := 279) (C := RX12) (T := TX12) (NF := 83) (by decide +kernel) rfl (by decide) inG_X12 (by decide) w_1306 tyX12 tyX12_ok nmX12 rfl (by decide +kernel) li_X12_68) <|
  fa1 (s_iload_n (kf := 1) (j := 1) (by decide +kernel) rfl) <|
  fa1 (s_iret (by decide +kernel) rfl) <| fa0
theorem gg_X12_text {G : Wp} {l : Launch} : GoodM loR G l yX12_text cX12_text 3 (some .int) rm_X12_text f_X12_text := met_of kt_X12_text (lkp_snd (ks_X12_text G l)) (by decide +kernel) rfl (by decide)
noncomputable def k_X12_fault : List (Nat × Ins) := [
  (0, i_aload 1 0),
  (1, i_getI 4 12 30),
  (4, i_iret)]
noncomputable def kc_X12_fault : Nat → Option Ins := lkp k_X12_fault
noncomputable def f_X12_fault : List AV → Mem → Option Rs := den 1 kc_X12_fault
abbrev rm_X12_fault : Room := { frames := 0, cells := 0, slots := 0, locals := 0 }
set_option maxRecDepth 100000 in
theorem kt_X12_fault : TriC kc_X12_fault := lkp_tri (fa1 (tri_aload 1 0) (fa1 (tri_getI 4 12 30) (fa1 (tri_iret) (fa0))))
set_option maxRecDepth 100000 in
set_option maxHeartbeats 4000000 in
theorem ks_X12_fault (G : Wp) (l : Launch) : ∀ e ∈ k_X12_fault, Snd loR G l RX12 cX12_fault 1 (some .int) rm_X12_fault e.1 e.2 :=
  fa1 (s_aload_n (kf := 0) (j := 0) (by decide +kernel) rfl) <|
  fa1 (s_getI (ci := 12) (f := 30) (idx := 199) (C := RX12) (T := TX12) (NF := 83) (by decide +kernel) rfl (by decide) inG_X12 (by decide) w_1268 li_X12_30) <|
  fa1 (s_iret (by decide +kernel) rfl) <| fa0
theorem gg_X12_fault {G : Wp} {l : Launch} : GoodM loR G l yX12_fault cX12_fault 1 (some .int) rm_X12_fault f_X12_fault := met_of kt_X12_fault (lkp_snd (ks_X12_fault G l)) (by decide +kernel) rfl (by decide)
noncomputable def k_X12_hand : List (Nat × Ins) := [
  (0, i_iload 1 1),
  (1, i_i2l 2),
  (2, i_push 3 (.inr (.inl 0))),
  (3, i_push 6 (.inr (.inl (9)))),
  (6, i_callI 9 3 anyv f_X12_in),
  (9, i_ifne 12 14),
  (12, i_push 13 (.inl (-1))),
  (13, i_iret),
  (14, i_aload 15 0),
  (15, i_getI 18 12 21),
  (18, i_istore 19 2),
  (19, i_aload 20 0),
  (20, i_iload 21 1),
  (21, i_putI 24 12 21),
  (24, i_iload 25 2),
  (25, i_iret)]
noncomputable def kc_X12_hand : Nat → Option Ins := lkp k_X12_hand
noncomputable def f_X12_hand : List AV → Mem → Option Rs := den 3 kc_X12_hand
abbrev rm_X12_hand : Room := { frames := 1, cells := 0, slots := 0, locals := 25 }
set_option maxRecDepth 100000 in
theorem kt_X12_hand : TriC kc_X12_hand := lkp_tri (fa1 (tri_iload 1 1) (fa1 (tri_i2l 2) (fa1 (tri_push 3 (.inr (.inl 0))) (fa1 (tri_push 6 (.inr (.inl (9)))) (fa1 (tri_callI 9 3 anyv f_X12_in) (fa1 (tri_ifne 12 14) (fa1 (tri_push 13 (.inl (-1))) (fa1 (tri_iret) (fa1 (tri_aload 15 0) (fa1 (tri_getI 18 12 21) (fa1 (tri_istore 19 2) (fa1 (tri_aload 20 0) (fa1 (tri_iload 21 1) (fa1 (tri_putI 24 12 21) (fa1 (tri_iload 25 2) (fa1 (tri_iret) (fa0)))))))))))))))))
set_option maxRecDepth 100000 in
set_option maxHeartbeats 4000000 in
theorem ks_X12_hand (G : Wp) (l : Launch) : ∀ e ∈ k_X12_hand, Snd loR G l RX12 cX12_hand 3 (some .int) rm_X12_hand e.1 e.2 :=
  fa1 (s_iload_n (kf := 1) (j := 1) (by decide +kernel) rfl) <|
  fa1 (s_i2l (by decide +kernel)) <|
  fa1 (s_lconst (n := 0) (v := 0) (by decide +kernel) (by decide +kernel) (p64 rfl)) <|
  fa1 (s_ldc2 (idx := 283) (v := 9) (by decide +kernel) w_1571 (p64 rfl)) <|
  fa1 (s_scallI (n := 3) (idx := 187) (y := yX12_in) (by decide +kernel) (gg_X12_in) yv_X12_in (all4 w_1498 w_1499 w_113 w_1500) rfl rfl ⟨by decide, by decide⟩) <|
  fa1 (s_ifne (off := 5) (by decide +kernel) (by decide)) <|
  fa1 (s_iconst (n := -1) (v := -1) (by decide +kernel) (by decide +kernel) (p32 rfl)) <|
  fa1 (s_iret (by decide +kernel) rfl) <|
  fa1 (s_aload_n (kf := 0) (j := 0) (by decide +kernel) rfl) <|
  fa1 (s_getI (ci := 12) (f := 21) (idx := 273) (C := RX12) (T := TX12) (NF := 83) (by decide +kernel) rfl (by decide) inG_X12 (by decide) w_1259 li_X12_21) <|
  fa1 (s_istore_n (kf := 2) (j := 2) (by decide +kernel) rfl (by decide)) <|
  fa1 (s_aload_n (kf := 0) (j := 0) (by decide +kernel) rfl) <|
  fa1 (s_iload_n (kf := 1) (j := 1) (by decide +kernel) rfl) <|
  fa1 (s_putI (ci := 12) (f := 21) (idx := 273) (C := RX12) (T := TX12) (NF := 83) (by decide +kernel) rfl (by decide) inG_X12 (by decide) w_1259 tyX12 tyX12_ok nmX12 rfl (by decide +kernel) li_X12_21) <|
  fa1 (s_iload_n (kf := 2) (j := 2) (by decide +kernel) rfl) <|
  fa1 (s_iret (by decide +kernel) rfl) <| fa0
theorem gg_X12_hand {G : Wp} {l : Launch} : GoodM loR G l yX12_hand cX12_hand 3 (some .int) rm_X12_hand f_X12_hand := met_of kt_X12_hand (lkp_snd (ks_X12_hand G l)) (by decide +kernel) rfl (by decide)
noncomputable def k_X12_day : List (Nat × Ins) := [
  (0, i_iload 1 1),
  (1, i_i2l 2),
  (2, i_aload 3 0),
  (3, i_getI 6 12 22),
  (6, i_i2l 7),
  (7, i_push 10 (.inr (.inl (999)))),
  (10, i_callI 13 3 anyv f_X12_in),
  (13, i_ifne 16 18),
  (16, i_push 17 (.inl (-1))),
  (17, i_iret),
  (18, i_aload 19 0),
  (19, i_getI 22 12 22),
  (22, i_istore 23 2),
  (23, i_aload 24 0),
  (24, i_iload 25 1),
  (25, i_putI 28 12 22),
  (28, i_iload 29 2),
  (29, i_iret)]
noncomputable def kc_X12_day : Nat → Option Ins := lkp k_X12_day
noncomputable def f_X12_day : List AV → Mem → Option Rs := den 3 kc_X12_day
abbrev rm_X12_day : Room := { frames := 1, cells := 0, slots := 0, locals := 25 }
set_option maxRecDepth 100000 in
theorem kt_X12_day : TriC kc_X12_day := lkp_tri (fa1 (tri_iload 1 1) (fa1 (tri_i2l 2) (fa1 (tri_aload 3 0) (fa1 (tri_getI 6 12 22) (fa1 (tri_i2l 7) (fa1 (tri_push 10 (.inr (.inl (999)))) (fa1 (tri_callI 13 3 anyv f_X12_in) (fa1 (tri_ifne 16 18) (fa1 (tri_push 17 (.inl (-1))) (fa1 (tri_iret) (fa1 (tri_aload 19 0) (fa1 (tri_getI 22 12 22) (fa1 (tri_istore 23 2) (fa1 (tri_aload 24 0) (fa1 (tri_iload 25 1) (fa1 (tri_putI 28 12 22) (fa1 (tri_iload 29 2) (fa1 (tri_iret) (fa0)))))))))))))))))))
set_option maxRecDepth 100000 in
set_option maxHeartbeats 4000000 in
theorem ks_X12_day (G : Wp) (l : Launch) : ∀ e ∈ k_X12_day, Snd loR G l RX12 cX12_day 3 (some .int) rm_X12_day e.1 e.2 :=
  fa1 (s_iload_n (kf := 1) (j := 1) (by decide +kernel) rfl) <|
  fa1 (s_i2l (by decide +kernel)) <|
  fa1 (s_aload_n (kf := 0) (j := 0) (by decide +kernel) rfl) <|
  fa1 (s_getI (ci := 12) (f := 22) (idx := 276) (C := RX12) (T := TX12) (NF := 83) (by decide +kernel) rfl (by decide) inG_X12 (by decide) w_1260 li_X12_22) <|
  fa1 (s_i2l (by decide +kernel)) <|
  fa1 (s_ldc2 (idx := 285) (v := 999) (by decide +kernel) w_1576 (p64 rfl)) <|
  fa1 (s_scallI (n := 3) (idx := 187) (y := yX12_in) (by decide +kernel) (gg_X12_in) yv_X12_in (all4 w_1498 w_1499 w_113 w_1500) rfl rfl ⟨by decide, by decide⟩) <|
  fa1 (s_ifne (off := 5) (by decide +kernel) (by decide)) <|
  fa1 (s_iconst (n := -1) (v := -1) (by decide +kernel) (by decide +kernel) (p32 rfl)) <|
  fa1 (s_iret (by decide +kernel) rfl) <|
  fa1 (s_aload_n (kf := 0) (j := 0) (by decide +kernel) rfl) <|
  fa1 (s_getI (ci := 12) (f := 22) (idx := 276) (C := RX12) (T := TX12) (NF := 83) (by decide +kernel) rfl (by decide) inG_X12 (by decide) w_1260 li_X12_22) <|
  fa1 (s_istore_n (kf := 2) (j := 2) (by decide +kernel) rfl (by decide)) <|
  fa1 (s_aload_n (kf := 0) (j := 0) (by decide +kernel) rfl) <|
  fa1 (s_iload_n (kf := 1) (j := 1) (by decide +kernel) rfl) <|
  fa1 (s_putI (ci := 12) (f := 22) (idx := 276) (C := RX12) (T := TX12) (NF := 83) (by decide +kernel) rfl (by decide) inG_X12 (by decide) w_1260 tyX12 tyX12_ok nmX12 rfl (by decide +kernel) li_X12_22) <|
  fa1 (s_iload_n (kf := 2) (j := 2) (by decide +kernel) rfl) <|
  fa1 (s_iret (by decide +kernel) rfl) <| fa0
theorem gg_X12_day {G : Wp} {l : Launch} : GoodM loR G l yX12_day cX12_day 3 (some .int) rm_X12_day f_X12_day := met_of kt_X12_day (lkp_snd (ks_X12_day G l)) (by decide +kernel) rfl (by decide)
noncomputable def k_X12_usesOf : List (Nat × Ins) := [
  (0, i_push 1 (.inl 0)),
  (1, i_istore 2 2),
  (2, i_push 3 (.inl 0)),
  (3, i_istore 4 3),
  (4, i_iload 5 3),
  (5, i_aload 6 0),
  (6, i_getR 9 12 20 (fun _ => 11)),
  (9, i_iload 10 1),
  (10, i_ald 11 20 lnR),
  (11, i_cmpge 14 69),
  (14, i_aload 15 0),
  (15, i_getR 18 12 20 (fun _ => 7)),
  (18, i_iload 19 1),
  (19, i_ald 20 20 lnR),
  (20, i_push 21 (.inl 2)),
  (21, i_cmpne 24 69),
  (24, i_iload 25 2),
  (25, i_aload 26 0),
  (26, i_getR 29 12 20 (fun _ => 14)),
  (29, i_aload 30 0),
  (30, i_getR 33 12 20 (fun _ => 10)),
  (33, i_iload 34 1),
  (34, i_ald 35 20 lnR),
  (35, i_iload 36 3),
  (36, i_bin 37 (fun x y => wr (x + y))),
  (37, i_ald 38 20 lnR),
  (38, i_push 39 (.inl 1)),
  (39, i_cmpgt 42 60),
  (42, i_push 43 (.inl 1)),
  (43, i_aload 44 0),
  (44, i_getR 47 12 20 (fun _ => 15)),
  (47, i_aload 48 0),
  (48, i_getR 51 12 20 (fun _ => 10)),
  (51, i_iload 52 1),
  (52, i_ald 53 20 lnR),
  (53, i_iload 54 3),
  (54, i_bin 55 (fun x y => wr (x + y))),
  (55, i_ald 56 20 lnR),
  (56, i_bin 57 bShl),
  (57, i_goto 61),
  (60, i_push 61 (.inl 0)),
  (61, i_bin 62 bOr),
  (62, i_istore 63 2),
  (63, i_iinc 66 3 (1)),
  (66, i_goto 4),
  (69, i_iload 70 2),
  (70, i_iret)]
noncomputable def kc_X12_usesOf : Nat → Option Ins := lkp k_X12_usesOf
noncomputable def f_X12_usesOf : List AV → Mem → Option Rs := den 4 kc_X12_usesOf
abbrev rm_X12_usesOf : Room := { frames := 0, cells := 0, slots := 0, locals := 0 }
set_option maxRecDepth 100000 in
theorem kt_X12_usesOf : TriC kc_X12_usesOf := lkp_tri (fa1 (tri_push 1 (.inl 0)) (fa1 (tri_istore 2 2) (fa1 (tri_push 3 (.inl 0)) (fa1 (tri_istore 4 3) (fa1 (tri_iload 5 3) (fa1 (tri_aload 6 0) (fa1 (tri_getR 9 12 20 (fun _ => 11)) (fa1 (tri_iload 10 1) (fa1 (tri_ald 11 20 lnR) (fa1 (tri_cmpge 14 69) (fa1 (tri_aload 15 0) (fa1 (tri_getR 18 12 20 (fun _ => 7)) (fa1 (tri_iload 19 1) (fa1 (tri_ald 20 20 lnR) (fa1 (tri_push 21 (.inl 2)) (fa1 (tri_cmpne 24 69) (fa1 (tri_iload 25 2) (fa1 (tri_aload 26 0) (fa1 (tri_getR 29 12 20 (fun _ => 14)) (fa1 (tri_aload 30 0) (fa1 (tri_getR 33 12 20 (fun _ => 10)) (fa1 (tri_iload 34 1) (fa1 (tri_ald 35 20 lnR) (fa1 (tri_iload 36 3) (fa1 (tri_bin 37 (fun x y => wr (x + y))) (fa1 (tri_ald 38 20 lnR) (fa1 (tri_push 39 (.inl 1)) (fa1 (tri_cmpgt 42 60) (fa1 (tri_push 43 (.inl 1)) (fa1 (tri_aload 44 0) (fa1 (tri_getR 47 12 20 (fun _ => 15)) (fa1 (tri_aload 48 0) (fa1 (tri_getR 51 12 20 (fun _ => 10)) (fa1 (tri_iload 52 1) (fa1 (tri_ald 53 20 lnR) (fa1 (tri_iload 54 3) (fa1 (tri_bin 55 (fun x y => wr (x + y))) (fa1 (tri_ald 56 20 lnR) (fa1 (tri_bin 57 bShl) (fa1 (tri_goto 61) (fa1 (tri_push 61 (.inl 0)) (fa1 (tri_bin 62 bOr) (fa1 (tri_istore 63 2) (fa1 (tri_iinc 66 3 (1)) (fa1 (tri_goto 4) (fa1 (tri_iload 70 2) (fa1 (tri_iret) (fa0))))))))))))))))))))))))))))))))))))))))))))))))
set_option maxRecDepth 100000 in
set_option maxHeartbeats 4000000 in
theorem ks_X12_usesOf (G : Wp) (l : Launch) : ∀ e ∈ k_X12_usesOf, Snd loR G l RX12 cX12_usesOf 4 (some .int) rm_X12_usesOf e.1 e.2 :=
  fa1 (s_iconst (n := 0) (v := 0) (by decide +kernel) (by decide +kernel) (p32 rfl)) <|
  fa1 (s_istore_n (kf := 2) (j := 2) (by decide +kernel) rfl (by decide)) <|
  fa1 (s_iconst (n := 0) (v := 0) (by decide +kernel) (by decide +kernel) (p32 rfl)) <|
  fa1 (s_istore_n (kf := 3) (j := 3) (by decide +kernel) rfl (by decide)) <|
  fa1 (s_iload_n (kf := 3) (j := 3) (by decide +kernel) rfl) <|
  fa1 (s_aload_n (kf := 0) (j := 0) (by decide +kernel) rfl) <|
  fa1 (s_getR (t2 := 20) (g := (fun _ => 11)) (ci := 12) (f := 12) (idx := 40) (C := RX12) (T := TX12) (NF := 83) (by decide +kernel) rfl (by decide) inG_X12 (by decide) w_1250 lr_X12_12 (by decide)) <|
  fa1 (s_iload_n (kf := 1) (j := 1) (by decide +kernel) rfl) <|
  fa1 (s_iald (by decide +kernel)) <|
  fa1 (s_cmpge (off := 58) (by decide +kernel) (by decide)) <|
  fa1 (s_aload_n (kf := 0) (j := 0) (by decide +kernel) rfl) <|
  fa1 (s_getR (t2 := 20) (g := (fun _ => 7)) (ci := 12) (f := 8) (idx := 28) (C := RX12) (T := TX12) (NF := 83) (by decide +kernel) rfl (by decide) inG_X12 (by decide) w_1246 lr_X12_8 (by decide)) <|
  fa1 (s_iload_n (kf := 1) (j := 1) (by decide +kernel) rfl) <|
  fa1 (s_iald (by decide +kernel)) <|
  fa1 (s_iconst (n := 2) (v := 2) (by decide +kernel) (by decide +kernel) (p32 rfl)) <|
  fa1 (s_cmpne (off := 48) (by decide +kernel) (by decide)) <|
  fa1 (s_iload_n (kf := 2) (j := 2) (by decide +kernel) rfl) <|
  fa1 (s_aload_n (kf := 0) (j := 0) (by decide +kernel) rfl) <|
  fa1 (s_getR (t2 := 20) (g := (fun _ => 14)) (ci := 12) (f := 17) (idx := 49) (C := RX12) (T := TX12) (NF := 83) (by decide +kernel) rfl (by decide) inG_X12 (by decide) w_1255 lr_X12_17 (by decide)) <|
  fa1 (s_aload_n (kf := 0) (j := 0) (by decide +kernel) rfl) <|
  fa1 (s_getR (t2 := 20) (g := (fun _ => 10)) (ci := 12) (f := 11) (idx := 37) (C := RX12) (T := TX12) (NF := 83) (by decide +kernel) rfl (by decide) inG_X12 (by decide) w_1249 lr_X12_11 (by decide)) <|
  fa1 (s_iload_n (kf := 1) (j := 1) (by decide +kernel) rfl) <|
  fa1 (s_iald (by decide +kernel)) <|
  fa1 (s_iload_n (kf := 3) (j := 3) (by decide +kernel) rfl) <|
  fa1 (s_iadd (by decide +kernel)) <|
  fa1 (s_iald (by decide +kernel)) <|
  fa1 (s_iconst (n := 1) (v := 1) (by decide +kernel) (by decide +kernel) (p32 rfl)) <|
  fa1 (s_cmpgt (off := 21) (by decide +kernel) (by decide)) <|
  fa1 (s_iconst (n := 1) (v := 1) (by decide +kernel) (by decide +kernel) (p32 rfl)) <|
  fa1 (s_aload_n (kf := 0) (j := 0) (by decide +kernel) rfl) <|
  fa1 (s_getR (t2 := 20) (g := (fun _ => 15)) (ci := 12) (f := 18) (idx := 52) (C := RX12) (T := TX12) (NF := 83) (by decide +kernel) rfl (by decide) inG_X12 (by decide) w_1256 lr_X12_18 (by decide)) <|
  fa1 (s_aload_n (kf := 0) (j := 0) (by decide +kernel) rfl) <|
  fa1 (s_getR (t2 := 20) (g := (fun _ => 10)) (ci := 12) (f := 11) (idx := 37) (C := RX12) (T := TX12) (NF := 83) (by decide +kernel) rfl (by decide) inG_X12 (by decide) w_1249 lr_X12_11 (by decide)) <|
  fa1 (s_iload_n (kf := 1) (j := 1) (by decide +kernel) rfl) <|
  fa1 (s_iald (by decide +kernel)) <|
  fa1 (s_iload_n (kf := 3) (j := 3) (by decide +kernel) rfl) <|
  fa1 (s_iadd (by decide +kernel)) <|
  fa1 (s_iald (by decide +kernel)) <|
  fa1 (s_ishl (by decide +kernel)) <|
  fa1 (s_goto (off := 4) (by decide +kernel) (by decide)) <|
  fa1 (s_iconst (n := 0) (v := 0) (by decide +kernel) (by decide +kernel) (p32 rfl)) <|
  fa1 (s_ior (by decide +kernel)) <|
  fa1 (s_istore_n (kf := 2) (j := 2) (by decide +kernel) rfl (by decide)) <|
  fa1 (s_iinc (j := 3) (d := 1) (by decide +kernel) (by decide)) <|
  fa1 (s_goto (off := -62) (by decide +kernel) (by decide)) <|
  fa1 (s_iload_n (kf := 2) (j := 2) (by decide +kernel) rfl) <|
  fa1 (s_iret (by decide +kernel) rfl) <| fa0
theorem gg_X12_usesOf {G : Wp} {l : Launch} : GoodM loR G l yX12_usesOf cX12_usesOf 4 (some .int) rm_X12_usesOf f_X12_usesOf := met_of kt_X12_usesOf (lkp_snd (ks_X12_usesOf G l)) (by decide +kernel) rfl (by decide)
