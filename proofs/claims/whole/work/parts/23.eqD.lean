set_option maxRecDepth 100000 in
set_option maxHeartbeats 2000000 in
theorem q_X4_isOver  (μ : Mem) : f_X4_isOver [vR 4 259] μ = (if (μ 259 16) = 0 then if (μ 259 15) < 0 then gz 0 (some (some (vI 0), μ)) else gz 1 (some (some (vI 1), μ)) else gz 1 (some (some (vI 1), μ))) :=
  show Rn kc_X4_isOver 0 [some (vR 4 259)] [] μ = _ from (Rn_rc kt_X4_isOver [] 15 _ _ _ _).trans rfl
noncomputable def e_X4_meet_25 (v1 : Nat) (v2 : Int) (v3 : Int) (v4 : Int) (v5 : Int) (v6 : Int) (v7 : Int) (v8 : Int) (μ : Mem) : Option Rs := Rn kc_X4_meet 25 [some (vR 4 259), some (vR 8 v1), some (vI v2), some (vI v3), some (vI v4), some (vI v5), some (vI v6), some (vI v7), some (vI v8)] [] μ
noncomputable def e_X4_meet_80 (v1 : Nat) (v2 : Int) (v3 : Int) (v4 : Int) (v5 : Int) (v6 : Int) (o7 : Option AV) (o8 : Option AV) (μ : Mem) : Option Rs := Rn kc_X4_meet 80 [some (vR 4 259), some (vR 8 v1), some (vI v2), some (vI v3), some (vI v4), some (vI v5), some (vI v6), o7, o8] [] μ
noncomputable def e_X4_meet_178 (v1 : Nat) (o2 : Option AV) (o3 : Option AV) (o4 : Option AV) (o5 : Option AV) (v6 : Int) (o7 : Option AV) (o8 : Option AV) (s0 : Nat) (s1 : Int) (s2 : Int) (μ : Mem) : Option Rs := Rn kc_X4_meet 178 [some (vR 4 259), some (vR 8 v1), o2, o3, o4, o5, some (vI v6), o7, o8] [vI s2, vI s1, vR 20 s0] μ
set_option maxRecDepth 100000 in
set_option maxHeartbeats 2000000 in
theorem q_X4_meet (v1 : Nat) (v2 : Int) (v3 : Int) (v4 : Int) (v5 : Int) (μ : Mem) : f_X4_meet [vR 4 259, vR 8 v1, vI v2, vI v3, vI v4, vI v5] μ = (cI (f_X8_mark [vR 8 269] μ) (fun x2 μ1 => gi (bAnd x2 255) (lnC 266) (e_X4_meet_25 v1 v2 v3 v4 v5 (bAnd x2 255) (μ1 266 (bAnd x2 255).toNat) 0 μ1))) :=
  show Rn kc_X4_meet 0 [some (vR 4 259), some (vR 8 v1), some (vI v2), some (vI v3), some (vI v4), some (vI v5), none, none, none] [] μ = _ from (Rn_rc kt_X4_meet [25, 80, 178] 129 _ _ _ _).trans rfl
set_option maxRecDepth 100000 in
set_option maxHeartbeats 2000000 in
theorem q_X4_meet_25 (v1 : Nat) (v2 : Int) (v3 : Int) (v4 : Int) (v5 : Int) (v6 : Int) (v7 : Int) (v8 : Int) (μ : Mem) : e_X4_meet_25 v1 v2 v3 v4 v5 v6 v7 v8 μ = (if v8 < (μ 259 17) then if v7 < 0 then e_X4_meet_80 v1 v2 v3 v4 v5 v6 (some (vI v7)) (some (vI v8)) μ else if v7 < 250 then gi v7 (lnC 260) (cI (f_X8_same [vR 8 (271 + 2 * (v7).toNat), vR 8 269] μ) (fun x2 μ1 => if x2 = 0 then gi v7 (lnC 267) (e_X4_meet_25 v1 v2 v3 v4 v5 v6 (μ1 267 (v7).toNat) (wr (v8 + 1)) μ1) else some (none, μ1))) else e_X4_meet_80 v1 v2 v3 v4 v5 v6 (some (vI v7)) (some (vI v8)) μ else e_X4_meet_80 v1 v2 v3 v4 v5 v6 (some (vI v7)) (some (vI v8)) μ) :=
  (Rn_rc kt_X4_meet [25, 80, 178] 129 _ _ _ _).trans rfl
set_option maxRecDepth 100000 in
set_option maxHeartbeats 2000000 in
theorem q_X4_meet_80 (v1 : Nat) (v2 : Int) (v3 : Int) (v4 : Int) (v5 : Int) (v6 : Int) (o7 : Option AV) (o8 : Option AV) (μ : Mem) : e_X4_meet_80 v1 v2 v3 v4 v5 v6 o7 o8 μ = (if (μ 259 17) < 250 then gi (μ 259 17) (lnC 260) (cV (f_X8_copy [vR 8 (271 + 2 * (μ 259 17).toNat), vR 8 269] μ) (fun μ1 => gi (μ1 259 17) (lnC 261) (gi ((up μ1 261 (μ1 259 17).toNat v2) 259 17) (lnC 262) (gi ((up (up μ1 261 (μ1 259 17).toNat v2) 262 ((up μ1 261 (μ1 259 17).toNat v2) 259 17).toNat v3) 259 17) (lnC 263) (gi ((up (up (up μ1 261 (μ1 259 17).toNat v2) 262 ((up μ1 261 (μ1 259 17).toNat v2) 259 17).toNat v3) 263 ((up (up μ1 261 (μ1 259 17).toNat v2) 262 ((up μ1 261 (μ1 259 17).toNat v2) 259 17).toNat v3) 259 17).toNat v4) 259 17) (lnC 264) (if v2 < 0 then e_X4_meet_178 v1 (some (vI v2)) (some (vI v3)) (some (vI v4)) (some (vI v5)) v6 o7 o8 265 ((up (up (up (up μ1 261 (μ1 259 17).toNat v2) 262 ((up μ1 261 (μ1 259 17).toNat v2) 259 17).toNat v3) 263 ((up (up μ1 261 (μ1 259 17).toNat v2) 262 ((up μ1 261 (μ1 259 17).toNat v2) 259 17).toNat v3) 259 17).toNat v4) 264 ((up (up (up μ1 261 (μ1 259 17).toNat v2) 262 ((up μ1 261 (μ1 259 17).toNat v2) 259 17).toNat v3) 263 ((up (up μ1 261 (μ1 259 17).toNat v2) 262 ((up μ1 261 (μ1 259 17).toNat v2) 259 17).toNat v3) 259 17).toNat v4) 259 17).toNat v5) 259 17) 0 (up (up (up (up μ1 261 (μ1 259 17).toNat v2) 262 ((up μ1 261 (μ1 259 17).toNat v2) 259 17).toNat v3) 263 ((up (up μ1 261 (μ1 259 17).toNat v2) 262 ((up μ1 261 (μ1 259 17).toNat v2) 259 17).toNat v3) 259 17).toNat v4) 264 ((up (up (up μ1 261 (μ1 259 17).toNat v2) 262 ((up μ1 261 (μ1 259 17).toNat v2) 259 17).toNat v3) 263 ((up (up μ1 261 (μ1 259 17).toNat v2) 262 ((up μ1 261 (μ1 259 17).toNat v2) 259 17).toNat v3) 259 17).toNat v4) 259 17).toNat v5) else gi v2 (lnC 265) (e_X4_meet_178 v1 (some (vI v2)) (some (vI v3)) (some (vI v4)) (some (vI v5)) v6 o7 o8 265 ((up (up (up (up μ1 261 (μ1 259 17).toNat v2) 262 ((up μ1 261 (μ1 259 17).toNat v2) 259 17).toNat v3) 263 ((up (up μ1 261 (μ1 259 17).toNat v2) 262 ((up μ1 261 (μ1 259 17).toNat v2) 259 17).toNat v3) 259 17).toNat v4) 264 ((up (up (up μ1 261 (μ1 259 17).toNat v2) 262 ((up μ1 261 (μ1 259 17).toNat v2) 259 17).toNat v3) 263 ((up (up μ1 261 (μ1 259 17).toNat v2) 262 ((up μ1 261 (μ1 259 17).toNat v2) 259 17).toNat v3) 259 17).toNat v4) 259 17).toNat v5) 259 17) (wr (((up (up (up (up μ1 261 (μ1 259 17).toNat v2) 262 ((up μ1 261 (μ1 259 17).toNat v2) 259 17).toNat v3) 263 ((up (up μ1 261 (μ1 259 17).toNat v2) 262 ((up μ1 261 (μ1 259 17).toNat v2) 259 17).toNat v3) 259 17).toNat v4) 264 ((up (up (up μ1 261 (μ1 259 17).toNat v2) 262 ((up μ1 261 (μ1 259 17).toNat v2) 259 17).toNat v3) 263 ((up (up μ1 261 (μ1 259 17).toNat v2) 262 ((up μ1 261 (μ1 259 17).toNat v2) 259 17).toNat v3) 259 17).toNat v4) 259 17).toNat v5) 265 (v2).toNat) + 1)) (up (up (up (up μ1 261 (μ1 259 17).toNat v2) 262 ((up μ1 261 (μ1 259 17).toNat v2) 259 17).toNat v3) 263 ((up (up μ1 261 (μ1 259 17).toNat v2) 262 ((up μ1 261 (μ1 259 17).toNat v2) 259 17).toNat v3) 259 17).toNat v4) 264 ((up (up (up μ1 261 (μ1 259 17).toNat v2) 262 ((up μ1 261 (μ1 259 17).toNat v2) 259 17).toNat v3) 263 ((up (up μ1 261 (μ1 259 17).toNat v2) 262 ((up μ1 261 (μ1 259 17).toNat v2) 259 17).toNat v3) 259 17).toNat v4) 259 17).toNat v5)))))))) else gz 1 (some (none, up μ 259 16 1))) :=
  (Rn_rc kt_X4_meet [25, 80, 178] 129 _ _ _ _).trans rfl
set_option maxRecDepth 100000 in
set_option maxHeartbeats 2000000 in
theorem q_X4_meet_178 (v1 : Nat) (o2 : Option AV) (o3 : Option AV) (o4 : Option AV) (o5 : Option AV) (v6 : Int) (o7 : Option AV) (o8 : Option AV) (s0 : Nat) (s1 : Int) (s2 : Int) (μ : Mem) : e_X4_meet_178 v1 o2 o3 o4 o5 v6 o7 o8 s0 s1 s2 μ = (gi s1 (lnC s0) (gi v6 (lnC 266) (gi ((up μ s0 (s1).toNat s2) 259 17) (lnC 267) (gi v6 (lnC 266) (cI (f_X8_same [vR 8 269, vR 8 v1] (up (up (up μ s0 (s1).toNat s2) 267 ((up μ s0 (s1).toNat s2) 259 17).toNat ((up μ s0 (s1).toNat s2) 266 (v6).toNat)) 266 (v6).toNat ((up (up μ s0 (s1).toNat s2) 267 ((up μ s0 (s1).toNat s2) 259 17).toNat ((up μ s0 (s1).toNat s2) 266 (v6).toNat)) 259 17))) (fun x2 μ1 => if x2 = 0 then some (none, up μ1 259 17 (wr ((μ1 259 17) + 1))) else some (none, up (up μ1 259 15 (μ1 259 17)) 259 17 (wr (((up μ1 259 15 (μ1 259 17)) 259 17) + 1))))))))) :=
  (Rn_rc kt_X4_meet [25, 80, 178] 129 _ _ _ _).trans rfl
noncomputable def e_X4_tryPlaces_3 (v1 : Int) (v2 : Int) (v3 : Int) (v4 : Nat) (v5 : Int) (o6 : Option AV) (μ : Mem) : Option Rs := Rn kc_X4_tryPlaces 3 [some (vR 4 259), some (vI v1), some (vI v2), some (vI v3), some (vR 8 v4), some (vI v5), o6] [] μ
set_option maxRecDepth 100000 in
set_option maxHeartbeats 2000000 in
theorem q_X4_tryPlaces (v1 : Int) (v2 : Int) (v3 : Int) (v4 : Nat) (μ : Mem) : f_X4_tryPlaces [vR 4 259, vI v1, vI v2, vI v3, vR 8 v4] μ = (e_X4_tryPlaces_3 v1 v2 v3 v4 0 none μ) :=
  show Rn kc_X4_tryPlaces 0 [some (vR 4 259), some (vI v1), some (vI v2), some (vI v3), some (vR 8 v4), none, none] [] μ = _ from (Rn_rc kt_X4_tryPlaces [3] 44 _ _ _ _).trans rfl
set_option maxRecDepth 100000 in
set_option maxHeartbeats 2000000 in
theorem q_X4_tryPlaces_3 (v1 : Int) (v2 : Int) (v3 : Int) (v4 : Nat) (v5 : Int) (o6 : Option AV) (μ : Mem) : e_X4_tryPlaces_3 v1 v2 v3 v4 v5 o6 μ = (gi v1 (lnC 260) (if v5 < (μ (271 + 2 * (v1).toNat) 1) then cI (f_X4_isOver [vR 4 259] μ) (fun x2 μ1 => if x2 = 0 then cI (f_X6_go [vR 6 157, vI v2, vI v3, vI v5, vI (μ1 259 13), vR 8 269] μ1) (fun x4 μ3 => if x4 < 0 then e_X4_tryPlaces_3 v1 v2 v3 v4 (wr (v5 + 1)) (some (vI x4)) μ3 else if x4 ≤ (μ3 259 14) then cV (f_X4_meet [vR 4 259, vR 8 v4, vI v1, vI v2, vI v3, vI v5] μ3) (fun μ5 => e_X4_tryPlaces_3 v1 v2 v3 v4 (wr (v5 + 1)) (some (vI x4)) μ5) else e_X4_tryPlaces_3 v1 v2 v3 v4 (wr (v5 + 1)) (some (vI x4)) μ3) else some (none, μ1)) else some (none, μ))) :=
  (Rn_rc kt_X4_tryPlaces [3] 44 _ _ _ _).trans rfl
noncomputable def e_X4_goOn_15 (v1 : Int) (v2 : Nat) (v3 : Int) (μ : Mem) : Option Rs := Rn kc_X4_goOn 15 [some (vR 4 259), some (vI v1), some (vR 8 v2), some (vI v3)] [] μ
noncomputable def e_X4_goOn_59 (v1 : Int) (v2 : Nat) (v3 : Int) (μ : Mem) : Option Rs := Rn kc_X4_goOn 59 [some (vR 4 259), some (vI v1), some (vR 8 v2), some (vI v3)] [] μ
set_option maxRecDepth 100000 in
set_option maxHeartbeats 2000000 in
theorem q_X4_goOn (v1 : Int) (v2 : Nat) (μ : Mem) : f_X4_goOn [vR 4 259, vI v1, vR 8 v2] μ = (gi v1 (lnC 260) (cV (f_X6_look [vR 6 157, vR 8 (271 + 2 * (v1).toNat)] μ) (fun μ1 => e_X4_goOn_15 v1 v2 0 μ1))) :=
  show Rn kc_X4_goOn 0 [some (vR 4 259), some (vI v1), some (vR 8 v2), none] [] μ = _ from (Rn_rc kt_X4_goOn [15, 59] 55 _ _ _ _).trans rfl
set_option maxRecDepth 100000 in
set_option maxHeartbeats 2000000 in
theorem q_X4_goOn_15 (v1 : Int) (v2 : Nat) (v3 : Int) (μ : Mem) : e_X4_goOn_15 v1 v2 v3 μ = (if v3 < (μ 23 9) then cV (f_X4_tryPlaces [vR 4 259, vI v1, vI 0, vI v3, vR 8 v2] μ) (fun μ2 => cV (f_X4_tryPlaces [vR 4 259, vI v1, vI 1, vI v3, vR 8 v2] μ2) (fun μ3 => e_X4_goOn_15 v1 v2 (wr (v3 + 1)) μ3)) else cV (f_X4_tryPlaces [vR 4 259, vI v1, vI 2, vI (-4), vR 8 v2] μ) (fun μ1 => e_X4_goOn_59 v1 v2 0 μ1)) :=
  (Rn_rc kt_X4_goOn [15, 59] 55 _ _ _ _).trans rfl
set_option maxRecDepth 100000 in
set_option maxHeartbeats 2000000 in
theorem q_X4_goOn_59 (v1 : Int) (v2 : Nat) (v3 : Int) (μ : Mem) : e_X4_goOn_59 v1 v2 v3 μ = (if v3 < (μ 1 5) then cV (f_X4_tryPlaces [vR 4 259, vI v1, vI 3, vI v3, vR 8 v2] μ) (fun μ1 => e_X4_goOn_59 v1 v2 (wr (v3 + 1)) μ1) else some (none, μ)) :=
  (Rn_rc kt_X4_goOn [15, 59] 55 _ _ _ _).trans rfl
noncomputable def e_X4_run_20 (v1 : Int) (v2 : Int) (v3 : Int) (v4 : Nat) (v5 : Int) (μ : Mem) : Option Rs := Rn kc_X4_run 20 [some (vR 4 259), some (vI v1), some (vI v2), some (vI v3), some (vR 2 v4), some (vI v5)] [] μ
noncomputable def e_X4_run_101 (o1 : Option AV) (v2 : Int) (o3 : Option AV) (v4 : Nat) (v5 : Int) (μ : Mem) : Option Rs := Rn kc_X4_run 101 [some (vR 4 259), o1, some (vI v2), o3, some (vR 2 v4), some (vI v5)] [] μ
set_option maxRecDepth 100000 in
set_option maxHeartbeats 2000000 in
theorem q_X4_run (v1 : Int) (v2 : Int) (v3 : Int) (μ : Mem) : f_X4_run [vR 4 259, vI v1, vI v2, vI v3] μ = (cR 2 (f_X3_get [vR 3 23, vI v1] μ) (fun μ1 => some (some (vI (-1)), μ1)) (fun c2 μ1 => e_X4_run_20 v1 v2 v3 c2 0 μ1)) :=
  show Rn kc_X4_run 0 [some (vR 4 259), some (vI v1), some (vI v2), some (vI v3), none, none] [] μ = _ from (Rn_rc kt_X4_run [20, 101] 99 _ _ _ _).trans rfl
set_option maxRecDepth 100000 in
set_option maxHeartbeats 2000000 in
theorem q_X4_run_20 (v1 : Int) (v2 : Int) (v3 : Int) (v4 : Nat) (v5 : Int) (μ : Mem) : e_X4_run_20 v1 v2 v3 v4 v5 μ = (if v5 < 256 then gi v5 (lnC 266) (e_X4_run_20 v1 v2 v3 v4 (wr (v5 + 1)) (up μ 266 (v5).toNat (-4))) else gz 0 (cV (f_X8_copy [vR 8 269, vR 8 (v4 + 1)] (up (up (up (up (up μ 259 17 0) 259 15 (-4)) 259 16 0) 259 13 v1) 259 14 v3)) (fun μ1 => cV (f_X4_meet [vR 4 259, vR 8 (v4 + 3), vI (-4), vI (-4), vI (-4), vI (-4)] μ1) (fun μ2 => e_X4_run_101 (some (vI v1)) v2 (some (vI v3)) v4 0 μ2)))) :=
  (Rn_rc kt_X4_run [20, 101] 99 _ _ _ _).trans rfl
set_option maxRecDepth 100000 in
set_option maxHeartbeats 2000000 in
theorem q_X4_run_101 (o1 : Option AV) (v2 : Int) (o3 : Option AV) (v4 : Nat) (v5 : Int) (μ : Mem) : e_X4_run_101 o1 v2 o3 v4 v5 μ = (if v5 < (μ 259 17) then if v5 < 250 then cI (f_X4_isOver [vR 4 259] μ) (fun x2 μ1 => if x2 = 0 then gi v5 (lnC 265) (if (μ1 265 (v5).toNat) < v2 then cV (f_X4_goOn [vR 4 259, vI v5, vR 8 (v4 + 3)] μ1) (fun μ3 => e_X4_run_101 o1 v2 o3 v4 (wr (v5 + 1)) μ3) else e_X4_run_101 o1 v2 o3 v4 (wr (v5 + 1)) μ1) else if (μ1 259 16) = 0 then if (μ1 259 15) < 0 then some (some (vI (-4)), μ1) else if (μ1 259 15) < 250 then gi (μ1 259 15) (lnC 265) (some (some (vI (μ1 265 (μ1 259 15).toNat)), μ1)) else some (some (vI (-4)), μ1) else some (some (vI (-6)), μ1)) else if (μ 259 16) = 0 then if (μ 259 15) < 0 then some (some (vI (-4)), μ) else if (μ 259 15) < 250 then gi (μ 259 15) (lnC 265) (some (some (vI (μ 265 (μ 259 15).toNat)), μ)) else some (some (vI (-4)), μ) else some (some (vI (-6)), μ) else if (μ 259 16) = 0 then if (μ 259 15) < 0 then some (some (vI (-4)), μ) else if (μ 259 15) < 250 then gi (μ 259 15) (lnC 265) (some (some (vI (μ 265 (μ 259 15).toNat)), μ)) else some (some (vI (-4)), μ) else some (some (vI (-6)), μ)) :=
  (Rn_rc kt_X4_run [20, 101] 99 _ _ _ _).trans rfl
noncomputable def e_X4_layOut_8 (v1 : Int) (v2 : Nat) (v3 : Int) (v4 : Int) (o5 : Option AV) (o6 : Option AV) (μ : Mem) : Option Rs := Rn kc_X4_layOut 8 [some (vR 4 259), some (vI v1), some (vR 1 v2), some (vI v3), some (vI v4), o5, o6] [] μ
noncomputable def e_X4_layOut_60 (o1 : Option AV) (v2 : Nat) (o3 : Option AV) (o4 : Option AV) (v5 : Int) (o6 : Option AV) (μ : Mem) : Option Rs := Rn kc_X4_layOut 60 [some (vR 4 259), o1, some (vR 1 v2), o3, o4, some (vI v5), o6] [] μ
set_option maxRecDepth 100000 in
set_option maxHeartbeats 2000000 in
theorem q_X4_layOut (v1 : Int) (v2 : Nat) (μ : Mem) : f_X4_layOut [vR 4 259, vI v1, vR 1 v2] μ = (e_X4_layOut_8 v1 v2 0 (μ 259 15) none none μ) :=
  show Rn kc_X4_layOut 0 [some (vR 4 259), some (vI v1), some (vR 1 v2), none, none, none, none] [] μ = _ from (Rn_rc kt_X4_layOut [8, 60] 62 _ _ _ _).trans rfl
set_option maxRecDepth 100000 in
set_option maxHeartbeats 2000000 in
theorem q_X4_layOut_8 (v1 : Int) (v2 : Nat) (v3 : Int) (v4 : Int) (o5 : Option AV) (o6 : Option AV) (μ : Mem) : e_X4_layOut_8 v1 v2 v3 v4 o5 o6 μ = (if v4 ≤ 0 then cV (f_X1_begin [vR 1 v2, vI v1] μ) (fun μ1 => e_X4_layOut_60 (some (vI v1)) v2 (some (vI v3)) (some (vI v4)) (wr (v3 - 1)) o6 μ1) else if v4 < 250 then if v3 < 20 then gi v3 (lnC 268) (gi v4 (lnC 261) (e_X4_layOut_8 v1 v2 (wr (v3 + 1)) ((up μ 268 (v3).toNat v4) 261 (v4).toNat) o5 o6 (up μ 268 (v3).toNat v4))) else cV (f_X1_begin [vR 1 v2, vI v1] μ) (fun μ3 => e_X4_layOut_60 (some (vI v1)) v2 (some (vI v3)) (some (vI v4)) (wr (v3 - 1)) o6 μ3) else cV (f_X1_begin [vR 1 v2, vI v1] μ) (fun μ2 => e_X4_layOut_60 (some (vI v1)) v2 (some (vI v3)) (some (vI v4)) (wr (v3 - 1)) o6 μ2)) :=
  (Rn_rc kt_X4_layOut [8, 60] 62 _ _ _ _).trans rfl
set_option maxRecDepth 100000 in
set_option maxHeartbeats 2000000 in
theorem q_X4_layOut_60 (o1 : Option AV) (v2 : Nat) (o3 : Option AV) (o4 : Option AV) (v5 : Int) (o6 : Option AV) (μ : Mem) : e_X4_layOut_60 o1 v2 o3 o4 v5 o6 μ = (if v5 < 0 then some (none, μ) else gi v5 (lnC 268) (gi (μ 268 (v5).toNat) (lnC 262) (gi (μ 268 (v5).toNat) (lnC 263) (gi (μ 268 (v5).toNat) (lnC 264) (cI (f_X1_go [vR 1 v2, vI (μ 262 (μ 268 (v5).toNat).toNat), vI (μ 263 (μ 268 (v5).toNat).toNat), vI (μ 264 (μ 268 (v5).toNat).toNat)] μ) (fun x2 μ1 => e_X4_layOut_60 o1 v2 o3 (kl o4) (wr (v5 + (-1))) (some (vI (μ 268 (v5).toNat))) μ1)))))) :=
  (Rn_rc kt_X4_layOut [8, 60] 62 _ _ _ _).trans rfl
noncomputable def e_X0_firstWord_2 (v1 : Nat) (o2 : Option AV) (v3 : Int) (μ : Mem) : Option Rs := Rn kc_X0_firstWord 2 [some (vR 0 780), some (vR 8 v1), o2, some (vI v3)] [] μ
set_option maxRecDepth 100000 in
set_option maxHeartbeats 2000000 in
theorem q_X0_firstWord (v1 : Nat) (v2 : Int) (μ : Mem) : f_X0_firstWord [vR 0 780, vR 8 v1, vI v2] μ = (e_X0_firstWord_2 v1 (some (vI v2)) v2 μ) :=
  show Rn kc_X0_firstWord 0 [some (vR 0 780), some (vR 8 v1), some (vI v2), none] [] μ = _ from (Rn_rc kt_X0_firstWord [2] 24 _ _ _ _).trans rfl
set_option maxRecDepth 100000 in
set_option maxHeartbeats 2000000 in
theorem q_X0_firstWord_2 (v1 : Nat) (o2 : Option AV) (v3 : Int) (μ : Mem) : e_X0_firstWord_2 v1 o2 v3 μ = (if v3 < (μ v1 1) then cI (f_X8_at [vR 8 v1, vI v3] μ) (fun x2 μ1 => cI (f_X9_numberOf [vR 9 1, vI x2] μ1) (fun x4 μ3 => if x4 < 0 then e_X0_firstWord_2 v1 (kl o2) (wr (v3 + 1)) μ3 else some (some (vI v3), μ3))) else some (some (vI (-4)), μ)) :=
  (Rn_rc kt_X0_firstWord [2] 24 _ _ _ _).trans rfl
noncomputable def e_X0_putIn_95 (v1 : Nat) (v2 : Int) (o3 : Option AV) (v4 : Nat) (v5 : Int) (v6 : Int) (v7 : Int) (v8 : Int) (o9 : Option AV) (μ : Mem) : Option Rs := Rn kc_X0_putIn 95 [some (vR 0 780), some (vR 8 v1), some (vI v2), o3, some (vR 8 v4), some (vI v5), some (vI v6), some (vI v7), some (vI v8), o9] [] μ
noncomputable def e_X0_putIn_185 (v1 : Nat) (o2 : Option AV) (o3 : Option AV) (o4 : Option AV) (o5 : Option AV) (v6 : Int) (v7 : Int) (o8 : Option AV) (o9 : Option AV) (μ : Mem) : Option Rs := Rn kc_X0_putIn 185 [some (vR 0 780), some (vR 8 v1), o2, o3, o4, o5, some (vI v6), some (vI v7), o8, o9] [] μ
set_option maxRecDepth 100000 in
set_option maxHeartbeats 2000000 in
theorem q_X0_putIn (v1 : Nat) (v2 : Int) (μ : Mem) : f_X0_putIn [vR 0 780, vR 8 v1, vI v2] μ = (cI (f_X8_at [vR 8 v1, vI v2] μ) (fun x2 μ1 => cI (f_X9_numberOf [vR 9 1, vI x2] μ1) (fun x4 μ3 => cR 8 (f_X9_meaningOf [vR 9 1, vI x4] μ3) (fun μ5 => gz 0 (some (some (vI 0), μ5))) (fun c6 μ5 => cI (f_X9_endOf [vR 9 1, vR 8 v1, vI (wr (v2 + 1))] μ5) (fun x8 μ7 => cI (f_X9_needOf [vR 9 1, vI x4] μ7) (fun x10 μ9 => if x10 = 2 then cI (f_X9_endOf [vR 9 1, vR 8 v1, vI x8] μ9) (fun x14 μ13 => cI (f_X8_addPart [vR 8 793, vR 8 v1, vI 0, vI v2] (up μ13 793 1 0)) (fun x16 μ15 => e_X0_putIn_95 v1 v2 (some (vI x4)) c6 x8 x14 x16 0 none μ15)) else cI (f_X8_addPart [vR 8 793, vR 8 v1, vI 0, vI v2] (up μ9 793 1 0)) (fun x12 μ11 => e_X0_putIn_95 v1 v2 (some (vI x4)) c6 x8 x8 x12 0 none μ11))))))) :=
  show Rn kc_X0_putIn 0 [some (vR 0 780), some (vR 8 v1), some (vI v2), none, none, none, none, none, none, none] [] μ = _ from (Rn_rc kt_X0_putIn [95, 185] 119 _ _ _ _).trans rfl
set_option maxRecDepth 100000 in
set_option maxHeartbeats 2000000 in
theorem q_X0_putIn_95 (v1 : Nat) (v2 : Int) (o3 : Option AV) (v4 : Nat) (v5 : Int) (v6 : Int) (v7 : Int) (v8 : Int) (o9 : Option AV) (μ : Mem) : e_X0_putIn_95 v1 v2 o3 v4 v5 v6 v7 v8 o9 μ = (if v8 < (μ v4 1) then if v7 = 0 then e_X0_putIn_185 v1 (some (vI v2)) o3 (some (vR 8 v4)) (some (vI v5)) v6 v7 (some (vI v8)) o9 μ else cI (f_X8_at [vR 8 v4, vI v8] μ) (fun x2 μ1 => if x2 = 23 then cI (f_X8_addPart [vR 8 793, vR 8 v1, vI (wr (v2 + 1)), vI v5] μ1) (fun x8 μ7 => e_X0_putIn_95 v1 v2 o3 v4 v5 v6 x8 (wr (v8 + 1)) (some (vI x2)) μ7) else if x2 = 24 then cI (f_X8_addPart [vR 8 793, vR 8 v1, vI v5, vI v6] μ1) (fun x6 μ5 => e_X0_putIn_95 v1 v2 o3 v4 v5 v6 x6 (wr (v8 + 1)) (some (vI x2)) μ5) else cI (f_X8_add [vR 8 793, vI x2] μ1) (fun x4 μ3 => e_X0_putIn_95 v1 v2 o3 v4 v5 v6 x4 (wr (v8 + 1)) (some (vI x2)) μ3)) else e_X0_putIn_185 v1 (some (vI v2)) o3 (some (vR 8 v4)) (some (vI v5)) v6 v7 (some (vI v8)) o9 μ) :=
  (Rn_rc kt_X0_putIn [95, 185] 119 _ _ _ _).trans rfl
set_option maxRecDepth 100000 in
set_option maxHeartbeats 2000000 in
theorem q_X0_putIn_185 (v1 : Nat) (o2 : Option AV) (o3 : Option AV) (o4 : Option AV) (o5 : Option AV) (v6 : Int) (v7 : Int) (o8 : Option AV) (o9 : Option AV) (μ : Mem) : e_X0_putIn_185 v1 o2 o3 o4 o5 v6 v7 o8 o9 μ = (if v7 = 0 then gz 0 (some (some (vI 0), μ)) else cI (f_X8_addPart [vR 8 793, vR 8 v1, vI v6, vI (μ v1 1)] μ) (fun x2 μ1 => if x2 = 0 then gz 0 (some (some (vI 0), μ1)) else cV (f_X8_copy [vR 8 v1, vR 8 793] μ1) (fun μ3 => gz 1 (some (some (vI 1), μ3))))) :=
  (Rn_rc kt_X0_putIn [95, 185] 119 _ _ _ _).trans rfl
noncomputable def e_X0_putAllIn_9 (v1 : Nat) (v2 : Int) (v3 : Int) (μ : Mem) : Option Rs := Rn kc_X0_putAllIn 9 [some (vR 0 780), some (vR 8 v1), some (vI v2), some (vI v3)] [] μ
set_option maxRecDepth 100000 in
set_option maxHeartbeats 2000000 in
theorem q_X0_putAllIn (v1 : Nat) (μ : Mem) : f_X0_putAllIn [vR 0 780, vR 8 v1] μ = (cI (f_X0_firstWord [vR 0 780, vR 8 v1, vI 0] μ) (fun x2 μ1 => e_X0_putAllIn_9 v1 x2 0 μ1)) :=
  show Rn kc_X0_putAllIn 0 [some (vR 0 780), some (vR 8 v1), none, none] [] μ = _ from (Rn_rc kt_X0_putAllIn [9] 37 _ _ _ _).trans rfl
set_option maxRecDepth 100000 in
set_option maxHeartbeats 2000000 in
theorem q_X0_putAllIn_9 (v1 : Nat) (v2 : Int) (v3 : Int) (μ : Mem) : e_X0_putAllIn_9 v1 v2 v3 μ = (if v3 < 400 then if v2 < 0 then if v2 < 0 then gz 1 (some (some (vI 1), μ)) else gz 0 (some (some (vI 0), μ)) else cI (f_X0_putIn [vR 0 780, vR 8 v1, vI v2] μ) (fun x2 μ1 => if x2 = 0 then gz 0 (some (some (vI 0), μ1)) else cI (f_X0_firstWord [vR 0 780, vR 8 v1, vI v2] μ1) (fun x4 μ3 => e_X0_putAllIn_9 v1 x4 (wr (v3 + 1)) μ3)) else if v2 < 0 then gz 1 (some (some (vI 1), μ)) else gz 0 (some (some (vI 0), μ))) :=
  (Rn_rc kt_X0_putAllIn [9] 37 _ _ _ _).trans rfl
set_option maxRecDepth 100000 in
set_option maxHeartbeats 2000000 in
theorem q_X0_makeReady (v1 : Int) (v2 : Nat) (v3 : Nat) (μ : Mem) : f_X0_makeReady [vR 0 780, vI v1, vR 8 v2, vR 8 v3] μ = (cR 2 (f_X3_get [vR 3 23, vI v1] μ) (fun μ1 => gz 0 (some (some (vI 0), μ1))) (fun c2 μ1 => cV (f_X8_copy [vR 8 v2, vR 8 (c2 + 1)] μ1) (fun μ3 => cV (f_X8_copy [vR 8 v3, vR 8 (c2 + 3)] μ3) (fun μ4 => if (bAnd (μ4 780 10) 4) = 0 then gz 1 (some (some (vI 1), μ4)) else cI (f_X0_putAllIn [vR 0 780, vR 8 v2] μ4) (fun x6 μ5 => if x6 = 0 then gz 0 (some (some (vI 0), μ5)) else cI (f_X0_putAllIn [vR 0 780, vR 8 v3] μ5) (fun x8 μ7 => if x8 = 0 then gz 0 (some (some (vI 0), μ7)) else gz 1 (some (some (vI 1), μ7)))))))) :=
  show Rn kc_X0_makeReady 0 [some (vR 0 780), some (vI v1), some (vR 8 v2), some (vR 8 v3), none] [] μ = _ from (Rn_rc kt_X0_makeReady [] 39 _ _ _ _).trans rfl
set_option maxRecDepth 100000 in
set_option maxHeartbeats 2000000 in
theorem q_X0_begin (v1 : Int) (v2 : Int) (μ : Mem) : f_X0_begin [vR 0 780, vI v1, vI v2] μ = (cI (f_X0_makeReady [vR 0 780, vI v1, vR 8 781, vR 8 783] (up μ 780 10 v2)) (fun x2 μ1 => gz x2 (some (some (vI x2), μ1)))) :=
  show Rn kc_X0_begin 0 [some (vR 0 780), some (vI v1), some (vI v2)] [] μ = _ from (Rn_rc kt_X0_begin [] 16 _ _ _ _).trans rfl
noncomputable def e_X0_rename_8 (o0 : Option AV) (v1 : Nat) (v2 : Int) (v3 : Nat) (v4 : Int) (o5 : Option AV) (o6 : Option AV) (o7 : Option AV) (μ : Mem) : Option Rs := Rn kc_X0_rename 8 [o0, some (vR 8 v1), some (vI v2), some (vR 8 v3), some (vI v4), o5, o6, o7] [] μ
set_option maxRecDepth 100000 in
set_option maxHeartbeats 2000000 in
theorem q_X0_rename (v1 : Nat) (v2 : Int) (v3 : Nat) (μ : Mem) : f_X0_rename [vR 0 780, vR 8 v1, vI v2, vR 8 v3] μ = (e_X0_rename_8 (some (vR 0 780)) v1 v2 v3 0 none none none (up μ v3 1 0)) :=
  show Rn kc_X0_rename 0 [some (vR 0 780), some (vR 8 v1), some (vI v2), some (vR 8 v3), none, none, none, none] [] μ = _ from (Rn_rc kt_X0_rename [8] 52 _ _ _ _).trans rfl
set_option maxRecDepth 100000 in
set_option maxHeartbeats 2000000 in
theorem q_X0_rename_8 (o0 : Option AV) (v1 : Nat) (v2 : Int) (v3 : Nat) (v4 : Int) (o5 : Option AV) (o6 : Option AV) (o7 : Option AV) (μ : Mem) : e_X0_rename_8 o0 v1 v2 v3 v4 o5 o6 o7 μ = (if v4 < (μ v1 1) then cI (f_X8_at [vR 8 v1, vI v4] μ) (fun x2 μ1 => if x2 < 23 then cI (f_X8_add [vR 8 v3, vI x2] μ1) (fun x4 μ3 => e_X0_rename_8 o0 v1 v2 v3 (wr (v4 + 1)) (some (vI x2)) (some (vI (wr ((wr (v2 + x2)) - 23)))) (some (vI 0)) μ3) else if (wr ((wr (v2 + x2)) - 23)) < 0 then cI (f_X8_add [vR 8 v3, vI x2] μ1) (fun x6 μ5 => e_X0_rename_8 o0 v1 v2 v3 (wr (v4 + 1)) (some (vI x2)) (some (vI (wr ((wr (v2 + x2)) - 23)))) (some (vI 0)) μ5) else if (wr ((wr (v2 + x2)) - 23)) < ((sLn 4 : Nat) : Int) then gi (wr ((wr (v2 + x2)) - 23)) (sLn 4) (cI (f_X8_add [vR 8 v3, vI (wr (23 + (sCt 4 (wr ((wr (v2 + x2)) - 23)).toNat)))] μ1) (fun x10 μ9 => e_X0_rename_8 o0 v1 v2 v3 (wr (v4 + 1)) (some (vI x2)) (some (vI (wr ((wr (v2 + x2)) - 23)))) (some (vI 1)) μ9)) else cI (f_X8_add [vR 8 v3, vI x2] μ1) (fun x8 μ7 => e_X0_rename_8 o0 v1 v2 v3 (wr (v4 + 1)) (some (vI x2)) (some (vI (wr ((wr (v2 + x2)) - 23)))) (some (vI 0)) μ7)) else some (none, μ)) :=
  (Rn_rc kt_X0_rename [8] 52 _ _ _ _).trans rfl
noncomputable def e_X0_changeMates_34 (v1 : Nat) (v2 : Int) (o3 : Option AV) (o4 : Option AV) (v5 : Int) (μ : Mem) : Option Rs := Rn kc_X0_changeMates 34 [some (vR 0 780), some (vR 8 v1), some (vI v2), o3, o4, some (vI v5)] [] μ
set_option maxRecDepth 100000 in
set_option maxHeartbeats 2000000 in
theorem q_X0_changeMates (v1 : Nat) (v2 : Int) (v3 : Int) (v4 : Int) (μ : Mem) : f_X0_changeMates [vR 0 780, vR 8 v1, vI v2, vI v3, vI v4] μ = (cI (f_X8_addPart [vR 8 793, vR 8 v1, vI v3, vI v4] (up μ 793 1 0)) (fun x2 μ1 => cI (f_X8_addPart [vR 8 793, vR 8 v1, vI v2, vI v3] μ1) (fun x4 μ3 => e_X0_changeMates_34 v1 v2 (some (vI v3)) (some (vI v4)) 0 μ3))) :=
  show Rn kc_X0_changeMates 0 [some (vR 0 780), some (vR 8 v1), some (vI v2), some (vI v3), some (vI v4), none] [] μ = _ from (Rn_rc kt_X0_changeMates [34] 42 _ _ _ _).trans rfl
set_option maxRecDepth 100000 in
set_option maxHeartbeats 2000000 in
theorem q_X0_changeMates_34 (v1 : Nat) (v2 : Int) (o3 : Option AV) (o4 : Option AV) (v5 : Int) (μ : Mem) : e_X0_changeMates_34 v1 v2 o3 o4 v5 μ = (if v5 < (μ 793 1) then cI (f_X8_at [vR 8 793, vI v5] μ) (fun x2 μ1 => cV (f_X8_set [vR 8 v1, vI (wr (v2 + v5)), vI x2] μ1) (fun μ3 => e_X0_changeMates_34 v1 v2 o3 (kl o4) (wr (v5 + 1)) μ3)) else some (none, μ)) :=
  (Rn_rc kt_X0_changeMates [34] 42 _ _ _ _).trans rfl
noncomputable def e_X0_comesLater_3 (o0 : Option AV) (v1 : Nat) (v2 : Int) (v3 : Int) (v4 : Int) (v5 : Int) (o6 : Option AV) (o7 : Option AV) (μ : Mem) : Option Rs := Rn kc_X0_comesLater 3 [o0, some (vR 8 v1), some (vI v2), some (vI v3), some (vI v4), some (vI v5), o6, o7] [] μ
set_option maxRecDepth 100000 in
set_option maxHeartbeats 2000000 in
theorem q_X0_comesLater (v1 : Nat) (v2 : Int) (v3 : Int) (v4 : Int) (μ : Mem) : f_X0_comesLater [vR 0 780, vR 8 v1, vI v2, vI v3, vI v4] μ = (e_X0_comesLater_3 (some (vR 0 780)) v1 v2 v3 v4 0 none none μ) :=
  show Rn kc_X0_comesLater 0 [some (vR 0 780), some (vR 8 v1), some (vI v2), some (vI v3), some (vI v4), none, none, none] [] μ = _ from (Rn_rc kt_X0_comesLater [3] 43 _ _ _ _).trans rfl
set_option maxRecDepth 100000 in
set_option maxHeartbeats 2000000 in
theorem q_X0_comesLater_3 (o0 : Option AV) (v1 : Nat) (v2 : Int) (v3 : Int) (v4 : Int) (v5 : Int) (o6 : Option AV) (o7 : Option AV) (μ : Mem) : e_X0_comesLater_3 o0 v1 v2 v3 v4 v5 o6 o7 μ = (if (wr (v2 + v5)) < v3 then if (wr (v3 + v5)) < v4 then cI (f_X8_at [vR 8 v1, vI (wr (v2 + v5))] μ) (fun x2 μ1 => cI (f_X8_at [vR 8 v1, vI (wr (v3 + v5))] μ1) (fun x4 μ3 => if x2 = x4 then e_X0_comesLater_3 o0 v1 v2 v3 v4 (wr (v5 + 1)) (some (vI x2)) (some (vI x4)) μ3 else if x2 ≤ x4 then gz 0 (some (some (vI 0), μ3)) else gz 1 (some (some (vI 1), μ3)))) else gz 0 (some (some (vI 0), μ)) else gz 0 (some (some (vI 0), μ))) :=
  (Rn_rc kt_X0_comesLater [3] 43 _ _ _ _).trans rfl
set_option maxRecDepth 100000 in
set_option maxHeartbeats 2000000 in
theorem q_X0_endAt (v1 : Nat) (v2 : Int) (μ : Mem) : f_X0_endAt [vR 0 780, vR 8 v1, vI v2] μ = (if v2 < 0 then some (some (vI (μ v1 1)), μ) else if v2 < (μ v1 1) then if v2 < 200 then gi v2 (lnC 795) (some (some (vI (μ 795 (v2).toNat)), μ)) else some (some (vI (μ v1 1)), μ) else some (some (vI (μ v1 1)), μ)) :=
  show Rn kc_X0_endAt 0 [some (vR 0 780), some (vR 8 v1), some (vI v2)] [] μ = _ from (Rn_rc kt_X0_endAt [] 22 _ _ _ _).trans rfl
noncomputable def e_X0_sortMates_23 (v1 : Nat) (v2 : Int) (o3 : Option AV) (o4 : Option AV) (o5 : Option AV) (μ : Mem) : Option Rs := Rn kc_X0_sortMates 23 [some (vR 0 780), some (vR 8 v1), some (vI v2), o3, o4, o5] [] μ
noncomputable def e_X0_sortMates_59 (v1 : Nat) (v2 : Int) (v3 : Int) (o4 : Option AV) (o5 : Option AV) (s0 : Int) (μ : Mem) : Option Rs := Rn kc_X0_sortMates 59 [some (vR 0 780), some (vR 8 v1), some (vI v2), some (vI v3), o4, o5] [vI s0] μ
noncomputable def e_X0_sortMates_78 (v1 : Nat) (v2 : Int) (o3 : Option AV) (v4 : Int) (o5 : Option AV) (s0 : Int) (μ : Mem) : Option Rs := Rn kc_X0_sortMates 78 [some (vR 0 780), some (vR 8 v1), some (vI v2), o3, some (vI v4), o5] [vI s0] μ
set_option maxRecDepth 100000 in
set_option maxHeartbeats 2000000 in
theorem q_X0_sortMates (v1 : Nat) (μ : Mem) : f_X0_sortMates [vR 0 780, vR 8 v1] μ = (if (bAnd (μ 780 10) 2) = 0 then some (none, μ) else e_X0_sortMates_23 v1 (wr ((mMin (μ v1 1) 200) - 1)) none none none μ) :=
  show Rn kc_X0_sortMates 0 [some (vR 0 780), some (vR 8 v1), none, none, none, none] [] μ = _ from (Rn_rc kt_X0_sortMates [23, 59, 78] 81 _ _ _ _).trans rfl
set_option maxRecDepth 100000 in
set_option maxHeartbeats 2000000 in
theorem q_X0_sortMates_23 (v1 : Nat) (v2 : Int) (o3 : Option AV) (o4 : Option AV) (o5 : Option AV) (μ : Mem) : e_X0_sortMates_23 v1 v2 o3 o4 o5 μ = (if v2 < 0 then some (none, μ) else cI (f_X8_at [vR 8 v1, vI v2] μ) (fun x2 μ1 => cI (f_X9_behind [vR 9 1, vI x2] μ1) (fun x4 μ3 => if x4 < 1 then e_X0_sortMates_59 v1 v2 x4 o4 o5 (wr (v2 + 1)) μ3 else cI (f_X0_endAt [vR 0 780, vR 8 v1, vI (wr (v2 + 1))] μ3) (fun x6 μ5 => e_X0_sortMates_59 v1 v2 x4 o4 o5 x6 μ5)))) :=
  (Rn_rc kt_X0_sortMates [23, 59, 78] 81 _ _ _ _).trans rfl
set_option maxRecDepth 100000 in
set_option maxHeartbeats 2000000 in
theorem q_X0_sortMates_59 (v1 : Nat) (v2 : Int) (v3 : Int) (o4 : Option AV) (o5 : Option AV) (s0 : Int) (μ : Mem) : e_X0_sortMates_59 v1 v2 v3 o4 o5 s0 μ = (if v3 = 2 then cI (f_X0_endAt [vR 0 780, vR 8 v1, vI s0] μ) (fun x2 μ1 => e_X0_sortMates_78 v1 v2 (some (vI v3)) s0 o5 x2 μ1) else e_X0_sortMates_78 v1 v2 (some (vI v3)) s0 o5 s0 μ) :=
  (Rn_rc kt_X0_sortMates [23, 59, 78] 81 _ _ _ _).trans rfl
set_option maxRecDepth 100000 in
set_option maxHeartbeats 2000000 in
theorem q_X0_sortMates_78 (v1 : Nat) (v2 : Int) (o3 : Option AV) (v4 : Int) (o5 : Option AV) (s0 : Int) (μ : Mem) : e_X0_sortMates_78 v1 v2 o3 v4 o5 s0 μ = (gi v2 (lnC 795) (cI (f_X8_at [vR 8 v1, vI v2] (up μ 795 (v2).toNat s0)) (fun x2 μ1 => if x2 = 12 then cI (f_X0_comesLater [vR 0 780, vR 8 v1, vI (wr (v2 + 1)), vI v4, vI s0] μ1) (fun x4 μ3 => if x4 = 0 then e_X0_sortMates_23 v1 (wr (v2 + (-1))) o3 (some (vI v4)) (some (vI s0)) μ3 else cV (f_X0_changeMates [vR 0 780, vR 8 v1, vI (wr (v2 + 1)), vI v4, vI s0] μ3) (fun μ5 => e_X0_sortMates_23 v1 (wr (v2 + (-1))) o3 (some (vI v4)) (some (vI s0)) μ5)) else e_X0_sortMates_23 v1 (wr (v2 + (-1))) o3 (some (vI v4)) (some (vI s0)) μ1))) :=
  (Rn_rc kt_X0_sortMates [23, 59, 78] 81 _ _ _ _).trans rfl
noncomputable def e_X0_isLike_69 (o1 : Option AV) (v2 : Int) (μ : Mem) : Option Rs := Rn kc_X0_isLike 69 [some (vR 0 780), o1, some (vI v2)] [] μ
noncomputable def e_X0_isLike_151 (o1 : Option AV) (v2 : Int) (μ : Mem) : Option Rs := Rn kc_X0_isLike 151 [some (vR 0 780), o1, some (vI v2)] [] μ
set_option maxRecDepth 100000 in
set_option maxHeartbeats 2000000 in
theorem q_X0_isLike (v1 : Int) (μ : Mem) : f_X0_isLike [vR 0 780, vI v1] μ = (cI (f_X0_makeReady [vR 0 780, vI v1, vR 8 785, vR 8 787] μ) (fun x2 μ1 => if x2 = 0 then gz 0 (some (some (vI 0), μ1)) else if (wr ((μ1 781 1) + (μ1 783 1))) = (wr ((μ1 785 1) + (μ1 787 1))) then cV (f_X0_sortMates [vR 0 780, vR 8 785] μ1) (fun μ3 => cV (f_X0_sortMates [vR 0 780, vR 8 787] μ3) (fun μ4 => e_X0_isLike_69 (some (vI v1)) 0 μ4)) else gz 0 (some (some (vI 0), μ1)))) :=
  show Rn kc_X0_isLike 0 [some (vR 0 780), some (vI v1), none] [] μ = _ from (Rn_rc kt_X0_isLike [69, 151] 105 _ _ _ _).trans rfl
set_option maxRecDepth 100000 in
set_option maxHeartbeats 2000000 in
theorem q_X0_isLike_69 (o1 : Option AV) (v2 : Int) (μ : Mem) : e_X0_isLike_69 o1 v2 μ = (if (wr (v2 + 3)) ≤ ((sLn 4 : Nat) : Int) then cV (f_X0_rename [vR 0 780, vR 8 781, vI v2, vR 8 789] μ) (fun μ1 => cV (f_X0_rename [vR 0 780, vR 8 783, vI v2, vR 8 791] μ1) (fun μ2 => cV (f_X0_sortMates [vR 0 780, vR 8 789] μ2) (fun μ3 => cV (f_X0_sortMates [vR 0 780, vR 8 791] μ3) (fun μ4 => cI (f_X8_same [vR 8 789, vR 8 785] μ4) (fun x6 μ5 => if x6 = 0 then e_X0_isLike_151 o1 v2 μ5 else cI (f_X8_same [vR 8 791, vR 8 787] μ5) (fun x8 μ7 => if x8 = 0 then e_X0_isLike_151 o1 v2 μ7 else gz 1 (some (some (vI 1), μ7)))))))) else gz 0 (some (some (vI 0), μ))) :=
  (Rn_rc kt_X0_isLike [69, 151] 105 _ _ _ _).trans rfl
set_option maxRecDepth 100000 in
set_option maxHeartbeats 2000000 in
theorem q_X0_isLike_151 (o1 : Option AV) (v2 : Int) (μ : Mem) : e_X0_isLike_151 o1 v2 μ = (if (bAnd (μ 780 10) 1) = 0 then e_X0_isLike_69 (kl o1) (wr (v2 + 3)) μ else cI (f_X8_same [vR 8 789, vR 8 787] μ) (fun x2 μ1 => if x2 = 0 then e_X0_isLike_69 (kl o1) (wr (v2 + 3)) μ1 else cI (f_X8_same [vR 8 791, vR 8 785] μ1) (fun x4 μ3 => if x4 = 0 then e_X0_isLike_69 (kl o1) (wr (v2 + 3)) μ3 else gz 1 (some (some (vI 1), μ3))))) :=
  (Rn_rc kt_X0_isLike [69, 151] 105 _ _ _ _).trans rfl
noncomputable def e_X0_allLike_16 (v1 : Int) (o2 : Option AV) (v3 : Int) (v4 : Int) (μ : Mem) : Option Rs := Rn kc_X0_allLike 16 [some (vR 0 780), some (vI v1), o2, some (vI v3), some (vI v4)] [] μ
set_option maxRecDepth 100000 in
set_option maxHeartbeats 2000000 in
theorem q_X0_allLike (v1 : Int) (v2 : Int) (μ : Mem) : f_X0_allLike [vR 0 780, vI v1, vI v2] μ = (cI (f_X0_begin [vR 0 780, vI v1, vI v2] μ) (fun x2 μ1 => if x2 = 0 then some (some (vI 0), μ1) else e_X0_allLike_16 v1 (some (vI v2)) 0 0 μ1)) :=
  show Rn kc_X0_allLike 0 [some (vR 0 780), some (vI v1), some (vI v2), none, none] [] μ = _ from (Rn_rc kt_X0_allLike [16] 38 _ _ _ _).trans rfl
set_option maxRecDepth 100000 in
set_option maxHeartbeats 2000000 in
theorem q_X0_allLike_16 (v1 : Int) (o2 : Option AV) (v3 : Int) (v4 : Int) (μ : Mem) : e_X0_allLike_16 v1 o2 v3 v4 μ = (if v4 < (μ 23 9) then if v4 = v1 then e_X0_allLike_16 v1 o2 v3 (wr (v4 + 1)) μ else cI (f_X0_isLike [vR 0 780, vI v4] μ) (fun x2 μ1 => if x2 = 0 then e_X0_allLike_16 v1 o2 v3 (wr (v4 + 1)) μ1 else e_X0_allLike_16 v1 (kl o2) (bOr v3 (bShl 1 v4)) (wr (v4 + 1)) μ1) else some (some (vI v3), μ)) :=
  (Rn_rc kt_X0_allLike [16] 38 _ _ _ _).trans rfl
