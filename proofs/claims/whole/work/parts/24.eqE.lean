set_option maxRecDepth 100000 in
set_option maxHeartbeats 2000000 in
theorem q_X11_feed (v1 : Int) (μ : Mem) : f_X11_feed [vR 11 0, vL v1] μ = (cI (f_X7_append [vR 7 151, vL v1] μ) (fun x2 μ1 => if x2 = 0 then some (some (vI (-3)), μ1) else some (some (vI (μ1 151 8)), μ1))) :=
  show Rn kc_X11_feed 0 [some (vR 11 0), some (vL v1), none] [] μ = _ from (Rn_rc kt_X11_feed [] 16 _ _ _ _).trans rfl
set_option maxRecDepth 100000 in
set_option maxHeartbeats 2000000 in
theorem q_X11_end (v1 : Int) (μ : Mem) : f_X11_end [vR 11 0, vI v1] μ = (if v1 < 0 then some (some (vI (-1)), μ) else if v1 ≤ (μ 151 8) then some (some (vI (μ 151 8)), up μ 151 8 v1) else some (some (vI (-1)), μ)) :=
  show Rn kc_X11_end 0 [some (vR 11 0), some (vI v1), none] [] μ = _ from (Rn_rc kt_X11_end [] 24 _ _ _ _).trans rfl
set_option maxRecDepth 100000 in
set_option maxHeartbeats 2000000 in
theorem q_X11_text  (μ : Mem) : f_X11_text [vR 11 0] μ = (cI (f_X7_tellLines [vR 7 151, vI (μ 0 9), vI (μ 0 10)] μ) (fun x2 μ1 => some (some (vI x2), μ1))) :=
  show Rn kc_X11_text 0 [some (vR 11 0)] [] μ = _ from (Rn_rc kt_X11_text [] 13 _ _ _ _).trans rfl
set_option maxRecDepth 100000 in
set_option maxHeartbeats 2000000 in
theorem q_X11_fault  (μ : Mem) : f_X11_fault [vR 11 0] μ = (some (some (vI (μ 151 9)), μ)) :=
  show Rn kc_X11_fault 0 [some (vR 11 0)] [] μ = _ from (Rn_rc kt_X11_fault [] 9 _ _ _ _).trans rfl
set_option maxRecDepth 100000 in
set_option maxHeartbeats 2000000 in
theorem q_X11_hand (v1 : Int) (μ : Mem) : f_X11_hand [vR 11 0, vI v1] μ = (if v1 < 0 then some (some (vI (-1)), μ) else if v1 ≤ 9 then some (some (vI (μ 0 9)), up μ 0 9 v1) else some (some (vI (-1)), μ)) :=
  show Rn kc_X11_hand 0 [some (vR 11 0), some (vI v1), none] [] μ = _ from (Rn_rc kt_X11_hand [] 20 _ _ _ _).trans rfl
set_option maxRecDepth 100000 in
set_option maxHeartbeats 2000000 in
theorem q_X11_day (v1 : Int) (μ : Mem) : f_X11_day [vR 11 0, vI v1] μ = (if v1 < (μ 0 10) then some (some (vI (-1)), μ) else if v1 ≤ 999 then some (some (vI (μ 0 10)), up μ 0 10 v1) else some (some (vI (-1)), μ)) :=
  show Rn kc_X11_day 0 [some (vR 11 0), some (vI v1), none] [] μ = _ from (Rn_rc kt_X11_day [] 22 _ _ _ _).trans rfl
set_option maxRecDepth 100000 in
set_option maxHeartbeats 2000000 in
theorem q_X11_of (v1 : Int) (v2 : Int) (μ : Mem) : f_X11_of [vR 11 0, vI v1, vI v2] μ = (cR 2 (f_X3_get [vR 3 23, vI v1] μ) (fun μ1 => some (some (vI (-1)), μ1)) (fun c2 μ1 => if v2 = 0 then some (some (vI (μ1 c2 2)), μ1) else if v2 = 1 then some (some (vI (μ1 c2 3)), μ1) else if v2 = 2 then some (some (vI (μ1 c2 4)), μ1) else if v2 = 3 then some (some (vI (μ1 (c2 + 1) 1)), μ1) else if v2 = 4 then some (some (vI (μ1 (c2 + 3) 1)), μ1) else if v2 = 5 then some (some (vI (μ1 c2 6)), μ1) else if v2 = 6 then if (μ1 c2 2) = 3 then some (some (vI (μ1 c2 7)), μ1) else some (some (vI (-4)), μ1) else if v2 = 7 then cI (f_X3_underOf [vR 3 23, vI v1] μ1) (fun x4 μ3 => cI (f_J6_bitCount_0f7a4 [vI x4] μ3) (fun x6 μ5 => some (some (vI x6), μ5))) else if v2 = 8 then cI (f_X3_overOf [vR 3 23, vI v1] μ1) (fun x8 μ7 => cI (f_J6_bitCount_0f7a4 [vI x8] μ7) (fun x10 μ9 => some (some (vI x10), μ9))) else some (some (vI (-1)), μ1))) :=
  show Rn kc_X11_of 0 [some (vR 11 0), some (vI v1), some (vI v2), none] [] μ = _ from (Rn_rc kt_X11_of [] 59 _ _ _ _).trans rfl
set_option maxRecDepth 100000 in
set_option maxHeartbeats 2000000 in
theorem q_X11_sign (v1 : Int) (v2 : Int) (v3 : Int) (μ : Mem) : f_X11_sign [vR 11 0, vI v1, vI v2, vI v3] μ = (cR 2 (f_X3_get [vR 3 23, vI v1] μ) (fun μ1 => some (some (vI (-1)), μ1)) (fun c2 μ1 => if v2 < 0 then some (some (vI (-1)), μ1) else if v2 ≤ 1 then if v3 < 0 then some (some (vI (-1)), μ1) else if v2 = 0 then cI (f_X8_at [vR 8 (c2 + 1), vI v3] μ1) (fun x6 μ5 => some (some (vI x6), μ5)) else cI (f_X8_at [vR 8 (c2 + 3), vI v3] μ1) (fun x4 μ3 => some (some (vI x4), μ3)) else some (some (vI (-1)), μ1))) :=
  show Rn kc_X11_sign 0 [some (vR 11 0), some (vI v1), some (vI v2), some (vI v3), none] [] μ = _ from (Rn_rc kt_X11_sign [] 33 _ _ _ _).trans rfl
set_option maxRecDepth 100000 in
set_option maxHeartbeats 2000000 in
theorem q_X11_letterAt (v1 : Nat) (v2 : Int) (μ : Mem) : f_X11_letterAt [vR 11 0, vR 8 v1, vI v2] μ = (if v2 < 10 then some (some (vI (-1)), μ) else if (wr (v2 - 10)) < (μ v1 1) then cI (f_X8_at [vR 8 v1, vI (wr (v2 - 10))] μ) (fun x2 μ1 => some (some (vI x2), μ1)) else some (some (vI (-1)), μ)) :=
  show Rn kc_X11_letterAt 0 [some (vR 11 0), some (vR 8 v1), some (vI v2)] [] μ = _ from (Rn_rc kt_X11_letterAt [] 22 _ _ _ _).trans rfl
set_option maxRecDepth 100000 in
set_option maxHeartbeats 2000000 in
theorem q_X11_word (v1 : Int) (v2 : Int) (μ : Mem) : f_X11_word [vR 11 0, vI v1, vI v2] μ = (cR 8 (f_X9_meaningOf [vR 9 1, vI v1] μ) (fun μ1 => some (some (vI (-1)), μ1)) (fun c2 μ1 => if v2 = 0 then cI (f_X9_letterOf [vR 9 1, vI v1] μ1) (fun x4 μ3 => some (some (vI x4), μ3)) else if v2 = 1 then cI (f_X9_needOf [vR 9 1, vI v1] μ1) (fun x6 μ5 => some (some (vI x6), μ5)) else if v2 = 2 then some (some (vI (μ1 c2 1)), μ1) else if v2 = 3 then cI (f_X3_shownPutting [vR 3 23, vI v1] μ1) (fun x8 μ7 => some (some (vI x8), μ7)) else cI (f_X11_letterAt [vR 11 0, vR 8 c2, vI v2] μ1) (fun x10 μ9 => some (some (vI x10), μ9)))) :=
  show Rn kc_X11_word 0 [some (vR 11 0), some (vI v1), some (vI v2), none] [] μ = _ from (Rn_rc kt_X11_word [] 39 _ _ _ _).trans rfl
set_option maxRecDepth 100000 in
set_option maxHeartbeats 2000000 in
theorem q_X11_as (v1 : Int) (v2 : Int) (μ : Mem) : f_X11_as [vR 11 0, vI v1, vI v2] μ = (cR 2 (f_X3_get [vR 3 23, vI v1] μ) (fun μ1 => some (some (vI (-1)), μ1)) (fun c2 μ1 => if v2 < 0 then some (some (vI (-1)), μ1) else if v2 ≤ 999 then cI (f_X3_stateOn [vR 3 23, vI v1, vI v2] μ1) (fun x4 μ3 => some (some (vI x4), μ3)) else some (some (vI (-1)), μ1))) :=
  show Rn kc_X11_as 0 [some (vR 11 0), some (vI v1), some (vI v2)] [] μ = _ from (Rn_rc kt_X11_as [] 23 _ _ _ _).trans rfl
set_option maxRecDepth 100000 in
set_option maxHeartbeats 2000000 in
theorem q_X11_prove (v1 : Int) (μ : Mem) : f_X11_prove [vR 11 0, vI v1] μ = (cR 2 (f_X3_get [vR 3 23, vI v1] μ) (fun μ1 => some (some (vI (-1)), μ1)) (fun c2 μ1 => cI (f_X2_isOpen [vR 2 c2] μ1) (fun x4 μ3 => if x4 = 0 then some (some (vI (-2)), μ3) else cV (f_X1_begin [vR 1 163, vI v1] μ3) (fun μ5 => cR 8 (f_X1_now [vR 1 163] μ5) (fun μ6 => none) (fun c7 μ6 => some (some (vI (μ6 c7 1)), μ6)))))) :=
  show Rn kc_X11_prove 0 [some (vR 11 0), some (vI v1), none] [] μ = _ from (Rn_rc kt_X11_prove [] 28 _ _ _ _).trans rfl
set_option maxRecDepth 100000 in
set_option maxHeartbeats 2000000 in
theorem q_X11_step (v1 : Int) (v2 : Int) (v3 : Int) (μ : Mem) : f_X11_step [vR 11 0, vI v1, vI v2, vI v3] μ = (if v1 < 0 then some (some (vI (-1)), μ) else if v1 ≤ 3 then cI (f_X1_isDropped [vR 1 163] μ) (fun x2 μ1 => if x2 = 0 then cI (f_X1_go [vR 1 163, vI v1, vI v2, vI v3] μ1) (fun x4 μ3 => some (some (vI x4), μ3)) else some (some (vI (-2)), μ1)) else some (some (vI (-1)), μ)) :=
  show Rn kc_X11_step 0 [some (vR 11 0), some (vI v1), some (vI v2), some (vI v3)] [] μ = _ from (Rn_rc kt_X11_step [] 25 _ _ _ _).trans rfl
set_option maxRecDepth 100000 in
set_option maxHeartbeats 2000000 in
theorem q_X11_undo  (μ : Mem) : f_X11_undo [vR 11 0] μ = (cI (f_X1_goBack [vR 1 163] μ) (fun x2 μ1 => some (some (vI x2), μ1))) :=
  show Rn kc_X11_undo 0 [some (vR 11 0)] [] μ = _ from (Rn_rc kt_X11_undo [] 9 _ _ _ _).trans rfl
noncomputable def e_X11_proof_29 (v1 : Int) (μ : Mem) : Option Rs := Rn kc_X11_proof 29 [some (vR 11 0), some (vI v1)] [] μ
set_option maxRecDepth 100000 in
set_option maxHeartbeats 2000000 in
theorem q_X11_proof (v1 : Int) (μ : Mem) : f_X11_proof [vR 11 0, vI v1] μ = (if v1 < 10 then e_X11_proof_29 v1 μ else cI (f_X1_isDropped [vR 1 163] μ) (fun x2 μ1 => if x2 = 0 then cR 8 (f_X1_now [vR 1 163] μ1) (fun μ3 => cI (f_X11_letterAt [vR 11 0, vN, vI v1] μ3) (fun x6 μ5 => some (some (vI x6), μ5))) (fun c4 μ3 => cI (f_X11_letterAt [vR 11 0, vR 8 c4, vI v1] μ3) (fun x8 μ7 => some (some (vI x8), μ7))) else e_X11_proof_29 v1 μ1)) :=
  show Rn kc_X11_proof 0 [some (vR 11 0), some (vI v1)] [] μ = _ from (Rn_rc kt_X11_proof [29] 55 _ _ _ _).trans rfl
set_option maxRecDepth 100000 in
set_option maxHeartbeats 2000000 in
theorem q_X11_proof_29 (v1 : Int) (μ : Mem) : e_X11_proof_29 v1 μ = (if v1 < 0 then some (some (vI (-1)), μ) else if v1 ≤ 3 then cI (f_X1_isDropped [vR 1 163] μ) (fun x2 μ1 => if x2 = 0 then if v1 = 0 then some (some (vI (μ1 163 7)), μ1) else if v1 = 1 then some (some (vI (μ1 163 8)), μ1) else if v1 = 2 then cR 8 (f_X1_now [vR 1 163] μ1) (fun μ3 => none) (fun c4 μ3 => some (some (vI (μ3 c4 1)), μ3)) else cI (f_X1_arrived [vR 1 163] μ1) (fun x6 μ5 => if x6 = 0 then some (some (vI 0), μ5) else some (some (vI 1), μ5)) else some (some (vI (-2)), μ1)) else some (some (vI (-1)), μ)) :=
  (Rn_rc kt_X11_proof [29] 55 _ _ _ _).trans rfl
set_option maxRecDepth 100000 in
set_option maxHeartbeats 2000000 in
theorem q_X11_tell (v1 : Nat) (μ : Mem) : f_X11_tell [vR 11 0, vR 1 v1] μ = (cI (f_X3_tellProof [vR 3 23, vR 1 v1, vI (μ 0 10)] μ) (fun x2 μ1 => if x2 = 0 then some (some (vI (-3)), μ1) else if (μ1 163 7) = (μ1 v1 7) then cV (f_X1_drop [vR 1 163] μ1) (fun μ3 => some (some (vI (μ v1 8)), μ3)) else some (some (vI (μ v1 8)), μ1))) :=
  show Rn kc_X11_tell 0 [some (vR 11 0), some (vR 1 v1), none] [] μ = _ from (Rn_rc kt_X11_tell [] 28 _ _ _ _).trans rfl
set_option maxRecDepth 100000 in
set_option maxHeartbeats 2000000 in
theorem q_X11_show  (μ : Mem) : f_X11_show [vR 11 0] μ = (cI (f_X1_isDropped [vR 1 163] μ) (fun x2 μ1 => if x2 = 0 then cI (f_X1_arrived [vR 1 163] μ1) (fun x4 μ3 => if x4 = 0 then some (some (vI (-2)), μ3) else cI (f_X11_tell [vR 11 0, vR 1 163] μ3) (fun x6 μ5 => some (some (vI x6), μ5))) else some (some (vI (-2)), μ1))) :=
  show Rn kc_X11_show 0 [some (vR 11 0)] [] μ = _ from (Rn_rc kt_X11_show [] 20 _ _ _ _).trans rfl
set_option maxRecDepth 100000 in
set_option maxHeartbeats 2000000 in
theorem q_X11_stepOf (v1 : Int) (v2 : Int) (v3 : Int) (μ : Mem) : f_X11_stepOf [vR 11 0, vI v1, vI v2, vI v3] μ = (cR 2 (f_X3_get [vR 3 23, vI v1] μ) (fun μ1 => some (some (vI (-1)), μ1)) (fun c2 μ1 => if v2 < 0 then some (some (vI (-1)), μ1) else if v3 < 0 then some (some (vI (-1)), μ1) else if v3 ≤ 2 then if (μ1 c2 6) < 0 then some (some (vI (-4)), μ1) else if v2 < (μ1 c2 6) then cI (f_X3_toldAt [vR 3 23, vI (wr ((μ1 c2 5) + v2)), vI v3] μ1) (fun x4 μ3 => some (some (vI x4), μ3)) else some (some (vI (-1)), μ1) else some (some (vI (-1)), μ1))) :=
  show Rn kc_X11_stepOf 0 [some (vR 11 0), some (vI v1), some (vI v2), some (vI v3), none] [] μ = _ from (Rn_rc kt_X11_stepOf [] 41 _ _ _ _).trans rfl
set_option maxRecDepth 100000 in
set_option maxHeartbeats 2000000 in
theorem q_X11_leans (v1 : Int) (v2 : Int) (μ : Mem) : f_X11_leans [vR 11 0, vI v1, vI v2] μ = (cR 2 (f_X3_get [vR 3 23, vI v1] μ) (fun μ1 => some (some (vI (-1)), μ1)) (fun c2 μ1 => if v2 = 0 then cI (f_X3_underOf [vR 3 23, vI v1] μ1) (fun x4 μ3 => some (some (vI x4), μ3)) else if v2 = 1 then cI (f_X3_underOf [vR 3 23, vI v1] μ1) (fun x6 μ5 => cI (f_X3_maskOf [vR 3 23, vI 0] μ5) (fun x8 μ7 => some (some (vI (bAnd x6 x8)), μ7))) else if v2 = 2 then cI (f_X3_overOf [vR 3 23, vI v1] μ1) (fun x10 μ9 => some (some (vI x10), μ9)) else some (some (vI (-1)), μ1))) :=
  show Rn kc_X11_leans 0 [some (vR 11 0), some (vI v1), some (vI v2)] [] μ = _ from (Rn_rc kt_X11_leans [] 36 _ _ _ _).trans rfl
set_option maxRecDepth 100000 in
set_option maxHeartbeats 2000000 in
theorem q_X11_change (v1 : Int) (μ : Mem) : f_X11_change [vR 11 0, vI v1] μ = (cR 8 (f_X9_meaningOf [vR 9 1, vI v1] μ) (fun μ1 => some (some (vI (-1)), μ1)) (fun c2 μ1 => cI (f_X7_tellMeaning [vR 7 151, vI v1] μ1) (fun x4 μ3 => if x4 < 0 then some (some (vI x4), μ3) else cV (f_X1_drop [vR 1 163] μ3) (fun μ5 => cI (f_X3_tryAgain [vR 3 23, vI v1, vR 1 211, vI (μ5 0 10)] μ5) (fun x7 μ6 => some (some (vI x7), μ6)))))) :=
  show Rn kc_X11_change 0 [some (vR 11 0), some (vI v1), none] [] μ = _ from (Rn_rc kt_X11_change [] 33 _ _ _ _).trans rfl
set_option maxRecDepth 100000 in
set_option maxHeartbeats 2000000 in
theorem q_X11_sought (v1 : Int) (v2 : Int) (v3 : Int) (μ : Mem) : f_X11_sought [vR 11 0, vI v1, vI v2, vI v3] μ = (cR 2 (f_X3_get [vR 3 23, vI v1] μ) (fun μ1 => some (some (vI (-1)), μ1)) (fun c2 μ1 => if v2 < 0 then some (some (vI (-1)), μ1) else if v2 ≤ 8 then if v3 < 1 then some (some (vI (-1)), μ1) else if v3 ≤ 20 then cI (f_X2_isOpen [vR 2 c2] μ1) (fun x4 μ3 => if x4 = 0 then some (some (vI (-2)), μ3) else cI (f_X4_run [vR 4 259, vI v1, vI v2, vI v3] μ3) (fun x6 μ5 => some (some (vI x6), μ5))) else some (some (vI (-1)), μ1) else some (some (vI (-1)), μ1))) :=
  show Rn kc_X11_sought 0 [some (vR 11 0), some (vI v1), some (vI v2), some (vI v3), none] [] μ = _ from (Rn_rc kt_X11_sought [] 37 _ _ _ _).trans rfl
set_option maxRecDepth 100000 in
set_option maxHeartbeats 2000000 in
theorem q_X11_seek (v1 : Int) (v2 : Int) (v3 : Int) (v4 : Int) (μ : Mem) : f_X11_seek [vR 11 0, vI v1, vI v2, vI v3, vI v4] μ = (if v4 < 0 then some (some (vI (-1)), μ) else if v4 ≤ 1 then cI (f_X11_sought [vR 11 0, vI v1, vI v2, vI v3] μ) (fun x2 μ1 => if v4 = 1 then if x2 < 0 then if x2 = (-4) then some (some (vI (μ1 259 17)), μ1) else some (some (vI x2), μ1) else some (some (vI (μ1 259 17)), μ1) else some (some (vI x2), μ1)) else some (some (vI (-1)), μ)) :=
  show Rn kc_X11_seek 0 [some (vR 11 0), some (vI v1), some (vI v2), some (vI v3), some (vI v4), none] [] μ = _ from (Rn_rc kt_X11_seek [] 32 _ _ _ _).trans rfl
set_option maxRecDepth 100000 in
set_option maxHeartbeats 2000000 in
theorem q_X11_take (v1 : Int) (v2 : Int) (v3 : Int) (μ : Mem) : f_X11_take [vR 11 0, vI v1, vI v2, vI v3] μ = (cI (f_X11_sought [vR 11 0, vI v1, vI v2, vI v3] μ) (fun x2 μ1 => if x2 < 0 then some (some (vI x2), μ1) else cV (f_X4_layOut [vR 4 259, vI v1, vR 1 211] μ1) (fun μ3 => cI (f_X11_tell [vR 11 0, vR 1 211] μ3) (fun x5 μ4 => some (some (vI x5), μ4))))) :=
  show Rn kc_X11_take 0 [some (vR 11 0), some (vI v1), some (vI v2), some (vI v3), none] [] μ = _ from (Rn_rc kt_X11_take [] 26 _ _ _ _).trans rfl
set_option maxRecDepth 100000 in
set_option maxHeartbeats 2000000 in
theorem q_X11_holds (v1 : Int) (v2 : Int) (v3 : Int) (μ : Mem) : f_X11_holds [vR 11 0, vI v1, vI v2, vI v3] μ = (cR 2 (f_X3_get [vR 3 23, vI v1] μ) (fun μ1 => some (some (vI (-1)), μ1)) (fun c2 μ1 => if v3 < 0 then some (some (vI (-1)), μ1) else cI (f_X10_howMany [vR 10 771, vI v2] μ1) (fun x4 μ3 => if v3 < x4 then cV (f_X10_enter [vR 10 771, vI v2, vI v3] μ3) (fun μ5 => cI (f_X10_isTrue [vR 10 771, vR 2 c2] μ5) (fun x7 μ6 => if x7 = 0 then some (some (vI 0), μ6) else some (some (vI 1), μ6))) else some (some (vI (-1)), μ3)))) :=
  show Rn kc_X11_holds 0 [some (vR 11 0), some (vI v1), some (vI v2), some (vI v3), none] [] μ = _ from (Rn_rc kt_X11_holds [] 36 _ _ _ _).trans rfl
set_option maxRecDepth 100000 in
set_option maxHeartbeats 2000000 in
theorem q_X11_worlds (v1 : Int) (v2 : Int) (μ : Mem) : f_X11_worlds [vR 11 0, vI v1, vI v2] μ = (if v1 < 1 then some (some (vI (-1)), μ) else if v1 ≤ 2 then if v2 < 0 then some (some (vI (-1)), μ) else if v2 ≤ 1 then if v2 = 0 then cI (f_X10_countGrounded [vR 10 771, vI v1] μ) (fun x4 μ3 => some (some (vI x4), μ3)) else cI (f_X10_leastGrounded [vR 10 771, vI v1, vN] μ) (fun x2 μ1 => some (some (vI x2), μ1)) else some (some (vI (-1)), μ) else some (some (vI (-1)), μ)) :=
  show Rn kc_X11_worlds 0 [some (vR 11 0), some (vI v1), some (vI v2)] [] μ = _ from (Rn_rc kt_X11_worlds [] 31 _ _ _ _).trans rfl
set_option maxRecDepth 100000 in
set_option maxHeartbeats 2000000 in
theorem q_X11_denied (v1 : Int) (v2 : Int) (μ : Mem) : f_X11_denied [vR 11 0, vI v1, vI v2] μ = (cR 2 (f_X3_get [vR 3 23, vI v1] μ) (fun μ1 => some (some (vI (-1)), μ1)) (fun c2 μ1 => if v2 < 1 then some (some (vI (-1)), μ1) else if v2 ≤ 2 then cI (f_X10_leastGrounded [vR 10 771, vI v2, vR 2 c2] μ1) (fun x4 μ3 => some (some (vI x4), μ3)) else some (some (vI (-1)), μ1))) :=
  show Rn kc_X11_denied 0 [some (vR 11 0), some (vI v1), some (vI v2), none] [] μ = _ from (Rn_rc kt_X11_denied [] 26 _ _ _ _).trans rfl
set_option maxRecDepth 100000 in
set_option maxHeartbeats 2000000 in
theorem q_X11_like (v1 : Int) (v2 : Int) (v3 : Int) (μ : Mem) : f_X11_like [vR 11 0, vI v1, vI v2, vI v3] μ = (cR 2 (f_X3_get [vR 3 23, vI v1] μ) (fun μ1 => some (some (vI (-1)), μ1)) (fun c2 μ1 => cR 2 (f_X3_get [vR 3 23, vI v2] μ1) (fun μ3 => some (some (vI (-1)), μ3)) (fun c4 μ3 => if v3 < 0 then some (some (vI (-1)), μ3) else if v3 ≤ 7 then cI (f_X0_begin [vR 0 780, vI v1, vI v3] μ3) (fun x6 μ5 => if x6 = 0 then some (some (vI 0), μ5) else cI (f_X0_isLike [vR 0 780, vI v2] μ5) (fun x8 μ7 => if x8 = 0 then some (some (vI 0), μ7) else some (some (vI 1), μ7))) else some (some (vI (-1)), μ3)))) :=
  show Rn kc_X11_like 0 [some (vR 11 0), some (vI v1), some (vI v2), some (vI v3)] [] μ = _ from (Rn_rc kt_X11_like [] 37 _ _ _ _).trans rfl
set_option maxRecDepth 100000 in
set_option maxHeartbeats 2000000 in
theorem q_X11_find (v1 : Int) (v2 : Int) (v3 : Int) (μ : Mem) : f_X11_find [vR 11 0, vI v1, vI v2, vI v3] μ = (cR 2 (f_X3_get [vR 3 23, vI v1] μ) (fun μ1 => some (some (vI (-1)), μ1)) (fun c2 μ1 => if v2 < 0 then some (some (vI (-1)), μ1) else if v2 ≤ 7 then if v3 < 0 then some (some (vI (-1)), μ1) else if v3 ≤ 1 then cI (f_X0_allLike [vR 0 780, vI v1, vI v2] μ1) (fun x4 μ3 => if v3 = 0 then cI (f_J6_bitCount_0f7a4 [vI x4] μ3) (fun x8 μ7 => some (some (vI x8), μ7)) else if x4 = 0 then some (some (vI (-4)), μ3) else cI (f_J6_numberOfTrailingZeros_0f7a4 [vI x4] μ3) (fun x6 μ5 => some (some (vI x6), μ5))) else some (some (vI (-1)), μ1) else some (some (vI (-1)), μ1))) :=
  show Rn kc_X11_find 0 [some (vR 11 0), some (vI v1), some (vI v2), some (vI v3), none] [] μ = _ from (Rn_rc kt_X11_find [] 40 _ _ _ _).trans rfl
noncomputable def e_X11_teach_23 (v1 : Int) (v2 : Int) (v3 : Int) (v4 : Int) (o5 : Option AV) (o6 : Option AV) (μ : Mem) : Option Rs := Rn kc_X11_teach 23 [some (vR 11 0), some (vI v1), some (vI v2), some (vI v3), some (vI v4), o5, o6] [] μ
noncomputable def e_X11_teach_27 (v1 : Int) (v2 : Int) (v3 : Int) (v4 : Int) (o5 : Option AV) (o6 : Option AV) (μ : Mem) : Option Rs := Rn kc_X11_teach 27 [some (vR 11 0), some (vI v1), some (vI v2), some (vI v3), some (vI v4), o5, o6] [] μ
noncomputable def e_X11_teach_28 (v1 : Int) (v2 : Int) (v3 : Int) (v4 : Int) (o5 : Option AV) (o6 : Option AV) (s0 : Int) (μ : Mem) : Option Rs := Rn kc_X11_teach 28 [some (vR 11 0), some (vI v1), some (vI v2), some (vI v3), some (vI v4), o5, o6] [vI s0] μ
set_option maxRecDepth 100000 in
set_option maxHeartbeats 2000000 in
theorem q_X11_teach (v1 : Int) (v2 : Int) (v3 : Int) (μ : Mem) : f_X11_teach [vR 11 0, vI v1, vI v2, vI v3] μ = (if v3 = 0 then e_X11_teach_23 v1 v2 v3 (wr (v3 - 10)) none none μ else if v3 < 10 then e_X11_teach_27 v1 v2 v3 (wr (v3 - 10)) none none μ else if (wr (v3 - 10)) < 24 then e_X11_teach_23 v1 v2 v3 (wr (v3 - 10)) none none μ else e_X11_teach_27 v1 v2 v3 (wr (v3 - 10)) none none μ) :=
  show Rn kc_X11_teach 0 [some (vR 11 0), some (vI v1), some (vI v2), some (vI v3), none, none, none] [] μ = _ from (Rn_rc kt_X11_teach [23, 27, 28] 63 _ _ _ _).trans rfl
set_option maxRecDepth 100000 in
set_option maxHeartbeats 2000000 in
theorem q_X11_teach_23 (v1 : Int) (v2 : Int) (v3 : Int) (v4 : Int) (o5 : Option AV) (o6 : Option AV) (μ : Mem) : e_X11_teach_23 v1 v2 v3 v4 o5 o6 μ = (e_X11_teach_28 v1 v2 v3 v4 o5 o6 1 μ) :=
  (Rn_rc kt_X11_teach [23, 27, 28] 63 _ _ _ _).trans rfl
set_option maxRecDepth 100000 in
set_option maxHeartbeats 2000000 in
theorem q_X11_teach_27 (v1 : Int) (v2 : Int) (v3 : Int) (v4 : Int) (o5 : Option AV) (o6 : Option AV) (μ : Mem) : e_X11_teach_27 v1 v2 v3 v4 o5 o6 μ = (e_X11_teach_28 v1 v2 v3 v4 o5 o6 0 μ) :=
  (Rn_rc kt_X11_teach [23, 27, 28] 63 _ _ _ _).trans rfl
set_option maxRecDepth 100000 in
set_option maxHeartbeats 2000000 in
theorem q_X11_teach_28 (v1 : Int) (v2 : Int) (v3 : Int) (v4 : Int) (o5 : Option AV) (o6 : Option AV) (s0 : Int) (μ : Mem) : e_X11_teach_28 v1 v2 v3 v4 o5 o6 s0 μ = (cR 2 (f_X3_get [vR 3 23, vI v1] μ) (fun μ1 => some (some (vI (-1)), μ1)) (fun c2 μ1 => if v2 < 0 then some (some (vI (-1)), μ1) else if v2 < (bShl 1 (μ1 23 9)) then if s0 = 0 then some (some (vI (-1)), μ1) else cI (f_X3_underOf [vR 3 23, vI v1] μ1) (fun x4 μ3 => if v3 = 0 then cI (f_J6_bitCount_0f7a4 [vI (bAnd (bOr (bShl 1 v1) x4) (bXor v2 (-1)))] μ3) (fun x8 μ7 => some (some (vI x8), μ7)) else cI (f_X3_lessonAt [vR 3 23, vI (bAnd (bOr (bShl 1 v1) x4) (bXor v2 (-1))), vI v4] μ3) (fun x6 μ5 => some (some (vI x6), μ5))) else some (some (vI (-1)), μ1))) :=
  (Rn_rc kt_X11_teach [23, 27, 28] 63 _ _ _ _).trans rfl
set_option maxRecDepth 100000 in
set_option maxHeartbeats 2000000 in
theorem q_X11_sheet (v1 : Int) (v2 : Int) (v3 : Int) (μ : Mem) : f_X11_sheet [vR 11 0, vI v1, vI v2, vI v3] μ = (cI (f_X5_isSheet [vR 5 796, vI v1] μ) (fun x2 μ1 => if x2 = 0 then some (some (vI (-1)), μ1) else cI (f_X5_isLane [vR 5 796, vI v2] μ1) (fun x4 μ3 => if x4 = 0 then some (some (vI (-1)), μ3) else if v3 ≤ 90 then if v3 < 0 then some (some (vI (-14)), μ3) else cI (f_X5_renew [vR 5 796, vI v1, vI v2, vI v3] μ3) (fun x6 μ5 => some (some (vI x6), μ5)) else some (some (vI (-1)), μ3)))) :=
  show Rn kc_X11_sheet 0 [some (vR 11 0), some (vI v1), some (vI v2), some (vI v3)] [] μ = _ from (Rn_rc kt_X11_sheet [] 31 _ _ _ _).trans rfl
set_option maxRecDepth 100000 in
set_option maxHeartbeats 2000000 in
theorem q_X11_lay (v1 : Int) (v2 : Int) (v3 : Int) (μ : Mem) : f_X11_lay [vR 11 0, vI v1, vI v2, vI v3] μ = (cI (f_X5_isSheet [vR 5 796, vI v1] μ) (fun x2 μ1 => if x2 = 0 then some (some (vI (-1)), μ1) else cI (f_X5_write [vR 5 796, vI v1, vI v2, vI v3] μ1) (fun x4 μ3 => some (some (vI x4), μ3)))) :=
  show Rn kc_X11_lay 0 [some (vR 11 0), some (vI v1), some (vI v2), some (vI v3)] [] μ = _ from (Rn_rc kt_X11_lay [] 19 _ _ _ _).trans rfl
noncomputable def e_X11_goBySheet_11 (o1 : Option AV) (v2 : Int) (v3 : Int) (v4 : Int) (v5 : Int) (o6 : Option AV) (o7 : Option AV) (o8 : Option AV) (μ : Mem) : Option Rs := Rn kc_X11_goBySheet 11 [some (vR 11 0), o1, some (vI v2), some (vI v3), some (vI v4), some (vI v5), o6, o7, o8] [] μ
set_option maxRecDepth 100000 in
set_option maxHeartbeats 2000000 in
theorem q_X11_goBySheet (v1 : Int) (v2 : Int) (v3 : Int) (v4 : Int) (μ : Mem) : f_X11_goBySheet [vR 11 0, vI v1, vI v2, vI v3, vI v4] μ = (cV (f_X1_begin [vR 1 211, vI v1] μ) (fun μ1 => e_X11_goBySheet_11 (some (vI v1)) v2 v3 v4 0 none none none μ1)) :=
  show Rn kc_X11_goBySheet 0 [some (vR 11 0), some (vI v1), some (vI v2), some (vI v3), some (vI v4), none, none, none, none] [] μ = _ from (Rn_rc kt_X11_goBySheet [11] 66 _ _ _ _).trans rfl
set_option maxRecDepth 100000 in
set_option maxHeartbeats 2000000 in
theorem q_X11_goBySheet_11 (o1 : Option AV) (v2 : Int) (v3 : Int) (v4 : Int) (v5 : Int) (o6 : Option AV) (o7 : Option AV) (o8 : Option AV) (μ : Mem) : e_X11_goBySheet_11 o1 v2 v3 v4 v5 o6 o7 o8 μ = (if v5 < v4 then cI (f_X5_cell [vR 5 796, vI v2, vI (wr (v3 + (wr (3 * v5))))] μ) (fun x2 μ1 => cI (f_X5_cell [vR 5 796, vI v2, vI (wr ((wr (v3 + (wr (3 * v5)))) + 1))] μ1) (fun x4 μ3 => cI (f_X5_cell [vR 5 796, vI v2, vI (wr ((wr (v3 + (wr (3 * v5)))) + 2))] μ3) (fun x6 μ5 => if x2 < 0 then some (some (vI v5), μ5) else if x2 ≤ 3 then cI (f_X1_go [vR 1 211, vI x2, vI x4, vI x6] μ5) (fun x8 μ7 => if x8 < 0 then some (some (vI v5), μ7) else e_X11_goBySheet_11 o1 v2 v3 v4 (wr (v5 + 1)) (some (vI x2)) (some (vI x4)) (some (vI x6)) μ7) else some (some (vI v5), μ5)))) else some (some (vI v4), μ)) :=
  (Rn_rc kt_X11_goBySheet [11] 66 _ _ _ _).trans rfl
set_option maxRecDepth 100000 in
set_option maxHeartbeats 2000000 in
theorem q_X11_read (v1 : Int) (v2 : Int) (v3 : Int) (v4 : Int) (v5 : Int) (μ : Mem) : f_X11_read [vR 11 0, vI v1, vI v2, vI v3, vI v4, vI v5] μ = (cR 2 (f_X3_get [vR 3 23, vI v1] μ) (fun μ1 => some (some (vI (-1)), μ1)) (fun c2 μ1 => cI (f_X5_isSheet [vR 5 796, vI v2] μ1) (fun x4 μ3 => if x4 = 0 then some (some (vI (-1)), μ3) else cI (f_X5_isLane [vR 5 796, vI v3] μ3) (fun x6 μ5 => if x6 = 0 then some (some (vI (-1)), μ5) else if v5 < 0 then some (some (vI (-1)), μ5) else if v5 ≤ 20 then cI (f_X2_isOpen [vR 2 c2] μ5) (fun x8 μ7 => if x8 = 0 then some (some (vI (-2)), μ7) else cI (f_X5_faultOf [vR 5 796, vI v2, vI v3, vI v4, vI (wr (3 * v5))] μ7) (fun x10 μ9 => if x10 = 0 then cI (f_X11_goBySheet [vR 11 0, vI v1, vI v2, vI v4, vI v5] μ9) (fun x12 μ11 => if x12 < v5 then some (some (vI (wr ((-100) - x12))), μ11) else cI (f_X1_arrived [vR 1 211] μ11) (fun x14 μ13 => if x14 = 0 then some (some (vI 0), μ13) else cI (f_X11_tell [vR 11 0, vR 1 211] μ13) (fun x16 μ15 => if x16 = (-3) then some (some (vI (-3)), μ15) else some (some (vI 1), μ15)))) else some (some (vI (wr ((-10) - x10))), μ9))) else some (some (vI (-1)), μ5))))) :=
  show Rn kc_X11_read 0 [some (vR 11 0), some (vI v1), some (vI v2), some (vI v3), some (vI v4), some (vI v5), none, none, none] [] μ = _ from (Rn_rc kt_X11_read [] 80 _ _ _ _).trans rfl
set_option maxRecDepth 100000 in
set_option maxHeartbeats 2000000 in
theorem q_X11_count (v1 : Int) (μ : Mem) : f_X11_count [vR 11 0, vI v1] μ = (if v1 = 0 then some (some (vI (μ 23 9)), μ) else if v1 = 1 then cI (f_X3_maskOf [vR 3 23, vI 0] μ) (fun x2 μ1 => cI (f_J6_bitCount_0f7a4 [vI x2] μ1) (fun x4 μ3 => some (some (vI x4), μ3))) else if v1 = 2 then cI (f_X3_maskOf [vR 3 23, vI 1] μ) (fun x6 μ5 => cI (f_J6_bitCount_0f7a4 [vI x6] μ5) (fun x8 μ7 => some (some (vI x8), μ7))) else if v1 = 3 then cI (f_X3_maskOf [vR 3 23, vI 2] μ) (fun x10 μ9 => cI (f_J6_bitCount_0f7a4 [vI x10] μ9) (fun x12 μ11 => some (some (vI x12), μ11))) else if v1 = 4 then cI (f_X3_maskOf [vR 3 23, vI 3] μ) (fun x14 μ13 => cI (f_J6_bitCount_0f7a4 [vI x14] μ13) (fun x16 μ15 => some (some (vI x16), μ15))) else if v1 = 5 then some (some (vI (μ 1 5)), μ) else if v1 = 6 then some (some (vI (μ 23 10)), μ) else if v1 = 7 then some (some (vI (μ 0 9)), μ) else if v1 = 8 then some (some (vI (μ 0 10)), μ) else if v1 = 9 then some (some (vI (μ 151 8)), μ) else if v1 = 10 then cI (f_X5_cellsOf [vR 5 796, vI 0] μ) (fun x18 μ17 => some (some (vI x18), μ17)) else some (some (vI (-1)), μ)) :=
  show Rn kc_X11_count 0 [some (vR 11 0), some (vI v1)] [] μ = _ from (Rn_rc kt_X11_count [] 60 _ _ _ _).trans rfl
