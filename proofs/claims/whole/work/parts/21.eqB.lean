set_option maxRecDepth 100000 in
set_option maxHeartbeats 2000000 in
theorem q_X3_get (v1 : Int) (μ : Mem) : f_X3_get [vR 3 23, vI v1] μ = (if v1 < 0 then some (some (vN), μ) else if v1 < (μ 23 9) then gi v1 (lnC 24) (some (some (vR 2 (31 + 5 * (v1).toNat)), μ)) else some (some (vN), μ)) :=
  show Rn kc_X3_get 0 [some (vR 3 23), some (vI v1)] [] μ = _ from (Rn_rc kt_X3_get [] 18 _ _ _ _).trans rfl
set_option maxRecDepth 100000 in
set_option maxHeartbeats 2000000 in
theorem q_X3_add (v1 : Nat) (v2 : Nat) (v3 : Int) (v4 : Int) (v5 : Int) (μ : Mem) : f_X3_add [vR 3 23, vR 8 v1, vR 8 v2, vI v3, vI v4, vI v5] μ = (if (μ 23 9) < 24 then gi (μ 23 9) (lnC 24) (cV (f_X8_copy [vR 8 ((31 + 5 * (μ 23 9).toNat) + 1), vR 8 v1] μ) (fun μ1 => cV (f_X8_copy [vR 8 ((31 + 5 * (μ 23 9).toNat) + 3), vR 8 v2] μ1) (fun μ2 => some (none, up (up (up (up (up μ2 (31 + 5 * (μ 23 9).toNat) 2 v3) (31 + 5 * (μ 23 9).toNat) 3 v4) (31 + 5 * (μ 23 9).toNat) 4 v5) (31 + 5 * (μ 23 9).toNat) 6 (-4)) 23 9 (wr (((up (up (up (up μ2 (31 + 5 * (μ 23 9).toNat) 2 v3) (31 + 5 * (μ 23 9).toNat) 3 v4) (31 + 5 * (μ 23 9).toNat) 4 v5) (31 + 5 * (μ 23 9).toNat) 6 (-4)) 23 9) + 1)))))) else some (none, μ)) :=
  show Rn kc_X3_add 0 [some (vR 3 23), some (vR 8 v1), some (vR 8 v2), some (vI v3), some (vI v4), some (vI v5), none] [] μ = _ from (Rn_rc kt_X3_add [] 43 _ _ _ _).trans rfl
set_option maxRecDepth 100000 in
set_option maxHeartbeats 2000000 in
theorem q_X3_keep (v1 : Int) (μ : Mem) : f_X3_keep [vR 3 23, vI v1] μ = (some (none, up μ 23 9 (mMin (μ 23 9) (mMax v1 0)))) :=
  show Rn kc_X3_keep 0 [some (vR 3 23), some (vI v1)] [] μ = _ from (Rn_rc kt_X3_keep [] 14 _ _ _ _).trans rfl
noncomputable def e_X3_maskOf_4 (v1 : Int) (v2 : Int) (v3 : Int) (μ : Mem) : Option Rs := Rn kc_X3_maskOf 4 [some (vR 3 23), some (vI v1), some (vI v2), some (vI v3)] [] μ
set_option maxRecDepth 100000 in
set_option maxHeartbeats 2000000 in
theorem q_X3_maskOf (v1 : Int) (μ : Mem) : f_X3_maskOf [vR 3 23, vI v1] μ = (e_X3_maskOf_4 v1 0 0 μ) :=
  show Rn kc_X3_maskOf 0 [some (vR 3 23), some (vI v1), none, none] [] μ = _ from (Rn_rc kt_X3_maskOf [4] 30 _ _ _ _).trans rfl
set_option maxRecDepth 100000 in
set_option maxHeartbeats 2000000 in
theorem q_X3_maskOf_4 (v1 : Int) (v2 : Int) (v3 : Int) (μ : Mem) : e_X3_maskOf_4 v1 v2 v3 μ = (if v3 < (μ 23 9) then gi v3 (lnC 24) (if (μ (31 + 5 * (v3).toNat) 2) = v1 then e_X3_maskOf_4 v1 (bOr v2 (bShl 1 v3)) (wr (v3 + 1)) μ else e_X3_maskOf_4 v1 v2 (wr (v3 + 1)) μ) else some (some (vI v2), μ)) :=
  (Rn_rc kt_X3_maskOf [4] 30 _ _ _ _).trans rfl
set_option maxRecDepth 100000 in
set_option maxHeartbeats 2000000 in
theorem q_X3_underOf (v1 : Int) (μ : Mem) : f_X3_underOf [vR 3 23, vI v1] μ = (cR 2 (f_X3_get [vR 3 23, vI v1] μ) (fun μ1 => some (some (vI 0), μ1)) (fun c2 μ1 => if (μ1 c2 2) = 2 then some (some (vI (μ1 c2 9)), μ1) else some (some (vI 0), μ1))) :=
  show Rn kc_X3_underOf 0 [some (vR 3 23), some (vI v1), none] [] μ = _ from (Rn_rc kt_X3_underOf [] 20 _ _ _ _).trans rfl
noncomputable def e_X3_overOf_4 (v1 : Int) (v2 : Int) (v3 : Int) (μ : Mem) : Option Rs := Rn kc_X3_overOf 4 [some (vR 3 23), some (vI v1), some (vI v2), some (vI v3)] [] μ
set_option maxRecDepth 100000 in
set_option maxHeartbeats 2000000 in
theorem q_X3_overOf (v1 : Int) (μ : Mem) : f_X3_overOf [vR 3 23, vI v1] μ = (e_X3_overOf_4 v1 0 0 μ) :=
  show Rn kc_X3_overOf 0 [some (vR 3 23), some (vI v1), none, none] [] μ = _ from (Rn_rc kt_X3_overOf [4] 31 _ _ _ _).trans rfl
set_option maxRecDepth 100000 in
set_option maxHeartbeats 2000000 in
theorem q_X3_overOf_4 (v1 : Int) (v2 : Int) (v3 : Int) (μ : Mem) : e_X3_overOf_4 v1 v2 v3 μ = (if v3 < (μ 23 9) then cI (f_X3_underOf [vR 3 23, vI v3] μ) (fun x2 μ1 => if (bAnd (bShr x2 v1) 1) = 0 then e_X3_overOf_4 v1 v2 (wr (v3 + 1)) μ1 else e_X3_overOf_4 v1 (bOr v2 (bShl 1 v3)) (wr (v3 + 1)) μ1) else some (some (vI v2), μ)) :=
  (Rn_rc kt_X3_overOf [4] 31 _ _ _ _).trans rfl
noncomputable def e_X3_shownPutting_4 (v1 : Int) (v2 : Int) (v3 : Int) (μ : Mem) : Option Rs := Rn kc_X3_shownPutting 4 [some (vR 3 23), some (vI v1), some (vI v2), some (vI v3)] [] μ
set_option maxRecDepth 100000 in
set_option maxHeartbeats 2000000 in
theorem q_X3_shownPutting (v1 : Int) (μ : Mem) : f_X3_shownPutting [vR 3 23, vI v1] μ = (e_X3_shownPutting_4 v1 0 0 μ) :=
  show Rn kc_X3_shownPutting 0 [some (vR 3 23), some (vI v1), none, none] [] μ = _ from (Rn_rc kt_X3_shownPutting [4] 35 _ _ _ _).trans rfl
set_option maxRecDepth 100000 in
set_option maxHeartbeats 2000000 in
theorem q_X3_shownPutting_4 (v1 : Int) (v2 : Int) (v3 : Int) (μ : Mem) : e_X3_shownPutting_4 v1 v2 v3 μ = (if v3 < (μ 23 9) then gi v3 (lnC 24) (if (μ (31 + 5 * (v3).toNat) 2) = 2 then gi v3 (lnC 24) (if (bAnd (bShr (μ (31 + 5 * (v3).toNat) 10) v1) 1) = 0 then e_X3_shownPutting_4 v1 v2 (wr (v3 + 1)) μ else e_X3_shownPutting_4 v1 (wr (v2 + 1)) (wr (v3 + 1)) μ) else e_X3_shownPutting_4 v1 v2 (wr (v3 + 1)) μ) else some (some (vI v2), μ)) :=
  (Rn_rc kt_X3_shownPutting [4] 35 _ _ _ _).trans rfl
noncomputable def e_X3_stateOn_38 (v1 : Int) (v2 : Int) (o3 : Option AV) (v4 : Int) (v5 : Int) (μ : Mem) : Option Rs := Rn kc_X3_stateOn 38 [some (vR 3 23), some (vI v1), some (vI v2), o3, some (vI v4), some (vI v5)] [] μ
set_option maxRecDepth 100000 in
set_option maxHeartbeats 2000000 in
theorem q_X3_stateOn (v1 : Int) (v2 : Int) (μ : Mem) : f_X3_stateOn [vR 3 23, vI v1, vI v2] μ = (cR 2 (f_X3_get [vR 3 23, vI v1] μ) (fun μ1 => some (some (vI (-4)), μ1)) (fun c2 μ1 => if v2 < (μ1 c2 4) then some (some (vI (-4)), μ1) else if (μ1 c2 2) = 0 then e_X3_stateOn_38 v1 v2 (some (vR 2 c2)) 0 0 μ1 else e_X3_stateOn_38 v1 v2 (some (vR 2 c2)) 1 0 μ1)) :=
  show Rn kc_X3_stateOn 0 [some (vR 3 23), some (vI v1), some (vI v2), none, none, none] [] μ = _ from (Rn_rc kt_X3_stateOn [38] 51 _ _ _ _).trans rfl
set_option maxRecDepth 100000 in
set_option maxHeartbeats 2000000 in
theorem q_X3_stateOn_38 (v1 : Int) (v2 : Int) (o3 : Option AV) (v4 : Int) (v5 : Int) (μ : Mem) : e_X3_stateOn_38 v1 v2 o3 v4 v5 μ = (if v5 < (μ 23 7) then gi v5 (lnC 29) (if (μ 29 (v5).toNat) = v1 then gi v5 (lnC 28) (if (μ 28 (v5).toNat) ≤ v2 then gi v5 (lnC 30) (e_X3_stateOn_38 v1 v2 (kl o3) (μ 30 (v5).toNat) (wr (v5 + 1)) μ) else e_X3_stateOn_38 v1 v2 o3 v4 (wr (v5 + 1)) μ) else e_X3_stateOn_38 v1 v2 o3 v4 (wr (v5 + 1)) μ) else some (some (vI v4), μ)) :=
  (Rn_rc kt_X3_stateOn [38] 51 _ _ _ _).trans rfl
set_option maxRecDepth 100000 in
set_option maxHeartbeats 2000000 in
theorem q_X3_turn (v1 : Int) (v2 : Int) (v3 : Int) (μ : Mem) : f_X3_turn [vR 3 23, vI v1, vI v2, vI v3] μ = (gi v1 (lnC 24) (if ((up μ (31 + 5 * (v1).toNat) 2 v2) 23 7) < 424 then gi ((up μ (31 + 5 * (v1).toNat) 2 v2) 23 7) (lnC 29) (gi ((up (up μ (31 + 5 * (v1).toNat) 2 v2) 29 ((up μ (31 + 5 * (v1).toNat) 2 v2) 23 7).toNat (wrB (wrB v1))) 23 7) (lnC 28) (gi ((up (up (up μ (31 + 5 * (v1).toNat) 2 v2) 29 ((up μ (31 + 5 * (v1).toNat) 2 v2) 23 7).toNat (wrB (wrB v1))) 28 ((up (up μ (31 + 5 * (v1).toNat) 2 v2) 29 ((up μ (31 + 5 * (v1).toNat) 2 v2) 23 7).toNat (wrB (wrB v1))) 23 7).toNat (wrS (wrS v3))) 23 7) (lnC 30) (some (none, up (up (up (up (up μ (31 + 5 * (v1).toNat) 2 v2) 29 ((up μ (31 + 5 * (v1).toNat) 2 v2) 23 7).toNat (wrB (wrB v1))) 28 ((up (up μ (31 + 5 * (v1).toNat) 2 v2) 29 ((up μ (31 + 5 * (v1).toNat) 2 v2) 23 7).toNat (wrB (wrB v1))) 23 7).toNat (wrS (wrS v3))) 30 ((up (up (up μ (31 + 5 * (v1).toNat) 2 v2) 29 ((up μ (31 + 5 * (v1).toNat) 2 v2) 23 7).toNat (wrB (wrB v1))) 28 ((up (up μ (31 + 5 * (v1).toNat) 2 v2) 29 ((up μ (31 + 5 * (v1).toNat) 2 v2) 23 7).toNat (wrB (wrB v1))) 23 7).toNat (wrS (wrS v3))) 23 7).toNat (wrB (wrB v2))) 23 7 (wr (((up (up (up (up μ (31 + 5 * (v1).toNat) 2 v2) 29 ((up μ (31 + 5 * (v1).toNat) 2 v2) 23 7).toNat (wrB (wrB v1))) 28 ((up (up μ (31 + 5 * (v1).toNat) 2 v2) 29 ((up μ (31 + 5 * (v1).toNat) 2 v2) 23 7).toNat (wrB (wrB v1))) 23 7).toNat (wrS (wrS v3))) 30 ((up (up (up μ (31 + 5 * (v1).toNat) 2 v2) 29 ((up μ (31 + 5 * (v1).toNat) 2 v2) 23 7).toNat (wrB (wrB v1))) 28 ((up (up μ (31 + 5 * (v1).toNat) 2 v2) 29 ((up μ (31 + 5 * (v1).toNat) 2 v2) 23 7).toNat (wrB (wrB v1))) 23 7).toNat (wrS (wrS v3))) 23 7).toNat (wrB (wrB v2))) 23 7) + 1)))))) else some (none, up μ (31 + 5 * (v1).toNat) 2 v2))) :=
  show Rn kc_X3_turn 0 [some (vR 3 23), some (vI v1), some (vI v2), some (vI v3)] [] μ = _ from (Rn_rc kt_X3_turn [] 43 _ _ _ _).trans rfl
set_option maxRecDepth 100000 in
set_option maxHeartbeats 2000000 in
theorem q_X3_toldAt (v1 : Int) (v2 : Int) (μ : Mem) : f_X3_toldAt [vR 3 23, vI v1, vI v2] μ = (if v1 < 0 then some (some (vI (-1)), μ) else if v1 < (μ 23 10) then if v2 = 0 then gi v1 (lnC 25) (some (some (vI (μ 25 (v1).toNat)), μ)) else if v2 = 1 then gi v1 (lnC 26) (some (some (vI (μ 26 (v1).toNat)), μ)) else gi v1 (lnC 27) (some (some (vI (μ 27 (v1).toNat)), μ)) else some (some (vI (-1)), μ)) :=
  show Rn kc_X3_toldAt 0 [some (vR 3 23), some (vI v1), some (vI v2)] [] μ = _ from (Rn_rc kt_X3_toldAt [] 33 _ _ _ _).trans rfl
noncomputable def e_X3_closed_4 (v1 : Int) (v2 : Int) (v3 : Int) (μ : Mem) : Option Rs := Rn kc_X3_closed 4 [some (vR 3 23), some (vI v1), some (vI v2), some (vI v3)] [] μ
set_option maxRecDepth 100000 in
set_option maxHeartbeats 2000000 in
theorem q_X3_closed (v1 : Int) (μ : Mem) : f_X3_closed [vR 3 23, vI v1] μ = (e_X3_closed_4 v1 v1 0 μ) :=
  show Rn kc_X3_closed 0 [some (vR 3 23), some (vI v1), none, none] [] μ = _ from (Rn_rc kt_X3_closed [4] 29 _ _ _ _).trans rfl
set_option maxRecDepth 100000 in
set_option maxHeartbeats 2000000 in
theorem q_X3_closed_4 (v1 : Int) (v2 : Int) (v3 : Int) (μ : Mem) : e_X3_closed_4 v1 v2 v3 μ = (if v3 < (μ 23 9) then if (bAnd (bShr v1 v3) 1) = 0 then e_X3_closed_4 v1 v2 (wr (v3 + 1)) μ else cI (f_X3_underOf [vR 3 23, vI v3] μ) (fun x2 μ1 => e_X3_closed_4 v1 (bOr v2 x2) (wr (v3 + 1)) μ1) else some (some (vI v2), μ)) :=
  (Rn_rc kt_X3_closed [4] 29 _ _ _ _).trans rfl
noncomputable def e_X3_tellProof_49 (v1 : Nat) (v2 : Int) (v3 : Nat) (v4 : Int) (μ : Mem) : Option Rs := Rn kc_X3_tellProof 49 [some (vR 3 23), some (vR 1 v1), some (vI v2), some (vR 2 v3), some (vI v4)] [] μ
set_option maxRecDepth 100000 in
set_option maxHeartbeats 2000000 in
theorem q_X3_tellProof (v1 : Nat) (v2 : Int) (μ : Mem) : f_X3_tellProof [vR 3 23, vR 1 v1, vI v2] μ = (cR 2 (f_X3_get [vR 3 23, vI (μ v1 7)] μ) (fun μ1 => gz 0 (some (some (vI 0), μ1))) (fun c2 μ1 => if (μ1 v1 8) ≤ (wr (200 - (μ1 23 10))) then e_X3_tellProof_49 v1 v2 c2 0 (up (up μ1 c2 5 (μ1 23 10)) c2 6 ((up μ1 c2 5 (μ1 23 10)) v1 8)) else gz 0 (some (some (vI 0), μ1)))) :=
  show Rn kc_X3_tellProof 0 [some (vR 3 23), some (vR 1 v1), some (vI v2), none, none] [] μ = _ from (Rn_rc kt_X3_tellProof [49] 95 _ _ _ _).trans rfl
set_option maxRecDepth 100000 in
set_option maxHeartbeats 2000000 in
theorem q_X3_tellProof_49 (v1 : Nat) (v2 : Int) (v3 : Nat) (v4 : Int) (μ : Mem) : e_X3_tellProof_49 v1 v2 v3 v4 μ = (if v4 < (μ v1 8) then cI (f_X1_kindAt [vR 1 v1, vI v4] μ) (fun x9 μ8 => gi (μ 23 10) (lnC 25) (cI (f_X1_whichAt [vR 1 v1, vI v4] (up μ8 25 (μ 23 10).toNat x9)) (fun x11 μ10 => gi ((up μ8 25 (μ 23 10).toNat x9) 23 10) (lnC 26) (cI (f_X1_placeAt [vR 1 v1, vI v4] (up μ10 26 ((up μ8 25 (μ 23 10).toNat x9) 23 10).toNat x11)) (fun x13 μ12 => gi ((up μ10 26 ((up μ8 25 (μ 23 10).toNat x9) 23 10).toNat x11) 23 10) (lnC 27) (e_X3_tellProof_49 v1 v2 v3 (wr (v4 + 1)) (up (up μ12 27 ((up μ10 26 ((up μ8 25 (μ 23 10).toNat x9) 23 10).toNat x11) 23 10).toNat x13) 23 10 (wr (((up μ12 27 ((up μ10 26 ((up μ8 25 (μ 23 10).toNat x9) 23 10).toNat x11) 23 10).toNat x13) 23 10) + 1))))))))) else cI (f_X1_putting [vR 1 v1] μ) (fun x2 μ1 => cI (f_X1_using [vR 1 v1] (up μ1 v3 10 x2)) (fun x4 μ3 => cI (f_X3_closed [vR 3 23, vI x4] μ3) (fun x6 μ5 => cV (f_X3_turn [vR 3 23, vI ((up (up (up μ5 v3 9 x6) v3 8 ((up μ5 v3 9 x6) 23 8)) 23 8 (wr (((up (up μ5 v3 9 x6) v3 8 ((up μ5 v3 9 x6) 23 8)) 23 8) + 1))) v1 7), vI 2, vI v2] (up (up (up μ5 v3 9 x6) v3 8 ((up μ5 v3 9 x6) 23 8)) 23 8 (wr (((up (up μ5 v3 9 x6) v3 8 ((up μ5 v3 9 x6) 23 8)) 23 8) + 1)))) (fun μ7 => gz 1 (some (some (vI 1), μ7))))))) :=
  (Rn_rc kt_X3_tellProof [49] 95 _ _ _ _).trans rfl
noncomputable def e_X3_goesAgain_15 (o1 : Option AV) (v2 : Nat) (v3 : Nat) (v4 : Int) (o5 : Option AV) (μ : Mem) : Option Rs := Rn kc_X3_goesAgain 15 [some (vR 3 23), o1, some (vR 1 v2), some (vR 2 v3), some (vI v4), o5] [] μ
set_option maxRecDepth 100000 in
set_option maxHeartbeats 2000000 in
theorem q_X3_goesAgain (v1 : Int) (v2 : Nat) (μ : Mem) : f_X3_goesAgain [vR 3 23, vI v1, vR 1 v2] μ = (gi v1 (lnC 24) (cV (f_X1_begin [vR 1 v2, vI v1] μ) (fun μ1 => e_X3_goesAgain_15 (some (vI v1)) v2 (31 + 5 * (v1).toNat) 0 none μ1))) :=
  show Rn kc_X3_goesAgain 0 [some (vR 3 23), some (vI v1), some (vR 1 v2), none, none, none] [] μ = _ from (Rn_rc kt_X3_goesAgain [15] 57 _ _ _ _).trans rfl
set_option maxRecDepth 100000 in
set_option maxHeartbeats 2000000 in
theorem q_X3_goesAgain_15 (o1 : Option AV) (v2 : Nat) (v3 : Nat) (v4 : Int) (o5 : Option AV) (μ : Mem) : e_X3_goesAgain_15 o1 v2 v3 v4 o5 μ = (if v4 < (μ v3 6) then cI (f_X3_toldAt [vR 3 23, vI (wr ((μ v3 5) + v4)), vI 0] μ) (fun x6 μ5 => cI (f_X3_toldAt [vR 3 23, vI (wr ((μ v3 5) + v4)), vI 1] μ5) (fun x8 μ7 => cI (f_X3_toldAt [vR 3 23, vI (wr ((μ v3 5) + v4)), vI 2] μ7) (fun x10 μ9 => cI (f_X1_go [vR 1 v2, vI x6, vI x8, vI x10] μ9) (fun x12 μ11 => if x12 < 0 then gz 0 (some (some (vI 0), up μ11 v3 7 v4)) else e_X3_goesAgain_15 o1 v2 v3 (wr (v4 + 1)) (some (vI (wr ((μ v3 5) + v4)))) μ11)))) else cI (f_X1_putting [vR 1 v2] (up μ v3 7 (μ v3 6))) (fun x2 μ1 => cI (f_X1_arrived [vR 1 v2] (up μ1 v3 10 x2)) (fun x4 μ3 => gz x4 (some (some (vI x4), μ3))))) :=
  (Rn_rc kt_X3_goesAgain [15] 57 _ _ _ _).trans rfl
noncomputable def e_X3_shownNext_5 (v1 : Int) (v2 : Int) (v3 : Int) (o4 : Option AV) (μ : Mem) : Option Rs := Rn kc_X3_shownNext 5 [some (vR 3 23), some (vI v1), some (vI v2), some (vI v3), o4] [] μ
set_option maxRecDepth 100000 in
set_option maxHeartbeats 2000000 in
theorem q_X3_shownNext (v1 : Int) (μ : Mem) : f_X3_shownNext [vR 3 23, vI v1] μ = (e_X3_shownNext_5 v1 (-4) 0 none μ) :=
  show Rn kc_X3_shownNext 0 [some (vR 3 23), some (vI v1), none, none, none] [] μ = _ from (Rn_rc kt_X3_shownNext [5] 52 _ _ _ _).trans rfl
set_option maxRecDepth 100000 in
set_option maxHeartbeats 2000000 in
theorem q_X3_shownNext_5 (v1 : Int) (v2 : Int) (v3 : Int) (o4 : Option AV) (μ : Mem) : e_X3_shownNext_5 v1 v2 v3 o4 μ = (if v3 < (μ 23 9) then gi v3 (lnC 24) (if (μ (31 + 5 * (v3).toNat) 2) = 2 then gi v3 (lnC 24) (if (μ (31 + 5 * (v3).toNat) 8) ≤ v1 then e_X3_shownNext_5 v1 v2 (wr (v3 + 1)) (some (vI 0)) μ else if v2 < 0 then e_X3_shownNext_5 v1 v3 (wr (v3 + 1)) (some (vI 1)) μ else gi v3 (lnC 24) (gi v2 (lnC 24) (if (μ (31 + 5 * (v3).toNat) 8) < (μ (31 + 5 * (v2).toNat) 8) then e_X3_shownNext_5 v1 v3 (wr (v3 + 1)) (some (vI 1)) μ else e_X3_shownNext_5 v1 v2 (wr (v3 + 1)) (some (vI 1)) μ))) else e_X3_shownNext_5 v1 v2 (wr (v3 + 1)) (some (vI 0)) μ) else some (some (vI v2), μ)) :=
  (Rn_rc kt_X3_shownNext [5] 52 _ _ _ _).trans rfl
noncomputable def e_X3_tryAgain_14 (v1 : Int) (v2 : Nat) (v3 : Int) (v4 : Int) (v5 : Int) (v6 : Int) (o7 : Option AV) (o8 : Option AV) (μ : Mem) : Option Rs := Rn kc_X3_tryAgain 14 [some (vR 3 23), some (vI v1), some (vR 1 v2), some (vI v3), some (vI v4), some (vI v5), some (vI v6), o7, o8] [] μ
noncomputable def e_X3_tryAgain_58 (v1 : Int) (v2 : Nat) (v3 : Int) (v4 : Int) (v5 : Int) (v6 : Int) (v7 : Nat) (o8 : Option AV) (μ : Mem) : Option Rs := Rn kc_X3_tryAgain 58 [some (vR 3 23), some (vI v1), some (vR 1 v2), some (vI v3), some (vI v4), some (vI v5), some (vI v6), some (vR 2 v7), o8] [] μ
noncomputable def e_X3_tryAgain_63 (v1 : Int) (v2 : Nat) (v3 : Int) (v4 : Int) (v5 : Int) (v6 : Int) (v7 : Nat) (o8 : Option AV) (s0 : Int) (μ : Mem) : Option Rs := Rn kc_X3_tryAgain 63 [some (vR 3 23), some (vI v1), some (vR 1 v2), some (vI v3), some (vI v4), some (vI v5), some (vI v6), some (vR 2 v7), o8] [vI s0] μ
set_option maxRecDepth 100000 in
set_option maxHeartbeats 2000000 in
theorem q_X3_tryAgain (v1 : Int) (v2 : Nat) (v3 : Int) (μ : Mem) : f_X3_tryAgain [vR 3 23, vI v1, vR 1 v2, vI v3] μ = (cI (f_X3_shownNext [vR 3 23, vI (-4)] μ) (fun x2 μ1 => e_X3_tryAgain_14 v1 v2 v3 0 x2 0 none none μ1)) :=
  show Rn kc_X3_tryAgain 0 [some (vR 3 23), some (vI v1), some (vR 1 v2), some (vI v3), none, none, none, none, none] [] μ = _ from (Rn_rc kt_X3_tryAgain [14, 58, 63] 67 _ _ _ _).trans rfl
set_option maxRecDepth 100000 in
set_option maxHeartbeats 2000000 in
theorem q_X3_tryAgain_14 (v1 : Int) (v2 : Nat) (v3 : Int) (v4 : Int) (v5 : Int) (v6 : Int) (o7 : Option AV) (o8 : Option AV) (μ : Mem) : e_X3_tryAgain_14 v1 v2 v3 v4 v5 v6 o7 o8 μ = (if v6 < 24 then if v5 < 0 then cI (f_J6_bitCount_0f7a4 [vI v4] μ) (fun x4 μ3 => some (some (vI x4), μ3)) else gi v5 (lnC 24) (if (bAnd (bShr (μ (31 + 5 * (v5).toNat) 10) v1) 1) = 0 then if (bAnd (μ (31 + 5 * (v5).toNat) 9) v4) = 0 then e_X3_tryAgain_63 v1 v2 v3 v4 v5 v6 (31 + 5 * (v5).toNat) o8 0 μ else e_X3_tryAgain_58 v1 v2 v3 v4 v5 v6 (31 + 5 * (v5).toNat) o8 μ else e_X3_tryAgain_58 v1 v2 v3 v4 v5 v6 (31 + 5 * (v5).toNat) o8 μ) else cI (f_J6_bitCount_0f7a4 [vI v4] μ) (fun x2 μ1 => some (some (vI x2), μ1))) :=
  (Rn_rc kt_X3_tryAgain [14, 58, 63] 67 _ _ _ _).trans rfl
set_option maxRecDepth 100000 in
set_option maxHeartbeats 2000000 in
theorem q_X3_tryAgain_58 (v1 : Int) (v2 : Nat) (v3 : Int) (v4 : Int) (v5 : Int) (v6 : Int) (v7 : Nat) (o8 : Option AV) (μ : Mem) : e_X3_tryAgain_58 v1 v2 v3 v4 v5 v6 v7 o8 μ = (e_X3_tryAgain_63 v1 v2 v3 v4 v5 v6 v7 o8 1 μ) :=
  (Rn_rc kt_X3_tryAgain [14, 58, 63] 67 _ _ _ _).trans rfl
set_option maxRecDepth 100000 in
set_option maxHeartbeats 2000000 in
theorem q_X3_tryAgain_63 (v1 : Int) (v2 : Nat) (v3 : Int) (v4 : Int) (v5 : Int) (v6 : Int) (v7 : Nat) (o8 : Option AV) (s0 : Int) (μ : Mem) : e_X3_tryAgain_63 v1 v2 v3 v4 v5 v6 v7 o8 s0 μ = (if s0 = 0 then cI (f_X3_shownNext [vR 3 23, vI (μ v7 8)] μ) (fun x2 μ1 => e_X3_tryAgain_14 v1 v2 v3 v4 x2 (wr (v6 + 1)) (some (vR 2 v7)) (some (vI s0)) μ1) else cI (f_X3_goesAgain [vR 3 23, vI v5, vR 1 v2] μ) (fun x4 μ3 => if x4 = 0 then cV (f_X3_turn [vR 3 23, vI v5, vI 3, vI v3] μ3) (fun μ7 => cI (f_X3_shownNext [vR 3 23, vI (μ7 v7 8)] μ7) (fun x9 μ8 => e_X3_tryAgain_14 v1 v2 v3 (bOr v4 (bShl 1 v5)) x9 (wr (v6 + 1)) (some (vR 2 v7)) (some (vI s0)) μ8)) else cI (f_X3_shownNext [vR 3 23, vI (μ3 v7 8)] μ3) (fun x6 μ5 => e_X3_tryAgain_14 v1 v2 v3 v4 x6 (wr (v6 + 1)) (some (vR 2 v7)) (some (vI s0)) μ5))) :=
  (Rn_rc kt_X3_tryAgain [14, 58, 63] 67 _ _ _ _).trans rfl
noncomputable def e_X3_lessonNext_2 (v1 : Int) (v2 : Int) (μ : Mem) : Option Rs := Rn kc_X3_lessonNext 2 [some (vR 3 23), some (vI v1), some (vI v2)] [] μ
set_option maxRecDepth 100000 in
set_option maxHeartbeats 2000000 in
theorem q_X3_lessonNext (v1 : Int) (μ : Mem) : f_X3_lessonNext [vR 3 23, vI v1] μ = (e_X3_lessonNext_2 v1 0 μ) :=
  show Rn kc_X3_lessonNext 0 [some (vR 3 23), some (vI v1), none] [] μ = _ from (Rn_rc kt_X3_lessonNext [2] 29 _ _ _ _).trans rfl
set_option maxRecDepth 100000 in
set_option maxHeartbeats 2000000 in
theorem q_X3_lessonNext_2 (v1 : Int) (v2 : Int) (μ : Mem) : e_X3_lessonNext_2 v1 v2 μ = (if v2 < (μ 23 9) then if (bAnd (bShr v1 v2) 1) = 0 then e_X3_lessonNext_2 v1 (wr (v2 + 1)) μ else cI (f_X3_underOf [vR 3 23, vI v2] μ) (fun x2 μ1 => if (bAnd x2 v1) = 0 then some (some (vI v2), μ1) else e_X3_lessonNext_2 v1 (wr (v2 + 1)) μ1) else some (some (vI (-4)), μ)) :=
  (Rn_rc kt_X3_lessonNext [2] 29 _ _ _ _).trans rfl
noncomputable def e_X3_lessonAt_9 (o1 : Option AV) (v2 : Int) (v3 : Int) (v4 : Int) (v5 : Int) (μ : Mem) : Option Rs := Rn kc_X3_lessonAt 9 [some (vR 3 23), o1, some (vI v2), some (vI v3), some (vI v4), some (vI v5)] [] μ
set_option maxRecDepth 100000 in
set_option maxHeartbeats 2000000 in
theorem q_X3_lessonAt (v1 : Int) (v2 : Int) (μ : Mem) : f_X3_lessonAt [vR 3 23, vI v1, vI v2] μ = (e_X3_lessonAt_9 (some (vI v1)) v2 v1 (-4) 0 μ) :=
  show Rn kc_X3_lessonAt 0 [some (vR 3 23), some (vI v1), some (vI v2), none, none, none] [] μ = _ from (Rn_rc kt_X3_lessonAt [9] 37 _ _ _ _).trans rfl
set_option maxRecDepth 100000 in
set_option maxHeartbeats 2000000 in
theorem q_X3_lessonAt_9 (o1 : Option AV) (v2 : Int) (v3 : Int) (v4 : Int) (v5 : Int) (μ : Mem) : e_X3_lessonAt_9 o1 v2 v3 v4 v5 μ = (if v5 ≤ v2 then if v5 < 24 then cI (f_X3_lessonNext [vR 3 23, vI v3] μ) (fun x2 μ1 => if x2 < 0 then some (some (vI (-4)), μ1) else e_X3_lessonAt_9 o1 v2 (bAnd v3 (bXor (bShl 1 x2) (-1))) x2 (wr (v5 + 1)) μ1) else some (some (vI v4), μ) else some (some (vI v4), μ)) :=
  (Rn_rc kt_X3_lessonAt [9] 37 _ _ _ _).trans rfl
set_option maxRecDepth 100000 in
set_option maxHeartbeats 2000000 in
theorem q_X6_endAt (v1 : Int) (μ : Mem) : f_X6_endAt [vR 6 157, vI v1] μ = (if v1 < 0 then some (some (vI (μ ((μ 157 2).toNat) 1)), μ) else if v1 < (μ ((μ 157 2).toNat) 1) then if v1 < 20 then gi v1 (lnC 160) (some (some (vI (μ 160 (v1).toNat)), μ)) else some (some (vI (μ ((μ 157 2).toNat) 1)), μ) else some (some (vI (μ ((μ 157 2).toNat) 1)), μ)) :=
  show Rn kc_X6_endAt 0 [some (vR 6 157), some (vI v1)] [] μ = _ from (Rn_rc kt_X6_endAt [] 24 _ _ _ _).trans rfl
noncomputable def e_X6_becomes_24 (v1 : Nat) (v2 : Int) (v3 : Nat) (v4 : Int) (v5 : Int) (v6 : Int) (o7 : Option AV) (μ : Mem) : Option Rs := Rn kc_X6_becomes 24 [some (vR 6 157), some (vR 8 v1), some (vI v2), some (vR 8 v3), some (vI v4), some (vI v5), some (vI v6), o7] [] μ
noncomputable def e_X6_becomes_132 (v1 : Nat) (o2 : Option AV) (v3 : Nat) (v4 : Int) (o5 : Option AV) (v6 : Int) (o7 : Option AV) (μ : Mem) : Option Rs := Rn kc_X6_becomes 132 [some (vR 6 157), some (vR 8 v1), o2, some (vR 8 v3), some (vI v4), o5, some (vI v6), o7] [] μ
set_option maxRecDepth 100000 in
set_option maxHeartbeats 2000000 in
theorem q_X6_becomes (v1 : Nat) (v2 : Int) (v3 : Nat) (μ : Mem) : f_X6_becomes [vR 6 157, vR 8 v1, vI v2, vR 8 v3] μ = (cI (f_X6_endAt [vR 6 157, vI v2] μ) (fun x2 μ1 => e_X6_becomes_24 v1 v2 v3 x2 (wr ((μ1 ((μ1 157 2).toNat) 1) - (wr (x2 - v2)))) 0 none μ1)) :=
  show Rn kc_X6_becomes 0 [some (vR 6 157), some (vR 8 v1), some (vI v2), some (vR 8 v3), none, none, none, none] [] μ = _ from (Rn_rc kt_X6_becomes [24, 132] 125 _ _ _ _).trans rfl
set_option maxRecDepth 100000 in
set_option maxHeartbeats 2000000 in
theorem q_X6_becomes_24 (v1 : Nat) (v2 : Int) (v3 : Nat) (v4 : Int) (v5 : Int) (v6 : Int) (o7 : Option AV) (μ : Mem) : e_X6_becomes_24 v1 v2 v3 v4 v5 v6 o7 μ = (if v6 < (μ v1 1) then cI (f_X8_at [vR 8 v1, vI v6] μ) (fun x4 μ3 => if (wr (x4 - 23)) < 3 then if (wr (x4 - 23)) < 0 then if (wr (x4 - 23)) < 0 then e_X6_becomes_24 v1 v2 v3 v4 (wr (v5 + 1)) (wr (v6 + 1)) (some (vI (wr (x4 - 23)))) μ3 else gi (wr (x4 - 23)) (lnC 162) (gi (wr (x4 - 23)) (lnC 161) (e_X6_becomes_24 v1 v2 v3 v4 (wr (v5 + (wr ((μ3 162 (wr (x4 - 23)).toNat) - (μ3 161 (wr (x4 - 23)).toNat))))) (wr (v6 + 1)) (some (vI (wr (x4 - 23)))) μ3)) else gi (wr (x4 - 23)) (lnC 161) (if (μ3 161 (wr (x4 - 23)).toNat) < 0 then some (some (vI (-23)), μ3) else if (wr (x4 - 23)) < 0 then e_X6_becomes_24 v1 v2 v3 v4 (wr (v5 + 1)) (wr (v6 + 1)) (some (vI (wr (x4 - 23)))) μ3 else gi (wr (x4 - 23)) (lnC 162) (gi (wr (x4 - 23)) (lnC 161) (e_X6_becomes_24 v1 v2 v3 v4 (wr (v5 + (wr ((μ3 162 (wr (x4 - 23)).toNat) - (μ3 161 (wr (x4 - 23)).toNat))))) (wr (v6 + 1)) (some (vI (wr (x4 - 23)))) μ3))) else some (some (vI (-23)), μ3)) else if v5 ≤ 20 then cI (f_X8_addPart [vR 8 v3, vR 8 (((up μ v3 1 0) 157 2).toNat), vI 0, vI v2] (up μ v3 1 0)) (fun x2 μ1 => e_X6_becomes_132 v1 (some (vI v2)) v3 v4 (some (vI v5)) 0 o7 μ1) else some (some (vI (-24)), μ)) :=
  (Rn_rc kt_X6_becomes [24, 132] 125 _ _ _ _).trans rfl
set_option maxRecDepth 100000 in
set_option maxHeartbeats 2000000 in
theorem q_X6_becomes_132 (v1 : Nat) (o2 : Option AV) (v3 : Nat) (v4 : Int) (o5 : Option AV) (v6 : Int) (o7 : Option AV) (μ : Mem) : e_X6_becomes_132 v1 o2 v3 v4 o5 v6 o7 μ = (if v6 < (μ v1 1) then cI (f_X8_at [vR 8 v1, vI v6] μ) (fun x4 μ3 => if (wr (x4 - 23)) < 0 then cI (f_X8_at [vR 8 v1, vI v6] μ3) (fun x8 μ7 => cI (f_X8_add [vR 8 v3, vI x8] μ7) (fun x10 μ9 => e_X6_becomes_132 v1 o2 v3 v4 (kl o5) (wr (v6 + 1)) (some (vI (wr (x4 - 23)))) μ9)) else if (wr (x4 - 23)) < 3 then gi (wr (x4 - 23)) (lnC 161) (gi (wr (x4 - 23)) (lnC 162) (cI (f_X8_addPart [vR 8 v3, vR 8 ((μ3 157 2).toNat), vI (μ3 161 (wr (x4 - 23)).toNat), vI (μ3 162 (wr (x4 - 23)).toNat)] μ3) (fun x6 μ5 => e_X6_becomes_132 v1 o2 v3 v4 (kl o5) (wr (v6 + 1)) (some (vI (wr (x4 - 23)))) μ5))) else e_X6_becomes_132 v1 o2 v3 v4 (kl o5) (wr (v6 + 1)) (some (vI (wr (x4 - 23)))) μ3) else cI (f_X8_addPart [vR 8 v3, vR 8 ((μ 157 2).toNat), vI v4, vI (μ ((μ 157 2).toNat) 1)] μ) (fun x2 μ1 => some (some (vI (μ1 v3 1)), μ1))) :=
  (Rn_rc kt_X6_becomes [24, 132] 125 _ _ _ _).trans rfl
noncomputable def e_X6_fits_2 (v1 : Nat) (v2 : Int) (v3 : Int) (o4 : Option AV) (o5 : Option AV) (o6 : Option AV) (o7 : Option AV) (o8 : Option AV) (μ : Mem) : Option Rs := Rn kc_X6_fits 2 [some (vR 6 157), some (vR 8 v1), some (vI v2), some (vI v3), o4, o5, o6, o7, o8] [] μ
noncomputable def e_X6_fits_26 (v1 : Nat) (v2 : Int) (v3 : Int) (v4 : Int) (o5 : Option AV) (o6 : Option AV) (o7 : Option AV) (o8 : Option AV) (μ : Mem) : Option Rs := Rn kc_X6_fits 26 [some (vR 6 157), some (vR 8 v1), some (vI v2), some (vI v3), some (vI v4), o5, o6, o7, o8] [] μ
noncomputable def e_X6_fits_73 (v1 : Nat) (v2 : Int) (v3 : Int) (v4 : Int) (o5 : Option AV) (v6 : Int) (o7 : Option AV) (o8 : Option AV) (μ : Mem) : Option Rs := Rn kc_X6_fits 73 [some (vR 6 157), some (vR 8 v1), some (vI v2), some (vI v3), some (vI v4), o5, some (vI v6), o7, o8] [] μ
noncomputable def e_X6_fits_134 (v1 : Nat) (v2 : Int) (v3 : Int) (v4 : Int) (v5 : Int) (v6 : Int) (o7 : Option AV) (o8 : Option AV) (μ : Mem) : Option Rs := Rn kc_X6_fits 134 [some (vR 6 157), some (vR 8 v1), some (vI v2), some (vI v3), some (vI v4), some (vI v5), some (vI v6), o7, o8] [] μ
noncomputable def e_X6_fits_161 (v1 : Nat) (v2 : Int) (v3 : Int) (v4 : Int) (v5 : Int) (v6 : Int) (o7 : Option AV) (o8 : Option AV) (s0 : Int) (μ : Mem) : Option Rs := Rn kc_X6_fits 161 [some (vR 6 157), some (vR 8 v1), some (vI v2), some (vI v3), some (vI v4), some (vI v5), some (vI v6), o7, o8] [vI s0] μ
set_option maxRecDepth 100000 in
set_option maxHeartbeats 2000000 in
theorem q_X6_fits (v1 : Nat) (v2 : Int) (μ : Mem) : f_X6_fits [vR 6 157, vR 8 v1, vI v2] μ = (e_X6_fits_2 v1 v2 0 none none none none none μ) :=
  show Rn kc_X6_fits 0 [some (vR 6 157), some (vR 8 v1), some (vI v2), none, none, none, none, none, none] [] μ = _ from (Rn_rc kt_X6_fits [2, 26, 73, 134, 161] 129 _ _ _ _).trans rfl
set_option maxRecDepth 100000 in
set_option maxHeartbeats 2000000 in
theorem q_X6_fits_2 (v1 : Nat) (v2 : Int) (v3 : Int) (o4 : Option AV) (o5 : Option AV) (o6 : Option AV) (o7 : Option AV) (o8 : Option AV) (μ : Mem) : e_X6_fits_2 v1 v2 v3 o4 o5 o6 o7 o8 μ = (if v3 < 3 then gi v3 (lnC 161) (e_X6_fits_2 v1 v2 (wr (v3 + 1)) o4 o5 o6 o7 o8 (up μ 161 (v3).toNat (-4))) else e_X6_fits_26 v1 v2 v2 0 o5 o6 o7 o8 μ) :=
  (Rn_rc kt_X6_fits [2, 26, 73, 134, 161] 129 _ _ _ _).trans rfl
set_option maxRecDepth 100000 in
set_option maxHeartbeats 2000000 in
theorem q_X6_fits_26 (v1 : Nat) (v2 : Int) (v3 : Int) (v4 : Int) (o5 : Option AV) (o6 : Option AV) (o7 : Option AV) (o8 : Option AV) (μ : Mem) : e_X6_fits_26 v1 v2 v3 v4 o5 o6 o7 o8 μ = (if v4 < (μ v1 1) then if v3 < (μ ((μ 157 2).toNat) 1) then cI (f_X8_at [vR 8 v1, vI v4] μ) (fun x6 μ5 => if (wr (x6 - 23)) < 0 then e_X6_fits_73 v1 v2 v3 v4 (some (vI (wr (x6 - 23)))) (wr (v3 + 1)) o7 o8 μ5 else if (wr (x6 - 23)) < 3 then cI (f_X6_endAt [vR 6 157, vI v3] μ5) (fun x8 μ7 => gi (wr (x6 - 23)) (lnC 161) (if (μ7 161 (wr (x6 - 23)).toNat) < 0 then gi (wr (x6 - 23)) (lnC 161) (gi (wr (x6 - 23)) (lnC 162) (e_X6_fits_134 v1 v2 v3 v4 (wr (x6 - 23)) x8 o7 o8 (up (up μ7 161 (wr (x6 - 23)).toNat v3) 162 (wr (x6 - 23)).toNat x8))) else e_X6_fits_134 v1 v2 v3 v4 (wr (x6 - 23)) x8 o7 o8 μ7)) else e_X6_fits_73 v1 v2 v3 v4 (some (vI (wr (x6 - 23)))) (wr (v3 + 1)) o7 o8 μ5) else cI (f_X6_endAt [vR 6 157, vI v2] μ) (fun x4 μ3 => if v3 = x4 then gz 1 (some (some (vI 1), μ3)) else gz 0 (some (some (vI 0), μ3))) else cI (f_X6_endAt [vR 6 157, vI v2] μ) (fun x2 μ1 => if v3 = x2 then gz 1 (some (some (vI 1), μ1)) else gz 0 (some (some (vI 0), μ1)))) :=
  (Rn_rc kt_X6_fits [2, 26, 73, 134, 161] 129 _ _ _ _).trans rfl
set_option maxRecDepth 100000 in
set_option maxHeartbeats 2000000 in
theorem q_X6_fits_73 (v1 : Nat) (v2 : Int) (v3 : Int) (v4 : Int) (o5 : Option AV) (v6 : Int) (o7 : Option AV) (o8 : Option AV) (μ : Mem) : e_X6_fits_73 v1 v2 v3 v4 o5 v6 o7 o8 μ = (cI (f_X8_at [vR 8 v1, vI v4] μ) (fun x2 μ1 => cI (f_X8_at [vR 8 ((μ1 157 2).toNat), vI v3] μ1) (fun x4 μ3 => if x2 = x4 then e_X6_fits_26 v1 v2 v6 (wr (v4 + 1)) o5 (some (vI v6)) (some (vI 1)) o8 μ3 else gz 0 (some (some (vI 0), μ3))))) :=
  (Rn_rc kt_X6_fits [2, 26, 73, 134, 161] 129 _ _ _ _).trans rfl
set_option maxRecDepth 100000 in
set_option maxHeartbeats 2000000 in
theorem q_X6_fits_134 (v1 : Nat) (v2 : Int) (v3 : Int) (v4 : Int) (v5 : Int) (v6 : Int) (o7 : Option AV) (o8 : Option AV) (μ : Mem) : e_X6_fits_134 v1 v2 v3 v4 v5 v6 o7 o8 μ = (gi v5 (lnC 162) (gi v5 (lnC 161) (if (wr ((μ 162 (v5).toNat) - (μ 161 (v5).toNat))) = (wr (v6 - v3)) then e_X6_fits_161 v1 v2 v3 v4 v5 v6 o7 o8 1 μ else e_X6_fits_161 v1 v2 v3 v4 v5 v6 o7 o8 0 μ))) :=
  (Rn_rc kt_X6_fits [2, 26, 73, 134, 161] 129 _ _ _ _).trans rfl
set_option maxRecDepth 100000 in
set_option maxHeartbeats 2000000 in
theorem q_X6_fits_161 (v1 : Nat) (v2 : Int) (v3 : Int) (v4 : Int) (v5 : Int) (v6 : Int) (o7 : Option AV) (o8 : Option AV) (s0 : Int) (μ : Mem) : e_X6_fits_161 v1 v2 v3 v4 v5 v6 o7 o8 s0 μ = (if s0 = 0 then gz 0 (some (some (vI 0), μ)) else gi v5 (lnC 161) (cI (f_X8_samePart [vR 8 ((μ 157 2).toNat), vI v3, vI v6, vR 8 ((μ 157 2).toNat), vI (μ 161 (v5).toNat)] μ) (fun x2 μ1 => if x2 = 0 then gz 0 (some (some (vI 0), μ1)) else e_X6_fits_26 v1 v2 v6 (wr (v4 + 1)) (some (vI v5)) (some (vI v6)) (some (vI 1)) (some (vI s0)) μ1))) :=
  (Rn_rc kt_X6_fits [2, 26, 73, 134, 161] 129 _ _ _ _).trans rfl
set_option maxRecDepth 100000 in
set_option maxHeartbeats 2000000 in
theorem q_X6_go (v1 : Int) (v2 : Int) (v3 : Int) (v4 : Int) (v5 : Nat) (μ : Mem) : f_X6_go [vR 6 157, vI v1, vI v2, vI v3, vI v4, vR 8 v5] μ = (if v3 < 0 then some (some (vI (-20)), up μ 157 6 (-4)) else if v3 < ((up μ 157 6 (-4)) (((up μ 157 6 (-4)) 157 2).toNat) 1) then if v1 = 0 then if v2 = v4 then some (some (vI (-21)), up μ 157 6 (-4)) else cR 2 (f_X3_get [vR 3 23, vI v2] (up μ 157 6 (-4))) (fun μ1 => some (some (vI (-21)), μ1)) (fun c2 μ1 => cI (f_X2_isUsable [vR 2 c2] μ1) (fun x4 μ3 => if x4 = 0 then some (some (vI (-21)), μ3) else if v1 = 0 then if v1 = 0 then cI (f_X6_fits [vR 6 157, vR 8 (c2 + 1), vI v3] μ3) (fun x18 μ17 => if x18 = 0 then some (some (vI (-22)), μ17) else cI (f_X6_becomes [vR 6 157, vR 8 (c2 + 3), vI v3, vR 8 v5] μ17) (fun x20 μ19 => some (some (vI x20), μ19))) else cI (f_X6_fits [vR 6 157, vR 8 (c2 + 1), vI v3] μ3) (fun x14 μ13 => if x14 = 0 then some (some (vI (-22)), μ13) else cI (f_X6_becomes [vR 6 157, vR 8 (c2 + 1), vI v3, vR 8 v5] μ13) (fun x16 μ15 => some (some (vI x16), μ15))) else if v1 = 0 then cI (f_X6_fits [vR 6 157, vR 8 (c2 + 3), vI v3] μ3) (fun x10 μ9 => if x10 = 0 then some (some (vI (-22)), μ9) else cI (f_X6_becomes [vR 6 157, vR 8 (c2 + 3), vI v3, vR 8 v5] μ9) (fun x12 μ11 => some (some (vI x12), μ11))) else cI (f_X6_fits [vR 6 157, vR 8 (c2 + 3), vI v3] μ3) (fun x6 μ5 => if x6 = 0 then some (some (vI (-22)), μ5) else cI (f_X6_becomes [vR 6 157, vR 8 (c2 + 1), vI v3, vR 8 v5] μ5) (fun x8 μ7 => some (some (vI x8), μ7))))) else if v1 = 1 then if v2 = v4 then some (some (vI (-21)), up μ 157 6 (-4)) else cR 2 (f_X3_get [vR 3 23, vI v2] (up μ 157 6 (-4))) (fun μ97 => some (some (vI (-21)), μ97)) (fun c98 μ97 => cI (f_X2_isUsable [vR 2 c98] μ97) (fun x100 μ99 => if x100 = 0 then some (some (vI (-21)), μ99) else if v1 = 0 then if v1 = 0 then cI (f_X6_fits [vR 6 157, vR 8 (c98 + 1), vI v3] μ99) (fun x114 μ113 => if x114 = 0 then some (some (vI (-22)), μ113) else cI (f_X6_becomes [vR 6 157, vR 8 (c98 + 3), vI v3, vR 8 v5] μ113) (fun x116 μ115 => some (some (vI x116), μ115))) else cI (f_X6_fits [vR 6 157, vR 8 (c98 + 1), vI v3] μ99) (fun x110 μ109 => if x110 = 0 then some (some (vI (-22)), μ109) else cI (f_X6_becomes [vR 6 157, vR 8 (c98 + 1), vI v3, vR 8 v5] μ109) (fun x112 μ111 => some (some (vI x112), μ111))) else if v1 = 0 then cI (f_X6_fits [vR 6 157, vR 8 (c98 + 3), vI v3] μ99) (fun x106 μ105 => if x106 = 0 then some (some (vI (-22)), μ105) else cI (f_X6_becomes [vR 6 157, vR 8 (c98 + 3), vI v3, vR 8 v5] μ105) (fun x108 μ107 => some (some (vI x108), μ107))) else cI (f_X6_fits [vR 6 157, vR 8 (c98 + 3), vI v3] μ99) (fun x102 μ101 => if x102 = 0 then some (some (vI (-22)), μ101) else cI (f_X6_becomes [vR 6 157, vR 8 (c98 + 1), vI v3, vR 8 v5] μ101) (fun x104 μ103 => some (some (vI x104), μ103))))) else if v1 = 2 then cI (f_X8_at [vR 8 (((up μ 157 6 (-4)) 157 2).toNat), vI v3] (up μ 157 6 (-4))) (fun x58 μ57 => cI (f_X9_numberOf [vR 9 1, vI x58] μ57) (fun x60 μ59 => if v1 = 2 then cR 8 (f_X9_faceOf [vR 9 1, vI ((up μ59 157 6 x60) 157 6)] (up μ59 157 6 x60)) (fun μ79 => if v1 = 2 then cR 8 (f_X9_meaningOf [vR 9 1, vI (μ79 157 6)] μ79) (fun μ83 => some (some (vI (-21)), μ83)) (fun c84 μ83 => some (some (vI (-21)), μ83)) else cR 8 (f_X9_faceOf [vR 9 1, vI (μ79 157 6)] μ79) (fun μ81 => some (some (vI (-21)), μ81)) (fun c82 μ81 => some (some (vI (-21)), μ81))) (fun c80 μ79 => if v1 = 2 then cR 8 (f_X9_meaningOf [vR 9 1, vI (μ79 157 6)] μ79) (fun μ91 => some (some (vI (-21)), μ91)) (fun c92 μ91 => cI (f_X6_fits [vR 6 157, vR 8 c80, vI v3] μ91) (fun x94 μ93 => if x94 = 0 then some (some (vI (-22)), μ93) else cI (f_X6_becomes [vR 6 157, vR 8 c92, vI v3, vR 8 v5] μ93) (fun x96 μ95 => some (some (vI x96), μ95)))) else cR 8 (f_X9_faceOf [vR 9 1, vI (μ79 157 6)] μ79) (fun μ85 => some (some (vI (-21)), μ85)) (fun c86 μ85 => cI (f_X6_fits [vR 6 157, vR 8 c80, vI v3] μ85) (fun x88 μ87 => if x88 = 0 then some (some (vI (-22)), μ87) else cI (f_X6_becomes [vR 6 157, vR 8 c86, vI v3, vR 8 v5] μ87) (fun x90 μ89 => some (some (vI x90), μ89))))) else cR 8 (f_X9_meaningOf [vR 9 1, vI ((up μ59 157 6 x60) 157 6)] (up μ59 157 6 x60)) (fun μ61 => if v1 = 2 then cR 8 (f_X9_meaningOf [vR 9 1, vI (μ61 157 6)] μ61) (fun μ65 => some (some (vI (-21)), μ65)) (fun c66 μ65 => some (some (vI (-21)), μ65)) else cR 8 (f_X9_faceOf [vR 9 1, vI (μ61 157 6)] μ61) (fun μ63 => some (some (vI (-21)), μ63)) (fun c64 μ63 => some (some (vI (-21)), μ63))) (fun c62 μ61 => if v1 = 2 then cR 8 (f_X9_meaningOf [vR 9 1, vI (μ61 157 6)] μ61) (fun μ73 => some (some (vI (-21)), μ73)) (fun c74 μ73 => cI (f_X6_fits [vR 6 157, vR 8 c62, vI v3] μ73) (fun x76 μ75 => if x76 = 0 then some (some (vI (-22)), μ75) else cI (f_X6_becomes [vR 6 157, vR 8 c74, vI v3, vR 8 v5] μ75) (fun x78 μ77 => some (some (vI x78), μ77)))) else cR 8 (f_X9_faceOf [vR 9 1, vI (μ61 157 6)] μ61) (fun μ67 => some (some (vI (-21)), μ67)) (fun c68 μ67 => cI (f_X6_fits [vR 6 157, vR 8 c62, vI v3] μ67) (fun x70 μ69 => if x70 = 0 then some (some (vI (-22)), μ69) else cI (f_X6_becomes [vR 6 157, vR 8 c68, vI v3, vR 8 v5] μ69) (fun x72 μ71 => some (some (vI x72), μ71))))))) else if v1 = 2 then cR 8 (f_X9_faceOf [vR 9 1, vI ((up (up μ 157 6 (-4)) 157 6 v2) 157 6)] (up (up μ 157 6 (-4)) 157 6 v2)) (fun μ39 => if v1 = 2 then cR 8 (f_X9_meaningOf [vR 9 1, vI (μ39 157 6)] μ39) (fun μ43 => some (some (vI (-21)), μ43)) (fun c44 μ43 => some (some (vI (-21)), μ43)) else cR 8 (f_X9_faceOf [vR 9 1, vI (μ39 157 6)] μ39) (fun μ41 => some (some (vI (-21)), μ41)) (fun c42 μ41 => some (some (vI (-21)), μ41))) (fun c40 μ39 => if v1 = 2 then cR 8 (f_X9_meaningOf [vR 9 1, vI (μ39 157 6)] μ39) (fun μ51 => some (some (vI (-21)), μ51)) (fun c52 μ51 => cI (f_X6_fits [vR 6 157, vR 8 c40, vI v3] μ51) (fun x54 μ53 => if x54 = 0 then some (some (vI (-22)), μ53) else cI (f_X6_becomes [vR 6 157, vR 8 c52, vI v3, vR 8 v5] μ53) (fun x56 μ55 => some (some (vI x56), μ55)))) else cR 8 (f_X9_faceOf [vR 9 1, vI (μ39 157 6)] μ39) (fun μ45 => some (some (vI (-21)), μ45)) (fun c46 μ45 => cI (f_X6_fits [vR 6 157, vR 8 c40, vI v3] μ45) (fun x48 μ47 => if x48 = 0 then some (some (vI (-22)), μ47) else cI (f_X6_becomes [vR 6 157, vR 8 c46, vI v3, vR 8 v5] μ47) (fun x50 μ49 => some (some (vI x50), μ49))))) else cR 8 (f_X9_meaningOf [vR 9 1, vI ((up (up μ 157 6 (-4)) 157 6 v2) 157 6)] (up (up μ 157 6 (-4)) 157 6 v2)) (fun μ21 => if v1 = 2 then cR 8 (f_X9_meaningOf [vR 9 1, vI (μ21 157 6)] μ21) (fun μ25 => some (some (vI (-21)), μ25)) (fun c26 μ25 => some (some (vI (-21)), μ25)) else cR 8 (f_X9_faceOf [vR 9 1, vI (μ21 157 6)] μ21) (fun μ23 => some (some (vI (-21)), μ23)) (fun c24 μ23 => some (some (vI (-21)), μ23))) (fun c22 μ21 => if v1 = 2 then cR 8 (f_X9_meaningOf [vR 9 1, vI (μ21 157 6)] μ21) (fun μ33 => some (some (vI (-21)), μ33)) (fun c34 μ33 => cI (f_X6_fits [vR 6 157, vR 8 c22, vI v3] μ33) (fun x36 μ35 => if x36 = 0 then some (some (vI (-22)), μ35) else cI (f_X6_becomes [vR 6 157, vR 8 c34, vI v3, vR 8 v5] μ35) (fun x38 μ37 => some (some (vI x38), μ37)))) else cR 8 (f_X9_faceOf [vR 9 1, vI (μ21 157 6)] μ21) (fun μ27 => some (some (vI (-21)), μ27)) (fun c28 μ27 => cI (f_X6_fits [vR 6 157, vR 8 c22, vI v3] μ27) (fun x30 μ29 => if x30 = 0 then some (some (vI (-22)), μ29) else cI (f_X6_becomes [vR 6 157, vR 8 c28, vI v3, vR 8 v5] μ29) (fun x32 μ31 => some (some (vI x32), μ31))))) else some (some (vI (-20)), up μ 157 6 (-4))) :=
  show Rn kc_X6_go 0 [some (vR 6 157), some (vI v1), some (vI v2), some (vI v3), some (vI v4), some (vR 8 v5), none, none, none] [] μ = _ from (Rn_rc kt_X6_go [] 119 _ _ _ _).trans rfl
noncomputable def e_X6_look_17 (v1 : Nat) (v2 : Int) (o3 : Option AV) (o4 : Option AV) (o5 : Option AV) (μ : Mem) : Option Rs := Rn kc_X6_look 17 [some (vR 6 157), some (vR 8 v1), some (vI v2), o3, o4, o5] [] μ
noncomputable def e_X6_look_42 (v1 : Nat) (v2 : Int) (v3 : Int) (v4 : Int) (v5 : Int) (μ : Mem) : Option Rs := Rn kc_X6_look 42 [some (vR 6 157), some (vR 8 v1), some (vI v2), some (vI v3), some (vI v4), some (vI v5)] [] μ
set_option maxRecDepth 100000 in
set_option maxHeartbeats 2000000 in
theorem q_X6_look (v1 : Nat) (μ : Mem) : f_X6_look [vR 6 157, vR 8 v1] μ = (e_X6_look_17 v1 (wr ((mMin ((up μ 157 2 ((v1 : Nat) : Int)) v1 1) 20) - 1)) none none none (up μ 157 2 ((v1 : Nat) : Int))) :=
  show Rn kc_X6_look 0 [some (vR 6 157), some (vR 8 v1), none, none, none, none] [] μ = _ from (Rn_rc kt_X6_look [17, 42] 47 _ _ _ _).trans rfl
set_option maxRecDepth 100000 in
set_option maxHeartbeats 2000000 in
theorem q_X6_look_17 (v1 : Nat) (v2 : Int) (o3 : Option AV) (o4 : Option AV) (o5 : Option AV) (μ : Mem) : e_X6_look_17 v1 v2 o3 o4 o5 μ = (if v2 < 0 then some (none, μ) else cI (f_X8_at [vR 8 v1, vI v2] μ) (fun x2 μ1 => cI (f_X9_behind [vR 9 1, vI x2] μ1) (fun x4 μ3 => e_X6_look_42 v1 v2 x4 (wr (v2 + 1)) 0 μ3))) :=
  (Rn_rc kt_X6_look [17, 42] 47 _ _ _ _).trans rfl
set_option maxRecDepth 100000 in
set_option maxHeartbeats 2000000 in
theorem q_X6_look_42 (v1 : Nat) (v2 : Int) (v3 : Int) (v4 : Int) (v5 : Int) (μ : Mem) : e_X6_look_42 v1 v2 v3 v4 v5 μ = (if v5 < v3 then cI (f_X6_endAt [vR 6 157, vI v4] μ) (fun x2 μ1 => e_X6_look_42 v1 v2 v3 x2 (wr (v5 + 1)) μ1) else gi v2 (lnC 160) (e_X6_look_17 v1 (wr (v2 + (-1))) (some (vI v3)) (some (vI v4)) (some (vI v5)) (up μ 160 (v2).toNat v4))) :=
  (Rn_rc kt_X6_look [17, 42] 47 _ _ _ _).trans rfl
set_option maxRecDepth 100000 in
set_option maxHeartbeats 2000000 in
theorem q_X1_begin (v0 : Nat) (v1 : Int) (μ : Mem) : f_X1_begin [vR 1 v0, vI v1] μ = (cR 2 (f_X3_get [vR 3 23, vI v1] μ) (fun μ1 => some (none, μ1)) (fun c2 μ1 => gi 0 (lnC (v0 + 5)) (cV (f_X8_copy [vR 8 ((v0 + 5) + 1 + 2 * (0 : Int).toNat), vR 8 (c2 + 1)] (up (up μ1 v0 7 v1) v0 8 0)) (fun μ3 => some (none, μ3))))) :=
  show Rn kc_X1_begin 0 [some (vR 1 v0), some (vI v1), none] [] μ = _ from (Rn_rc kt_X1_begin [] 26 _ _ _ _).trans rfl
set_option maxRecDepth 100000 in
set_option maxHeartbeats 2000000 in
theorem q_X1_drop (v0 : Nat) (μ : Mem) : f_X1_drop [vR 1 v0] μ = (some (none, up (up μ v0 7 (-4)) v0 8 0)) :=
  show Rn kc_X1_drop 0 [some (vR 1 v0)] [] μ = _ from (Rn_rc kt_X1_drop [] 12 _ _ _ _).trans rfl
set_option maxRecDepth 100000 in
set_option maxHeartbeats 2000000 in
theorem q_X1_isDropped (v0 : Nat) (μ : Mem) : f_X1_isDropped [vR 1 v0] μ = (if (μ v0 7) < 0 then gz 1 (some (some (vI 1), μ)) else gz 0 (some (some (vI 0), μ))) :=
  show Rn kc_X1_isDropped 0 [some (vR 1 v0)] [] μ = _ from (Rn_rc kt_X1_isDropped [] 12 _ _ _ _).trans rfl
set_option maxRecDepth 100000 in
set_option maxHeartbeats 2000000 in
theorem q_X1_now (v0 : Nat) (μ : Mem) : f_X1_now [vR 1 v0] μ = (gi (μ v0 8) (lnC (v0 + 5)) (some (some (vR 8 ((v0 + 5) + 1 + 2 * (μ v0 8).toNat)), μ))) :=
  show Rn kc_X1_now 0 [some (vR 1 v0)] [] μ = _ from (Rn_rc kt_X1_now [] 11 _ _ _ _).trans rfl
set_option maxRecDepth 100000 in
set_option maxHeartbeats 2000000 in
theorem q_X1_arrived (v0 : Nat) (μ : Mem) : f_X1_arrived [vR 1 v0] μ = (cR 2 (f_X3_get [vR 3 23, vI (μ v0 7)] μ) (fun μ1 => gz 0 (some (some (vI 0), μ1))) (fun c2 μ1 => cR 8 (f_X1_now [vR 1 v0] μ1) (fun μ3 => none) (fun c4 μ3 => cI (f_X8_same [vR 8 c4, vR 8 (c2 + 3)] μ3) (fun x6 μ5 => if x6 = 0 then gz 0 (some (some (vI 0), μ5)) else gz 1 (some (some (vI 1), μ5)))))) :=
  show Rn kc_X1_arrived 0 [some (vR 1 v0), none] [] μ = _ from (Rn_rc kt_X1_arrived [] 23 _ _ _ _).trans rfl
set_option maxRecDepth 100000 in
set_option maxHeartbeats 2000000 in
theorem q_X1_go (v0 : Nat) (v1 : Int) (v2 : Int) (v3 : Int) (μ : Mem) : f_X1_go [vR 1 v0, vI v1, vI v2, vI v3] μ = (if (μ v0 8) < 20 then gi (μ v0 8) (lnC (v0 + 5)) (cV (f_X6_look [vR 6 157, vR 8 ((v0 + 5) + 1 + 2 * (μ v0 8).toNat)] μ) (fun μ1 => gi (wr ((μ1 v0 8) + 1)) (lnC (v0 + 5)) (cI (f_X6_go [vR 6 157, vI v1, vI v2, vI v3, vI (μ1 v0 7), vR 8 ((v0 + 5) + 1 + 2 * (wr ((μ1 v0 8) + 1)).toNat)] μ1) (fun x3 μ2 => if x3 < 0 then some (some (vI x3), μ2) else gi (μ2 v0 8) (lnC (v0 + 1)) (if v1 = 2 then gi ((up μ2 (v0 + 1) (μ2 v0 8).toNat v1) v0 8) (lnC (v0 + 2)) (gi ((up (up μ2 (v0 + 1) (μ2 v0 8).toNat v1) (v0 + 2) ((up μ2 (v0 + 1) (μ2 v0 8).toNat v1) v0 8).toNat (-4)) v0 8) (lnC (v0 + 3)) (gi ((up (up (up μ2 (v0 + 1) (μ2 v0 8).toNat v1) (v0 + 2) ((up μ2 (v0 + 1) (μ2 v0 8).toNat v1) v0 8).toNat (-4)) (v0 + 3) ((up (up μ2 (v0 + 1) (μ2 v0 8).toNat v1) (v0 + 2) ((up μ2 (v0 + 1) (μ2 v0 8).toNat v1) v0 8).toNat (-4)) v0 8).toNat v3) v0 8) (lnC (v0 + 4)) (some (some (vI x3), up (up (up (up (up μ2 (v0 + 1) (μ2 v0 8).toNat v1) (v0 + 2) ((up μ2 (v0 + 1) (μ2 v0 8).toNat v1) v0 8).toNat (-4)) (v0 + 3) ((up (up μ2 (v0 + 1) (μ2 v0 8).toNat v1) (v0 + 2) ((up μ2 (v0 + 1) (μ2 v0 8).toNat v1) v0 8).toNat (-4)) v0 8).toNat v3) (v0 + 4) ((up (up (up μ2 (v0 + 1) (μ2 v0 8).toNat v1) (v0 + 2) ((up μ2 (v0 + 1) (μ2 v0 8).toNat v1) v0 8).toNat (-4)) (v0 + 3) ((up (up μ2 (v0 + 1) (μ2 v0 8).toNat v1) (v0 + 2) ((up μ2 (v0 + 1) (μ2 v0 8).toNat v1) v0 8).toNat (-4)) v0 8).toNat v3) v0 8).toNat ((up (up (up μ2 (v0 + 1) (μ2 v0 8).toNat v1) (v0 + 2) ((up μ2 (v0 + 1) (μ2 v0 8).toNat v1) v0 8).toNat (-4)) (v0 + 3) ((up (up μ2 (v0 + 1) (μ2 v0 8).toNat v1) (v0 + 2) ((up μ2 (v0 + 1) (μ2 v0 8).toNat v1) v0 8).toNat (-4)) v0 8).toNat v3) 157 6)) v0 8 (wr (((up (up (up (up μ2 (v0 + 1) (μ2 v0 8).toNat v1) (v0 + 2) ((up μ2 (v0 + 1) (μ2 v0 8).toNat v1) v0 8).toNat (-4)) (v0 + 3) ((up (up μ2 (v0 + 1) (μ2 v0 8).toNat v1) (v0 + 2) ((up μ2 (v0 + 1) (μ2 v0 8).toNat v1) v0 8).toNat (-4)) v0 8).toNat v3) (v0 + 4) ((up (up (up μ2 (v0 + 1) (μ2 v0 8).toNat v1) (v0 + 2) ((up μ2 (v0 + 1) (μ2 v0 8).toNat v1) v0 8).toNat (-4)) (v0 + 3) ((up (up μ2 (v0 + 1) (μ2 v0 8).toNat v1) (v0 + 2) ((up μ2 (v0 + 1) (μ2 v0 8).toNat v1) v0 8).toNat (-4)) v0 8).toNat v3) v0 8).toNat ((up (up (up μ2 (v0 + 1) (μ2 v0 8).toNat v1) (v0 + 2) ((up μ2 (v0 + 1) (μ2 v0 8).toNat v1) v0 8).toNat (-4)) (v0 + 3) ((up (up μ2 (v0 + 1) (μ2 v0 8).toNat v1) (v0 + 2) ((up μ2 (v0 + 1) (μ2 v0 8).toNat v1) v0 8).toNat (-4)) v0 8).toNat v3) 157 6)) v0 8) + 1)))))) else gi ((up μ2 (v0 + 1) (μ2 v0 8).toNat v1) v0 8) (lnC (v0 + 2)) (gi ((up (up μ2 (v0 + 1) (μ2 v0 8).toNat v1) (v0 + 2) ((up μ2 (v0 + 1) (μ2 v0 8).toNat v1) v0 8).toNat v2) v0 8) (lnC (v0 + 3)) (gi ((up (up (up μ2 (v0 + 1) (μ2 v0 8).toNat v1) (v0 + 2) ((up μ2 (v0 + 1) (μ2 v0 8).toNat v1) v0 8).toNat v2) (v0 + 3) ((up (up μ2 (v0 + 1) (μ2 v0 8).toNat v1) (v0 + 2) ((up μ2 (v0 + 1) (μ2 v0 8).toNat v1) v0 8).toNat v2) v0 8).toNat v3) v0 8) (lnC (v0 + 4)) (some (some (vI x3), up (up (up (up (up μ2 (v0 + 1) (μ2 v0 8).toNat v1) (v0 + 2) ((up μ2 (v0 + 1) (μ2 v0 8).toNat v1) v0 8).toNat v2) (v0 + 3) ((up (up μ2 (v0 + 1) (μ2 v0 8).toNat v1) (v0 + 2) ((up μ2 (v0 + 1) (μ2 v0 8).toNat v1) v0 8).toNat v2) v0 8).toNat v3) (v0 + 4) ((up (up (up μ2 (v0 + 1) (μ2 v0 8).toNat v1) (v0 + 2) ((up μ2 (v0 + 1) (μ2 v0 8).toNat v1) v0 8).toNat v2) (v0 + 3) ((up (up μ2 (v0 + 1) (μ2 v0 8).toNat v1) (v0 + 2) ((up μ2 (v0 + 1) (μ2 v0 8).toNat v1) v0 8).toNat v2) v0 8).toNat v3) v0 8).toNat ((up (up (up μ2 (v0 + 1) (μ2 v0 8).toNat v1) (v0 + 2) ((up μ2 (v0 + 1) (μ2 v0 8).toNat v1) v0 8).toNat v2) (v0 + 3) ((up (up μ2 (v0 + 1) (μ2 v0 8).toNat v1) (v0 + 2) ((up μ2 (v0 + 1) (μ2 v0 8).toNat v1) v0 8).toNat v2) v0 8).toNat v3) 157 6)) v0 8 (wr (((up (up (up (up μ2 (v0 + 1) (μ2 v0 8).toNat v1) (v0 + 2) ((up μ2 (v0 + 1) (μ2 v0 8).toNat v1) v0 8).toNat v2) (v0 + 3) ((up (up μ2 (v0 + 1) (μ2 v0 8).toNat v1) (v0 + 2) ((up μ2 (v0 + 1) (μ2 v0 8).toNat v1) v0 8).toNat v2) v0 8).toNat v3) (v0 + 4) ((up (up (up μ2 (v0 + 1) (μ2 v0 8).toNat v1) (v0 + 2) ((up μ2 (v0 + 1) (μ2 v0 8).toNat v1) v0 8).toNat v2) (v0 + 3) ((up (up μ2 (v0 + 1) (μ2 v0 8).toNat v1) (v0 + 2) ((up μ2 (v0 + 1) (μ2 v0 8).toNat v1) v0 8).toNat v2) v0 8).toNat v3) v0 8).toNat ((up (up (up μ2 (v0 + 1) (μ2 v0 8).toNat v1) (v0 + 2) ((up μ2 (v0 + 1) (μ2 v0 8).toNat v1) v0 8).toNat v2) (v0 + 3) ((up (up μ2 (v0 + 1) (μ2 v0 8).toNat v1) (v0 + 2) ((up μ2 (v0 + 1) (μ2 v0 8).toNat v1) v0 8).toNat v2) v0 8).toNat v3) 157 6)) v0 8) + 1))))))))))) else some (some (vI (-3)), μ)) :=
  show Rn kc_X1_go 0 [some (vR 1 v0), some (vI v1), some (vI v2), some (vI v3), none] [] μ = _ from (Rn_rc kt_X1_go [] 78 _ _ _ _).trans rfl
set_option maxRecDepth 100000 in
set_option maxHeartbeats 2000000 in
theorem q_X1_goBack (v0 : Nat) (μ : Mem) : f_X1_goBack [vR 1 v0] μ = (if (μ v0 8) = 0 then some (some (vI (-4)), μ) else some (some (vI ((up μ v0 8 (wr ((μ v0 8) - 1))) v0 8)), up μ v0 8 (wr ((μ v0 8) - 1)))) :=
  show Rn kc_X1_goBack 0 [some (vR 1 v0)] [] μ = _ from (Rn_rc kt_X1_goBack [] 19 _ _ _ _).trans rfl
set_option maxRecDepth 100000 in
set_option maxHeartbeats 2000000 in
theorem q_X1_kindAt (v0 : Nat) (v1 : Int) (μ : Mem) : f_X1_kindAt [vR 1 v0, vI v1] μ = (if v1 < 0 then some (some (vI (-4)), μ) else if v1 < (μ v0 8) then gi v1 (lnC (v0 + 1)) (some (some (vI (μ (v0 + 1) (v1).toNat)), μ)) else some (some (vI (-4)), μ)) :=
  show Rn kc_X1_kindAt 0 [some (vR 1 v0), some (vI v1)] [] μ = _ from (Rn_rc kt_X1_kindAt [] 18 _ _ _ _).trans rfl
set_option maxRecDepth 100000 in
set_option maxHeartbeats 2000000 in
theorem q_X1_whichAt (v0 : Nat) (v1 : Int) (μ : Mem) : f_X1_whichAt [vR 1 v0, vI v1] μ = (if v1 < 0 then some (some (vI (-4)), μ) else if v1 < (μ v0 8) then gi v1 (lnC (v0 + 2)) (some (some (vI (μ (v0 + 2) (v1).toNat)), μ)) else some (some (vI (-4)), μ)) :=
  show Rn kc_X1_whichAt 0 [some (vR 1 v0), some (vI v1)] [] μ = _ from (Rn_rc kt_X1_whichAt [] 18 _ _ _ _).trans rfl
set_option maxRecDepth 100000 in
set_option maxHeartbeats 2000000 in
theorem q_X1_placeAt (v0 : Nat) (v1 : Int) (μ : Mem) : f_X1_placeAt [vR 1 v0, vI v1] μ = (if v1 < 0 then some (some (vI (-4)), μ) else if v1 < (μ v0 8) then gi v1 (lnC (v0 + 3)) (some (some (vI (μ (v0 + 3) (v1).toNat)), μ)) else some (some (vI (-4)), μ)) :=
  show Rn kc_X1_placeAt 0 [some (vR 1 v0), some (vI v1)] [] μ = _ from (Rn_rc kt_X1_placeAt [] 18 _ _ _ _).trans rfl
noncomputable def e_X1_using_4 (v0 : Nat) (v1 : Int) (v2 : Int) (μ : Mem) : Option Rs := Rn kc_X1_using 4 [some (vR 1 v0), some (vI v1), some (vI v2)] [] μ
set_option maxRecDepth 100000 in
set_option maxHeartbeats 2000000 in
theorem q_X1_using (v0 : Nat) (μ : Mem) : f_X1_using [vR 1 v0] μ = (e_X1_using_4 v0 0 0 μ) :=
  show Rn kc_X1_using 0 [some (vR 1 v0), none, none] [] μ = _ from (Rn_rc kt_X1_using [4] 37 _ _ _ _).trans rfl
set_option maxRecDepth 100000 in
set_option maxHeartbeats 2000000 in
theorem q_X1_using_4 (v0 : Nat) (v1 : Int) (v2 : Int) (μ : Mem) : e_X1_using_4 v0 v1 v2 μ = (if v2 < (μ v0 8) then gi v2 (lnC (v0 + 1)) (if (μ (v0 + 1) (v2).toNat) = 0 then gi v2 (lnC (v0 + 2)) (e_X1_using_4 v0 (bOr v1 (bShl 1 (μ (v0 + 2) (v2).toNat))) (wr (v2 + 1)) μ) else gi v2 (lnC (v0 + 1)) (if (μ (v0 + 1) (v2).toNat) = 1 then gi v2 (lnC (v0 + 2)) (e_X1_using_4 v0 (bOr v1 (bShl 1 (μ (v0 + 2) (v2).toNat))) (wr (v2 + 1)) μ) else e_X1_using_4 v0 v1 (wr (v2 + 1)) μ)) else some (some (vI v1), μ)) :=
  (Rn_rc kt_X1_using [4] 37 _ _ _ _).trans rfl
noncomputable def e_X1_putting_4 (v0 : Nat) (v1 : Int) (v2 : Int) (μ : Mem) : Option Rs := Rn kc_X1_putting 4 [some (vR 1 v0), some (vI v1), some (vI v2)] [] μ
set_option maxRecDepth 100000 in
set_option maxHeartbeats 2000000 in
theorem q_X1_putting (v0 : Nat) (μ : Mem) : f_X1_putting [vR 1 v0] μ = (e_X1_putting_4 v0 0 0 μ) :=
  show Rn kc_X1_putting 0 [some (vR 1 v0), none, none] [] μ = _ from (Rn_rc kt_X1_putting [4] 31 _ _ _ _).trans rfl
set_option maxRecDepth 100000 in
set_option maxHeartbeats 2000000 in
theorem q_X1_putting_4 (v0 : Nat) (v1 : Int) (v2 : Int) (μ : Mem) : e_X1_putting_4 v0 v1 v2 μ = (if v2 < (μ v0 8) then gi v2 (lnC (v0 + 4)) (if (μ (v0 + 4) (v2).toNat) < 0 then e_X1_putting_4 v0 v1 (wr (v2 + 1)) μ else gi v2 (lnC (v0 + 4)) (e_X1_putting_4 v0 (bOr v1 (bShl 1 (μ (v0 + 4) (v2).toNat))) (wr (v2 + 1)) μ)) else some (some (vI v1), μ)) :=
  (Rn_rc kt_X1_putting [4] 31 _ _ _ _).trans rfl
