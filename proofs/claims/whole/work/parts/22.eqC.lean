noncomputable def e_X7_append_14 (v1 : Int) (o2 : Option AV) (v3 : Int) (μ : Mem) : Option Rs := Rn kc_X7_append 14 [some (vR 7 151), some (vL v1), o2, some (vI v3)] [] μ
set_option maxRecDepth 100000 in
set_option maxHeartbeats 2000000 in
theorem q_X7_append (v1 : Int) (μ : Mem) : f_X7_append [vR 7 151, vL v1] μ = (if (μ 151 8) ≤ 232 then e_X7_append_14 v1 none 0 μ else gz 0 (some (some (vI 0), μ))) :=
  show Rn kc_X7_append 0 [some (vR 7 151), some (vL v1), none, none] [] μ = _ from (Rn_rc kt_X7_append [14] 40 _ _ _ _).trans rfl
set_option maxRecDepth 100000 in
set_option maxHeartbeats 2000000 in
theorem q_X7_append_14 (v1 : Int) (o2 : Option AV) (v3 : Int) (μ : Mem) : e_X7_append_14 v1 o2 v3 μ = (if v3 < 8 then gi (μ 151 8) (lnC 152) (e_X7_append_14 v1 (kl o2) (wr (v3 + 1)) (up (up μ 152 (μ 151 8).toNat (wrB (wrB (wr (lShr v1 (wr (56 - (wr (8 * v3))))))))) 151 8 (wr (((up μ 152 (μ 151 8).toNat (wrB (wrB (wr (lShr v1 (wr (56 - (wr (8 * v3))))))))) 151 8) + 1)))) else gz 1 (some (some (vI 1), μ))) :=
  (Rn_rc kt_X7_append [14] 40 _ _ _ _).trans rfl
set_option maxRecDepth 100000 in
set_option maxHeartbeats 2000000 in
theorem q_X7_byteAt (v1 : Int) (μ : Mem) : f_X7_byteAt [vR 7 151, vI v1] μ = (if v1 < 0 then some (some (vI 0), μ) else if v1 < (μ 151 8) then gi v1 (lnC 152) (some (some (vI (μ 152 (v1).toNat)), μ)) else some (some (vI 0), μ)) :=
  show Rn kc_X7_byteAt 0 [some (vR 7 151), some (vI v1)] [] μ = _ from (Rn_rc kt_X7_byteAt [] 18 _ _ _ _).trans rfl
set_option maxRecDepth 100000 in
set_option maxHeartbeats 2000000 in
theorem q_X7_fails (v1 : Int) (μ : Mem) : f_X7_fails [vR 7 151, vI v1] μ = (gz 0 (some (some (vI 0), up μ 151 9 v1))) :=
  show Rn kc_X7_fails 0 [some (vR 7 151), some (vI v1)] [] μ = _ from (Rn_rc kt_X7_fails [] 10 _ _ _ _).trans rfl
set_option maxRecDepth 100000 in
set_option maxHeartbeats 2000000 in
theorem q_X7_kindAt (v1 : Int) (μ : Mem) : f_X7_kindAt [vR 7 151, vI v1] μ = (if v1 < 0 then some (some (vI 0), μ) else if v1 < (μ 151 8) then gi v1 (lnC 152) (if (μ 152 (v1).toNat) < 97 then if (μ 152 (v1).toNat) < 48 then if (μ 152 (v1).toNat) = 61 then some (some (vI 3), μ) else if (μ 152 (v1).toNat) = 59 then some (some (vI 4), μ) else some (some (vI 5), μ) else if (μ 152 (v1).toNat) ≤ 57 then some (some (vI 2), μ) else if (μ 152 (v1).toNat) = 61 then some (some (vI 3), μ) else if (μ 152 (v1).toNat) = 59 then some (some (vI 4), μ) else some (some (vI 5), μ) else if (μ 152 (v1).toNat) ≤ 122 then some (some (vI 1), μ) else if (μ 152 (v1).toNat) < 48 then if (μ 152 (v1).toNat) = 61 then some (some (vI 3), μ) else if (μ 152 (v1).toNat) = 59 then some (some (vI 4), μ) else some (some (vI 5), μ) else if (μ 152 (v1).toNat) ≤ 57 then some (some (vI 2), μ) else if (μ 152 (v1).toNat) = 61 then some (some (vI 3), μ) else if (μ 152 (v1).toNat) = 59 then some (some (vI 4), μ) else some (some (vI 5), μ)) else some (some (vI 0), μ)) :=
  show Rn kc_X7_kindAt 0 [some (vR 7 151), some (vI v1), none] [] μ = _ from (Rn_rc kt_X7_kindAt [] 46 _ _ _ _).trans rfl
noncomputable def e_X7_advance_8  (μ : Mem) : Option Rs := Rn kc_X7_advance 8 [some (vR 7 151)] [] μ
noncomputable def e_X7_advance_45  (μ : Mem) : Option Rs := Rn kc_X7_advance 45 [some (vR 7 151)] [] μ
noncomputable def e_X7_advance_114  (μ : Mem) : Option Rs := Rn kc_X7_advance 114 [some (vR 7 151)] [] μ
set_option maxRecDepth 100000 in
set_option maxHeartbeats 2000000 in
theorem q_X7_advance  (μ : Mem) : f_X7_advance [vR 7 151] μ = (e_X7_advance_8  (up μ 151 6 (μ 151 7))) :=
  show Rn kc_X7_advance 0 [some (vR 7 151)] [] μ = _ from (Rn_rc kt_X7_advance [8, 45, 114] 102 _ _ _ _).trans rfl
set_option maxRecDepth 100000 in
set_option maxHeartbeats 2000000 in
theorem q_X7_advance_8  (μ : Mem) : e_X7_advance_8  μ = (if (μ 151 6) < (μ 151 8) then cI (f_X7_byteAt [vR 7 151, vI (μ 151 6)] μ) (fun x2 μ1 => if x2 = 32 then e_X7_advance_8  (up μ1 151 6 (wr ((μ1 151 6) + 1))) else e_X7_advance_45  μ1) else e_X7_advance_45  μ) :=
  (Rn_rc kt_X7_advance [8, 45, 114] 102 _ _ _ _).trans rfl
set_option maxRecDepth 100000 in
set_option maxHeartbeats 2000000 in
theorem q_X7_advance_45  (μ : Mem) : e_X7_advance_45  μ = (cI (f_X7_kindAt [vR 7 151, vI ((up μ 151 7 (μ 151 6)) 151 6)] (up μ 151 7 (μ 151 6))) (fun x2 μ1 => if ((up μ1 151 5 x2) 151 5) = 5 then cI (f_X7_fails [vR 7 151, vI 1] (up μ1 151 5 x2)) (fun x6 μ5 => gz x6 (some (some (vI x6), μ5))) else if ((up μ1 151 5 x2) 151 5) = 0 then gz 1 (some (some (vI 1), up μ1 151 5 x2)) else if ((up (up μ1 151 5 x2) 151 7 (wr (((up μ1 151 5 x2) 151 7) + 1))) 151 5) = 1 then e_X7_advance_114  (up (up μ1 151 5 x2) 151 7 (wr (((up μ1 151 5 x2) 151 7) + 1))) else if ((up (up μ1 151 5 x2) 151 7 (wr (((up μ1 151 5 x2) 151 7) + 1))) 151 5) = 2 then e_X7_advance_114  (up (up μ1 151 5 x2) 151 7 (wr (((up μ1 151 5 x2) 151 7) + 1))) else if ((up (up μ1 151 5 x2) 151 7 (wr (((up μ1 151 5 x2) 151 7) + 1))) 151 5) = 2 then if (wr (((up (up μ1 151 5 x2) 151 7 (wr (((up μ1 151 5 x2) 151 7) + 1))) 151 7) - ((up (up μ1 151 5 x2) 151 7 (wr (((up μ1 151 5 x2) 151 7) + 1))) 151 6))) = 1 then gz 1 (some (some (vI 1), up (up μ1 151 5 x2) 151 7 (wr (((up μ1 151 5 x2) 151 7) + 1)))) else cI (f_X7_fails [vR 7 151, vI 1] (up (up μ1 151 5 x2) 151 7 (wr (((up μ1 151 5 x2) 151 7) + 1)))) (fun x4 μ3 => if x4 = 0 then gz 0 (some (some (vI 0), μ3)) else gz 1 (some (some (vI 1), μ3))) else gz 1 (some (some (vI 1), up (up μ1 151 5 x2) 151 7 (wr (((up μ1 151 5 x2) 151 7) + 1)))))) :=
  (Rn_rc kt_X7_advance [8, 45, 114] 102 _ _ _ _).trans rfl
set_option maxRecDepth 100000 in
set_option maxHeartbeats 2000000 in
theorem q_X7_advance_114  (μ : Mem) : e_X7_advance_114  μ = (if (μ 151 7) < (μ 151 8) then cI (f_X7_kindAt [vR 7 151, vI (μ 151 7)] μ) (fun x4 μ3 => if x4 = (μ3 151 5) then e_X7_advance_114  (up μ3 151 7 (wr ((μ3 151 7) + 1))) else if (μ3 151 5) = 2 then if (wr ((μ3 151 7) - (μ3 151 6))) = 1 then gz 1 (some (some (vI 1), μ3)) else cI (f_X7_fails [vR 7 151, vI 1] μ3) (fun x6 μ5 => if x6 = 0 then gz 0 (some (some (vI 0), μ5)) else gz 1 (some (some (vI 1), μ5))) else gz 1 (some (some (vI 1), μ3))) else if (μ 151 5) = 2 then if (wr ((μ 151 7) - (μ 151 6))) = 1 then gz 1 (some (some (vI 1), μ)) else cI (f_X7_fails [vR 7 151, vI 1] μ) (fun x2 μ1 => if x2 = 0 then gz 0 (some (some (vI 0), μ1)) else gz 1 (some (some (vI 1), μ1))) else gz 1 (some (some (vI 1), μ))) :=
  (Rn_rc kt_X7_advance [8, 45, 114] 102 _ _ _ _).trans rfl
set_option maxRecDepth 100000 in
set_option maxHeartbeats 2000000 in
theorem q_X7_begin  (μ : Mem) : f_X7_begin [vR 7 151] μ = (some (none, up (up (up μ 151 7 0) 151 6 0) 151 9 0)) :=
  show Rn kc_X7_begin 0 [some (vR 7 151)] [] μ = _ from (Rn_rc kt_X7_begin [] 15 _ _ _ _).trans rfl
noncomputable def e_X7_isRow_26 (v1 : Nat) (v2 : Int) (μ : Mem) : Option Rs := Rn kc_X7_isRow 26 [some (vR 7 151), some (vR 31 v1), some (vI v2)] [] μ
set_option maxRecDepth 100000 in
set_option maxHeartbeats 2000000 in
theorem q_X7_isRow (v1 : Nat) (μ : Mem) : f_X7_isRow [vR 7 151, vR 31 v1] μ = (if (μ 151 5) = 1 then if (wr ((μ 151 7) - (μ 151 6))) = ((sLn v1 : Nat) : Int) then e_X7_isRow_26 v1 0 μ else gz 0 (some (some (vI 0), μ)) else gz 0 (some (some (vI 0), μ))) :=
  show Rn kc_X7_isRow 0 [some (vR 7 151), some (vR 31 v1), none] [] μ = _ from (Rn_rc kt_X7_isRow [26] 41 _ _ _ _).trans rfl
set_option maxRecDepth 100000 in
set_option maxHeartbeats 2000000 in
theorem q_X7_isRow_26 (v1 : Nat) (v2 : Int) (μ : Mem) : e_X7_isRow_26 v1 v2 μ = (if v2 < ((sLn v1 : Nat) : Int) then cI (f_X7_byteAt [vR 7 151, vI (wr ((μ 151 6) + v2))] μ) (fun x2 μ1 => gi v2 (sLn v1) (if x2 = (sCt v1 (v2).toNat) then e_X7_isRow_26 v1 (wr (v2 + 1)) μ1 else gz 0 (some (some (vI 0), μ1)))) else gz 1 (some (some (vI 1), μ))) :=
  (Rn_rc kt_X7_isRow [26] 41 _ _ _ _).trans rfl
set_option maxRecDepth 100000 in
set_option maxHeartbeats 2000000 in
theorem q_X7_want (v1 : Int) (μ : Mem) : f_X7_want [vR 7 151, vI v1] μ = (cI (f_X7_advance [vR 7 151] μ) (fun x2 μ1 => if x2 = 0 then gz 0 (some (some (vI 0), μ1)) else if (μ1 151 5) = v1 then gz 1 (some (some (vI 1), μ1)) else cI (f_X7_fails [vR 7 151, vI 2] μ1) (fun x4 μ3 => if x4 = 0 then gz 0 (some (some (vI 0), μ3)) else gz 1 (some (some (vI 1), μ3))))) :=
  show Rn kc_X7_want 0 [some (vR 7 151), some (vI v1)] [] μ = _ from (Rn_rc kt_X7_want [] 20 _ _ _ _).trans rfl
noncomputable def e_X7_wantTerm_21 (v1 : Nat) (v2 : Int) (v3 : Int) (v4 : Int) (μ : Mem) : Option Rs := Rn kc_X7_wantTerm 21 [some (vR 7 151), some (vR 8 v1), some (vI v2), some (vI v3), some (vI v4)] [] μ
set_option maxRecDepth 100000 in
set_option maxHeartbeats 2000000 in
theorem q_X7_wantTerm (v1 : Nat) (v2 : Int) (v3 : Int) (μ : Mem) : f_X7_wantTerm [vR 7 151, vR 8 v1, vI v2, vI v3] μ = (cI (f_X7_want [vR 7 151, vI 1] μ) (fun x2 μ1 => if x2 = 0 then gz 0 (some (some (vI 0), μ1)) else e_X7_wantTerm_21 v1 v2 v3 ((up μ1 v1 1 0) 151 6) (up μ1 v1 1 0))) :=
  show Rn kc_X7_wantTerm 0 [some (vR 7 151), some (vR 8 v1), some (vI v2), some (vI v3), none] [] μ = _ from (Rn_rc kt_X7_wantTerm [21] 50 _ _ _ _).trans rfl
set_option maxRecDepth 100000 in
set_option maxHeartbeats 2000000 in
theorem q_X7_wantTerm_21 (v1 : Nat) (v2 : Int) (v3 : Int) (v4 : Int) (μ : Mem) : e_X7_wantTerm_21 v1 v2 v3 v4 μ = (if v4 < (μ 151 7) then cI (f_X7_byteAt [vR 7 151, vI v4] μ) (fun x6 μ5 => cI (f_X8_add [vR 8 v1, vI (wr (x6 - 97))] μ5) (fun x8 μ7 => if x8 = 0 then cI (f_X7_fails [vR 7 151, vI 5] μ7) (fun x10 μ9 => gz x10 (some (some (vI x10), μ9))) else e_X7_wantTerm_21 v1 v2 v3 (wr (v4 + 1)) μ7)) else cI (f_X9_isTerm [vR 9 1, vR 8 v1, vI v2, vI v3] μ) (fun x2 μ1 => if x2 = 0 then cI (f_X7_fails [vR 7 151, vI 5] μ1) (fun x4 μ3 => if x4 = 0 then gz 0 (some (some (vI 0), μ3)) else gz 1 (some (some (vI 1), μ3))) else gz 1 (some (some (vI 1), μ1)))) :=
  (Rn_rc kt_X7_wantTerm [21] 50 _ _ _ _).trans rfl
set_option maxRecDepth 100000 in
set_option maxHeartbeats 2000000 in
theorem q_X7_tellSaying (v1 : Int) (v2 : Int) (v3 : Int) (μ : Mem) : f_X7_tellSaying [vR 7 151, vI v1, vI v2, vI v3] μ = (if (μ 23 9) < 24 then cI (f_X7_wantTerm [vR 7 151, vR 8 153, vI 3, vI (μ 1 5)] μ) (fun x2 μ1 => if x2 = 0 then gz 0 (some (some (vI 0), μ1)) else cI (f_X7_want [vR 7 151, vI 3] μ1) (fun x4 μ3 => if x4 = 0 then gz 0 (some (some (vI 0), μ3)) else cI (f_X7_wantTerm [vR 7 151, vR 8 155, vI 3, vI (μ3 1 5)] μ3) (fun x6 μ5 => if x6 = 0 then gz 0 (some (some (vI 0), μ5)) else cI (f_X7_want [vR 7 151, vI 4] μ5) (fun x8 μ7 => if x8 = 0 then gz 0 (some (some (vI 0), μ7)) else cV (f_X3_add [vR 3 23, vR 8 153, vR 8 155, vI v1, vI v2, vI v3] μ7) (fun μ9 => gz 1 (some (some (vI 1), μ9))))))) else cI (f_X7_fails [vR 7 151, vI 6] μ) (fun x11 μ10 => gz x11 (some (some (vI x11), μ10)))) :=
  show Rn kc_X7_tellSaying 0 [some (vR 7 151), some (vI v1), some (vI v2), some (vI v3), none] [] μ = _ from (Rn_rc kt_X7_tellSaying [] 58 _ _ _ _).trans rfl
set_option maxRecDepth 100000 in
set_option maxHeartbeats 2000000 in
theorem q_X7_tellWord  (μ : Mem) : f_X7_tellWord [vR 7 151] μ = (cI (f_X7_want [vR 7 151, vI 1] μ) (fun x2 μ1 => if x2 = 0 then gz 0 (some (some (vI 0), μ1)) else cI (f_X7_byteAt [vR 7 151, vI (μ1 151 6)] μ1) (fun x4 μ3 => if (wr ((μ3 151 7) - (μ3 151 6))) = 1 then if (wr (x4 - 97)) < 4 then cI (f_X9_numberOf [vR 9 1, vI (wr (x4 - 97))] μ3) (fun x8 μ7 => if x8 < 0 then cI (f_X7_want [vR 7 151, vI 2] μ7) (fun x10 μ9 => if x10 = 0 then gz 0 (some (some (vI 0), μ9)) else cI (f_X7_byteAt [vR 7 151, vI (μ9 151 6)] μ9) (fun x12 μ11 => if (wr (x12 - 48)) < 1 then cI (f_X7_fails [vR 7 151, vI 3] μ11) (fun x14 μ13 => gz x14 (some (some (vI x14), μ13))) else if (wr (x12 - 48)) ≤ 2 then cI (f_X7_wantTerm [vR 7 151, vR 8 153, vI (wr (x12 - 48)), vI (μ11 1 5)] μ11) (fun x16 μ15 => if x16 = 0 then gz 0 (some (some (vI 0), μ15)) else cI (f_X7_want [vR 7 151, vI 4] μ15) (fun x18 μ17 => if x18 = 0 then gz 0 (some (some (vI 0), μ17)) else cV (f_X9_add [vR 9 1, vI (wr (x4 - 97)), vI (wr (x12 - 48)), vR 8 153] μ17) (fun μ19 => gz 1 (some (some (vI 1), μ19))))) else cI (f_X7_fails [vR 7 151, vI 3] μ11) (fun x21 μ20 => gz x21 (some (some (vI x21), μ20))))) else cI (f_X7_fails [vR 7 151, vI 4] μ7) (fun x23 μ22 => gz x23 (some (some (vI x23), μ22)))) else cI (f_X7_fails [vR 7 151, vI 2] μ3) (fun x25 μ24 => gz x25 (some (some (vI x25), μ24))) else cI (f_X7_fails [vR 7 151, vI 2] μ3) (fun x6 μ5 => gz x6 (some (some (vI x6), μ5)))))) :=
  show Rn kc_X7_tellWord 0 [some (vR 7 151), none, none] [] μ = _ from (Rn_rc kt_X7_tellWord [] 88 _ _ _ _).trans rfl
set_option maxRecDepth 100000 in
set_option maxHeartbeats 2000000 in
theorem q_X7_tellLine (v1 : Int) (v2 : Int) (μ : Mem) : f_X7_tellLine [vR 7 151, vI v1, vI v2] μ = (cI (f_X7_isRow [vR 7 151, vR 31 0] μ) (fun x2 μ1 => if x2 = 0 then cI (f_X7_isRow [vR 7 151, vR 31 1] μ1) (fun x4 μ3 => if x4 = 0 then cI (f_X7_isRow [vR 7 151, vR 31 2] μ3) (fun x6 μ5 => if x6 = 0 then cI (f_X7_fails [vR 7 151, vI 2] μ5) (fun x8 μ7 => gz x8 (some (some (vI x8), μ7))) else cI (f_X7_tellSaying [vR 7 151, vI 1, vI v1, vI v2] μ5) (fun x10 μ9 => gz x10 (some (some (vI x10), μ9)))) else cI (f_X7_tellSaying [vR 7 151, vI 0, vI v1, vI v2] μ3) (fun x12 μ11 => gz x12 (some (some (vI x12), μ11)))) else cI (f_X7_tellWord [vR 7 151] μ1) (fun x14 μ13 => gz x14 (some (some (vI x14), μ13))))) :=
  show Rn kc_X7_tellLine 0 [some (vR 7 151), some (vI v1), some (vI v2)] [] μ = _ from (Rn_rc kt_X7_tellLine [] 36 _ _ _ _).trans rfl
noncomputable def e_X7_tellLines_33 (v1 : Int) (v2 : Int) (v3 : Int) (v4 : Int) (v5 : Int) (v6 : Int) (v7 : Int) (μ : Mem) : Option Rs := Rn kc_X7_tellLines 33 [some (vR 7 151), some (vI v1), some (vI v2), some (vI v3), some (vI v4), some (vI v5), some (vI v6), some (vI v7)] [] μ
set_option maxRecDepth 100000 in
set_option maxHeartbeats 2000000 in
theorem q_X7_tellLines (v1 : Int) (v2 : Int) (μ : Mem) : f_X7_tellLines [vR 7 151, vI v1, vI v2] μ = (cV (f_X7_begin [vR 7 151] μ) (fun μ1 => cI (f_X7_advance [vR 7 151] μ1) (fun x3 μ2 => e_X7_tellLines_33 v1 v2 (μ 1 5) (μ 23 9) 0 x3 0 μ2))) :=
  show Rn kc_X7_tellLines 0 [some (vR 7 151), some (vI v1), some (vI v2), none, none, none, none, none] [] μ = _ from (Rn_rc kt_X7_tellLines [33] 65 _ _ _ _).trans rfl
set_option maxRecDepth 100000 in
set_option maxHeartbeats 2000000 in
theorem q_X7_tellLines_33 (v1 : Int) (v2 : Int) (v3 : Int) (v4 : Int) (v5 : Int) (v6 : Int) (v7 : Int) (μ : Mem) : e_X7_tellLines_33 v1 v2 v3 v4 v5 v6 v7 μ = (if v7 < 240 then if v6 = 0 then if v6 = 0 then cV (f_X9_keep [vR 9 1, vI v3] (up μ 151 8 0)) (fun μ3 => cV (f_X3_keep [vR 3 23, vI v4] μ3) (fun μ4 => some (some (vI (wr ((-10) - (μ4 151 6)))), μ4))) else some (some (vI v5), up μ 151 8 0) else if (μ 151 5) = 0 then if v6 = 0 then cV (f_X9_keep [vR 9 1, vI v3] (up μ 151 8 0)) (fun μ5 => cV (f_X3_keep [vR 3 23, vI v4] μ5) (fun μ6 => some (some (vI (wr ((-10) - (μ6 151 6)))), μ6))) else some (some (vI v5), up μ 151 8 0) else cI (f_X7_tellLine [vR 7 151, vI v1, vI v2] μ) (fun x8 μ7 => if x8 = 0 then e_X7_tellLines_33 v1 v2 v3 v4 (wr (v5 + 1)) 0 (wr (v7 + 1)) μ7 else cI (f_X7_advance [vR 7 151] μ7) (fun x10 μ9 => if x10 = 0 then e_X7_tellLines_33 v1 v2 v3 v4 (wr (v5 + 1)) 0 (wr (v7 + 1)) μ9 else e_X7_tellLines_33 v1 v2 v3 v4 (wr (v5 + 1)) 1 (wr (v7 + 1)) μ9)) else if v6 = 0 then cV (f_X9_keep [vR 9 1, vI v3] (up μ 151 8 0)) (fun μ1 => cV (f_X3_keep [vR 3 23, vI v4] μ1) (fun μ2 => some (some (vI (wr ((-10) - (μ2 151 6)))), μ2))) else some (some (vI v5), up μ 151 8 0)) :=
  (Rn_rc kt_X7_tellLines [33] 65 _ _ _ _).trans rfl
set_option maxRecDepth 100000 in
set_option maxHeartbeats 2000000 in
theorem q_X7_tellMeaning (v1 : Int) (μ : Mem) : f_X7_tellMeaning [vR 7 151, vI v1] μ = (cR 8 (f_X9_meaningOf [vR 9 1, vI v1] μ) (fun μ1 => cV (f_X7_begin [vR 7 151] μ1) (fun μ3 => cI (f_X9_needOf [vR 9 1, vI v1] μ3) (fun x5 μ4 => cI (f_X7_wantTerm [vR 7 151, vR 8 153, vI x5, vI v1] μ4) (fun x7 μ6 => if x7 = 0 then some (some (vI (wr ((-10) - ((up μ6 151 8 0) 151 6)))), up μ6 151 8 0) else cI (f_X7_want [vR 7 151, vI 0] μ6) (fun x9 μ8 => if x9 = 0 then some (some (vI (wr ((-10) - ((up μ8 151 8 0) 151 6)))), up μ8 151 8 0) else some (some (vI (wr ((-10) - ((up μ8 151 8 0) 151 6)))), up μ8 151 8 0)))))) (fun c2 μ1 => cV (f_X7_begin [vR 7 151] μ1) (fun μ10 => cI (f_X9_needOf [vR 9 1, vI v1] μ10) (fun x12 μ11 => cI (f_X7_wantTerm [vR 7 151, vR 8 153, vI x12, vI v1] μ11) (fun x14 μ13 => if x14 = 0 then some (some (vI (wr ((-10) - ((up μ13 151 8 0) 151 6)))), up μ13 151 8 0) else cI (f_X7_want [vR 7 151, vI 0] μ13) (fun x16 μ15 => if x16 = 0 then some (some (vI (wr ((-10) - ((up μ15 151 8 0) 151 6)))), up μ15 151 8 0) else cV (f_X8_copy [vR 8 c2, vR 8 153] (up μ15 151 8 0)) (fun μ17 => some (some (vI 0), μ17)))))))) :=
  show Rn kc_X7_tellMeaning 0 [some (vR 7 151), some (vI v1), none, none] [] μ = _ from (Rn_rc kt_X7_tellMeaning [] 48 _ _ _ _).trans rfl
set_option maxRecDepth 100000 in
set_option maxHeartbeats 2000000 in
theorem q_X5_isSheet (v1 : Int) (μ : Mem) : f_X5_isSheet [vR 5 796, vI v1] μ = (if v1 < 0 then gz 0 (some (some (vI 0), μ)) else if v1 < 4 then gz 1 (some (some (vI 1), μ)) else gz 0 (some (some (vI 0), μ))) :=
  show Rn kc_X5_isSheet 0 [some (vR 5 796), some (vI v1)] [] μ = _ from (Rn_rc kt_X5_isSheet [] 14 _ _ _ _).trans rfl
set_option maxRecDepth 100000 in
set_option maxHeartbeats 2000000 in
theorem q_X5_isLane (v1 : Int) (μ : Mem) : f_X5_isLane [vR 5 796, vI v1] μ = (if v1 < 0 then gz 0 (some (some (vI 0), μ)) else if v1 ≤ 2 then gz 1 (some (some (vI 1), μ)) else gz 0 (some (some (vI 0), μ))) :=
  show Rn kc_X5_isLane 0 [some (vR 5 796), some (vI v1)] [] μ = _ from (Rn_rc kt_X5_isLane [] 14 _ _ _ _).trans rfl
set_option maxRecDepth 100000 in
set_option maxHeartbeats 2000000 in
theorem q_X5_cellsOf (v1 : Int) (μ : Mem) : f_X5_cellsOf [vR 5 796, vI v1] μ = (cI (f_X5_isSheet [vR 5 796, vI v1] μ) (fun x2 μ1 => if x2 = 0 then some (some (vI (-4)), μ1) else gi v1 (lnC 803) (some (some (vI (μ1 803 (v1).toNat)), μ1)))) :=
  show Rn kc_X5_cellsOf 0 [some (vR 5 796), some (vI v1)] [] μ = _ from (Rn_rc kt_X5_cellsOf [] 16 _ _ _ _).trans rfl
noncomputable def e_X5_renew_37 (v1 : Int) (o2 : Option AV) (v3 : Int) (v4 : Int) (μ : Mem) : Option Rs := Rn kc_X5_renew 37 [some (vR 5 796), some (vI v1), o2, some (vI v3), some (vI v4)] [] μ
set_option maxRecDepth 100000 in
set_option maxHeartbeats 2000000 in
theorem q_X5_renew (v1 : Int) (v2 : Int) (v3 : Int) (μ : Mem) : f_X5_renew [vR 5 796, vI v1, vI v2, vI v3] μ = (cI (f_X5_isSheet [vR 5 796, vI v1] μ) (fun x2 μ1 => if x2 = 0 then some (some (vI (-1)), μ1) else if v3 < 0 then some (some (vI (-1)), μ1) else if v3 ≤ 90 then gi v1 (lnC 802) (gi v1 (lnC 803) (e_X5_renew_37 v1 (some (vI v2)) v3 0 (up (up μ1 802 (v1).toNat v2) 803 (v1).toNat v3))) else some (some (vI (-1)), μ1))) :=
  show Rn kc_X5_renew 0 [some (vR 5 796), some (vI v1), some (vI v2), some (vI v3), none] [] μ = _ from (Rn_rc kt_X5_renew [37] 42 _ _ _ _).trans rfl
set_option maxRecDepth 100000 in
set_option maxHeartbeats 2000000 in
theorem q_X5_renew_37 (v1 : Int) (o2 : Option AV) (v3 : Int) (v4 : Int) (μ : Mem) : e_X5_renew_37 v1 o2 v3 v4 μ = (if v4 < v3 then gi v1 (lnC 797) (gi v4 (lnC (797 + 1 + (v1).toNat)) (e_X5_renew_37 v1 o2 v3 (wr (v4 + 1)) (up μ (797 + 1 + (v1).toNat) (v4).toNat 0))) else some (some (vI 1), μ)) :=
  (Rn_rc kt_X5_renew [37] 42 _ _ _ _).trans rfl
set_option maxRecDepth 100000 in
set_option maxHeartbeats 2000000 in
theorem q_X5_lowest (v1 : Int) (v2 : Int) (μ : Mem) : f_X5_lowest [vR 5 796, vI v1, vI v2] μ = (if v1 = 0 then some (some (vI (wrB v2)), μ) else if v1 = 1 then some (some (vI (wrS v2)), μ) else some (some (vI v2), μ)) :=
  show Rn kc_X5_lowest 0 [some (vR 5 796), some (vI v1), some (vI v2)] [] μ = _ from (Rn_rc kt_X5_lowest [] 18 _ _ _ _).trans rfl
set_option maxRecDepth 100000 in
set_option maxHeartbeats 2000000 in
theorem q_X5_write (v1 : Int) (v2 : Int) (v3 : Int) (μ : Mem) : f_X5_write [vR 5 796, vI v1, vI v2, vI v3] μ = (cI (f_X5_isSheet [vR 5 796, vI v1] μ) (fun x2 μ1 => if x2 = 0 then some (some (vI (-1)), μ1) else gi v1 (lnC 803) (if (μ1 803 (v1).toNat) < 0 then some (some (vI (-11)), μ1) else if v2 < 0 then some (some (vI (-12)), μ1) else gi v1 (lnC 803) (if v2 < (μ1 803 (v1).toNat) then gi v1 (lnC 797) (gi v1 (lnC 802) (cI (f_X5_lowest [vR 5 796, vI (μ1 802 (v1).toNat), vI v3] μ1) (fun x4 μ3 => gi v2 (lnC (797 + 1 + (v1).toNat)) (some (some (vI 1), up μ3 (797 + 1 + (v1).toNat) (v2).toNat x4))))) else some (some (vI (-12)), μ1))))) :=
  show Rn kc_X5_write 0 [some (vR 5 796), some (vI v1), some (vI v2), some (vI v3)] [] μ = _ from (Rn_rc kt_X5_write [] 43 _ _ _ _).trans rfl
set_option maxRecDepth 100000 in
set_option maxHeartbeats 2000000 in
theorem q_X5_cell (v1 : Int) (v2 : Int) (μ : Mem) : f_X5_cell [vR 5 796, vI v1, vI v2] μ = (cI (f_X5_isSheet [vR 5 796, vI v1] μ) (fun x2 μ1 => if x2 = 0 then some (some (vI (-4)), μ1) else if v2 < 0 then some (some (vI (-4)), μ1) else gi v1 (lnC 803) (if v2 < (μ1 803 (v1).toNat) then gi v1 (lnC 797) (gi v2 (lnC (797 + 1 + (v1).toNat)) (some (some (vI (μ1 (797 + 1 + (v1).toNat) (v2).toNat)), μ1))) else some (some (vI (-4)), μ1)))) :=
  show Rn kc_X5_cell 0 [some (vR 5 796), some (vI v1), some (vI v2)] [] μ = _ from (Rn_rc kt_X5_cell [] 26 _ _ _ _).trans rfl
set_option maxRecDepth 100000 in
set_option maxHeartbeats 2000000 in
theorem q_X5_faultOf (v1 : Int) (v2 : Int) (v3 : Int) (v4 : Int) (μ : Mem) : f_X5_faultOf [vR 5 796, vI v1, vI v2, vI v3, vI v4] μ = (cI (f_X5_cellsOf [vR 5 796, vI v1] μ) (fun x2 μ1 => if x2 < 0 then some (some (vI 1), μ1) else gi v1 (lnC 802) (if (μ1 802 (v1).toNat) = v2 then if v4 = 0 then some (some (vI 0), μ1) else if v3 < 0 then some (some (vI 2), μ1) else gi v1 (lnC 803) (if v3 ≤ (wr ((μ1 803 (v1).toNat) - v4)) then some (some (vI 0), μ1) else some (some (vI 2), μ1)) else some (some (vI 3), μ1)))) :=
  show Rn kc_X5_faultOf 0 [some (vR 5 796), some (vI v1), some (vI v2), some (vI v3), some (vI v4), none] [] μ = _ from (Rn_rc kt_X5_faultOf [] 41 _ _ _ _).trans rfl
set_option maxRecDepth 100000 in
set_option maxHeartbeats 2000000 in
theorem q_X10_howMany (v1 : Int) (μ : Mem) : f_X10_howMany [vR 10 771, vI v1] μ = (if v1 < 1 then some (some (vI 0), μ) else if v1 ≤ 3 then gi v1 (sLn 3) (some (some (vI (sCt 3 (v1).toNat)), μ)) else some (some (vI 0), μ)) :=
  show Rn kc_X10_howMany 0 [some (vR 10 771), some (vI v1)] [] μ = _ from (Rn_rc kt_X10_howMany [] 17 _ _ _ _).trans rfl
noncomputable def e_X10_valueAt_25 (v1 : Int) (v2 : Int) (v3 : Int) (o4 : Option AV) (o5 : Option AV) (o6 : Option AV) (μ : Mem) : Option Rs := Rn kc_X10_valueAt 25 [some (vR 10 771), some (vI v1), some (vI v2), some (vI v3), o4, o5, o6] [] μ
set_option maxRecDepth 100000 in
set_option maxHeartbeats 2000000 in
theorem q_X10_valueAt (v1 : Int) (v2 : Int) (v3 : Int) (μ : Mem) : f_X10_valueAt [vR 10 771, vI v1, vI v2, vI v3] μ = (if (wr (v1 - 23)) < 0 then e_X10_valueAt_25 v1 v2 v3 (some (vI (wr (v1 - 23)))) none none μ else if (wr (v1 - 23)) < 3 then gi (wr (v1 - 23)) (lnC 778) (some (some (vI (μ 778 (wr (v1 - 23)).toNat)), μ)) else e_X10_valueAt_25 v1 v2 v3 (some (vI (wr (v1 - 23)))) none none μ) :=
  show Rn kc_X10_valueAt 0 [some (vR 10 771), some (vI v1), some (vI v2), some (vI v3), none, none, none] [] μ = _ from (Rn_rc kt_X10_valueAt [25] 61 _ _ _ _).trans rfl
set_option maxRecDepth 100000 in
set_option maxHeartbeats 2000000 in
theorem q_X10_valueAt_25 (v1 : Int) (v2 : Int) (v3 : Int) (o4 : Option AV) (o5 : Option AV) (o6 : Option AV) (μ : Mem) : e_X10_valueAt_25 v1 v2 v3 o4 o5 o6 μ = (if (wr ((wr (v2 * (μ 771 6))) + v3)) < 0 then some (some (vI 0), μ) else if (wr ((wr (v2 * (μ 771 6))) + v3)) < 9 then if v1 = 12 then gi (wr ((wr (v2 * (μ 771 6))) + v3)) (lnC 772) (some (some (vI (μ 772 (wr ((wr (v2 * (μ 771 6))) + v3)).toNat)), μ)) else cI (f_X9_numberOf [vR 9 1, vI v1] μ) (fun x2 μ1 => if x2 < 0 then some (some (vI (μ1 771 7)), μ1) else if x2 < 4 then gi x2 (lnC 773) (gi (wr ((wr (v2 * (μ 771 6))) + v3)) (lnC (773 + 1 + (x2).toNat)) (some (some (vI (μ1 (773 + 1 + (x2).toNat) (wr ((wr (v2 * (μ 771 6))) + v3)).toNat)), μ1))) else some (some (vI (μ1 771 7)), μ1)) else some (some (vI 0), μ)) :=
  (Rn_rc kt_X10_valueAt [25] 61 _ _ _ _).trans rfl
noncomputable def e_X10_valueOf_9 (v1 : Nat) (v2 : Int) (v3 : Int) (o4 : Option AV) (o5 : Option AV) (o6 : Option AV) (o7 : Option AV) (μ : Mem) : Option Rs := Rn kc_X10_valueOf 9 [some (vR 10 771), some (vR 8 v1), some (vI v2), some (vI v3), o4, o5, o6, o7] [] μ
noncomputable def e_X10_valueOf_53 (v1 : Nat) (v2 : Int) (v3 : Int) (v4 : Int) (v5 : Int) (o6 : Option AV) (o7 : Option AV) (μ : Mem) : Option Rs := Rn kc_X10_valueOf 53 [some (vR 10 771), some (vR 8 v1), some (vI v2), some (vI v3), some (vI v4), some (vI v5), o6, o7] [] μ
noncomputable def e_X10_valueOf_54 (v1 : Nat) (v2 : Int) (v3 : Int) (v4 : Int) (v5 : Int) (o6 : Option AV) (o7 : Option AV) (s0 : Int) (μ : Mem) : Option Rs := Rn kc_X10_valueOf 54 [some (vR 10 771), some (vR 8 v1), some (vI v2), some (vI v3), some (vI v4), some (vI v5), o6, o7] [vI s0] μ
noncomputable def e_X10_valueOf_78 (v1 : Nat) (v2 : Int) (v3 : Int) (v4 : Int) (v5 : Int) (v6 : Int) (o7 : Option AV) (μ : Mem) : Option Rs := Rn kc_X10_valueOf 78 [some (vR 10 771), some (vR 8 v1), some (vI v2), some (vI v3), some (vI v4), some (vI v5), some (vI v6), o7] [] μ
noncomputable def e_X10_valueOf_79 (v1 : Nat) (v2 : Int) (v3 : Int) (v4 : Int) (v5 : Int) (v6 : Int) (o7 : Option AV) (s0 : Int) (μ : Mem) : Option Rs := Rn kc_X10_valueOf 79 [some (vR 10 771), some (vR 8 v1), some (vI v2), some (vI v3), some (vI v4), some (vI v5), some (vI v6), o7] [vI s0] μ
set_option maxRecDepth 100000 in
set_option maxHeartbeats 2000000 in
theorem q_X10_valueOf (v1 : Nat) (μ : Mem) : f_X10_valueOf [vR 10 771, vR 8 v1] μ = (e_X10_valueOf_9 v1 0 (wr ((μ v1 1) - 1)) none none none none μ) :=
  show Rn kc_X10_valueOf 0 [some (vR 10 771), some (vR 8 v1), none, none, none, none, none, none] [] μ = _ from (Rn_rc kt_X10_valueOf [9, 53, 54, 78, 79] 79 _ _ _ _).trans rfl
set_option maxRecDepth 100000 in
set_option maxHeartbeats 2000000 in
theorem q_X10_valueOf_9 (v1 : Nat) (v2 : Int) (v3 : Int) (o4 : Option AV) (o5 : Option AV) (o6 : Option AV) (o7 : Option AV) (μ : Mem) : e_X10_valueOf_9 v1 v2 v3 o4 o5 o6 o7 μ = (if v3 < 0 then gi 0 (lnC 779) (some (some (vI (μ 779 (0 : Int).toNat)), μ)) else cI (f_X8_at [vR 8 v1, vI v3] μ) (fun x2 μ1 => cI (f_X9_behind [vR 9 1, vI x2] μ1) (fun x4 μ3 => if v2 < 1 then e_X10_valueOf_53 v1 v2 v3 x2 x4 o6 o7 μ3 else if x4 < 1 then e_X10_valueOf_53 v1 v2 v3 x2 x4 o6 o7 μ3 else gi (wr (v2 - 1)) (lnC 779) (e_X10_valueOf_54 v1 v2 v3 x2 x4 o6 o7 (μ3 779 (wr (v2 - 1)).toNat) μ3)))) :=
  (Rn_rc kt_X10_valueOf [9, 53, 54, 78, 79] 79 _ _ _ _).trans rfl
set_option maxRecDepth 100000 in
set_option maxHeartbeats 2000000 in
theorem q_X10_valueOf_53 (v1 : Nat) (v2 : Int) (v3 : Int) (v4 : Int) (v5 : Int) (o6 : Option AV) (o7 : Option AV) (μ : Mem) : e_X10_valueOf_53 v1 v2 v3 v4 v5 o6 o7 μ = (e_X10_valueOf_54 v1 v2 v3 v4 v5 o6 o7 0 μ) :=
  (Rn_rc kt_X10_valueOf [9, 53, 54, 78, 79] 79 _ _ _ _).trans rfl
set_option maxRecDepth 100000 in
set_option maxHeartbeats 2000000 in
theorem q_X10_valueOf_54 (v1 : Nat) (v2 : Int) (v3 : Int) (v4 : Int) (v5 : Int) (o6 : Option AV) (o7 : Option AV) (s0 : Int) (μ : Mem) : e_X10_valueOf_54 v1 v2 v3 v4 v5 o6 o7 s0 μ = (if v2 < 2 then e_X10_valueOf_78 v1 v2 v3 v4 v5 s0 o7 μ else if v5 = 2 then gi (wr (v2 - 2)) (lnC 779) (e_X10_valueOf_79 v1 v2 v3 v4 v5 s0 o7 (μ 779 (wr (v2 - 2)).toNat) μ) else e_X10_valueOf_78 v1 v2 v3 v4 v5 s0 o7 μ) :=
  (Rn_rc kt_X10_valueOf [9, 53, 54, 78, 79] 79 _ _ _ _).trans rfl
set_option maxRecDepth 100000 in
set_option maxHeartbeats 2000000 in
theorem q_X10_valueOf_78 (v1 : Nat) (v2 : Int) (v3 : Int) (v4 : Int) (v5 : Int) (v6 : Int) (o7 : Option AV) (μ : Mem) : e_X10_valueOf_78 v1 v2 v3 v4 v5 v6 o7 μ = (e_X10_valueOf_79 v1 v2 v3 v4 v5 v6 o7 0 μ) :=
  (Rn_rc kt_X10_valueOf [9, 53, 54, 78, 79] 79 _ _ _ _).trans rfl
set_option maxRecDepth 100000 in
set_option maxHeartbeats 2000000 in
theorem q_X10_valueOf_79 (v1 : Nat) (v2 : Int) (v3 : Int) (v4 : Int) (v5 : Int) (v6 : Int) (o7 : Option AV) (s0 : Int) (μ : Mem) : e_X10_valueOf_79 v1 v2 v3 v4 v5 v6 o7 s0 μ = (if (mMax (wr (v2 - v5)) 0) < 20 then cI (f_X10_valueAt [vR 10 771, vI v4, vI v6, vI s0] μ) (fun x2 μ1 => gi (mMax (wr (v2 - v5)) 0) (lnC 779) (e_X10_valueOf_9 v1 (wr (mMax (wr (v2 - v5)) 0 + 1)) (wr (v3 + (-1))) (some (vI v4)) (some (vI v5)) (some (vI v6)) (some (vI s0)) (up μ1 779 (mMax (wr (v2 - v5)) 0).toNat x2))) else e_X10_valueOf_9 v1 (mMax (wr (v2 - v5)) 0) (wr (v3 + (-1))) (some (vI v4)) (some (vI v5)) (some (vI v6)) (some (vI s0)) μ) :=
  (Rn_rc kt_X10_valueOf [9, 53, 54, 78, 79] 79 _ _ _ _).trans rfl
noncomputable def e_X10_fillTable_3 (v1 : Nat) (v2 : Nat) (v3 : Int) (v4 : Int) (o5 : Option AV) (o6 : Option AV) (μ : Mem) : Option Rs := Rn kc_X10_fillTable 3 [some (vR 10 771), some (vR 20 v1), some (vR 8 v2), some (vI v3), some (vI v4), o5, o6] [] μ
noncomputable def e_X10_fillTable_15 (v1 : Nat) (v2 : Nat) (v3 : Int) (v4 : Int) (v5 : Int) (o6 : Option AV) (μ : Mem) : Option Rs := Rn kc_X10_fillTable 15 [some (vR 10 771), some (vR 20 v1), some (vR 8 v2), some (vI v3), some (vI v4), some (vI v5), o6] [] μ
set_option maxRecDepth 100000 in
set_option maxHeartbeats 2000000 in
theorem q_X10_fillTable (v1 : Nat) (v2 : Nat) (v3 : Int) (μ : Mem) : f_X10_fillTable [vR 10 771, vR 20 v1, vR 8 v2, vI v3] μ = (e_X10_fillTable_3 v1 v2 v3 0 none none μ) :=
  show Rn kc_X10_fillTable 0 [some (vR 10 771), some (vR 20 v1), some (vR 8 v2), some (vI v3), none, none, none] [] μ = _ from (Rn_rc kt_X10_fillTable [3, 15] 61 _ _ _ _).trans rfl
set_option maxRecDepth 100000 in
set_option maxHeartbeats 2000000 in
theorem q_X10_fillTable_3 (v1 : Nat) (v2 : Nat) (v3 : Int) (v4 : Int) (o5 : Option AV) (o6 : Option AV) (μ : Mem) : e_X10_fillTable_3 v1 v2 v3 v4 o5 o6 μ = (if v4 < (μ 771 6) then e_X10_fillTable_15 v1 v2 v3 v4 0 o6 μ else some (none, μ)) :=
  (Rn_rc kt_X10_fillTable [3, 15] 61 _ _ _ _).trans rfl
set_option maxRecDepth 100000 in
set_option maxHeartbeats 2000000 in
theorem q_X10_fillTable_15 (v1 : Nat) (v2 : Nat) (v3 : Int) (v4 : Int) (v5 : Int) (o6 : Option AV) (μ : Mem) : e_X10_fillTable_15 v1 v2 v3 v4 v5 o6 μ = (if v5 < (μ 771 6) then gi 0 (lnC 778) (gi 1 (lnC 778) (if (wr ((wr (v4 * ((up (up μ 778 (0 : Int).toNat v4) 778 (1 : Int).toNat v5) 771 6))) + v5)) < ((lnC v1 : Nat) : Int) then if v3 < 2 then if v5 ≤ 0 then cI (f_X10_valueOf [vR 10 771, vR 8 v2] (up (up μ 778 (0 : Int).toNat v4) 778 (1 : Int).toNat v5)) (fun x4 μ3 => gi (wr ((wr (v4 * ((up (up μ 778 (0 : Int).toNat v4) 778 (1 : Int).toNat v5) 771 6))) + v5)) (lnC v1) (e_X10_fillTable_15 v1 v2 v3 v4 (wr (v5 + 1)) (some (vI (wr ((wr (v4 * ((up (up μ 778 (0 : Int).toNat v4) 778 (1 : Int).toNat v5) 771 6))) + v5)))) (up μ3 v1 (wr ((wr (v4 * ((up (up μ 778 (0 : Int).toNat v4) 778 (1 : Int).toNat v5) 771 6))) + v5)).toNat x4))) else gi (wr (v4 * ((up (up μ 778 (0 : Int).toNat v4) 778 (1 : Int).toNat v5) 771 6))) (lnC v1) (gi (wr ((wr (v4 * ((up (up μ 778 (0 : Int).toNat v4) 778 (1 : Int).toNat v5) 771 6))) + v5)) (lnC v1) (e_X10_fillTable_15 v1 v2 v3 v4 (wr (v5 + 1)) (some (vI (wr ((wr (v4 * ((up (up μ 778 (0 : Int).toNat v4) 778 (1 : Int).toNat v5) 771 6))) + v5)))) (up (up (up μ 778 (0 : Int).toNat v4) 778 (1 : Int).toNat v5) v1 (wr ((wr (v4 * ((up (up μ 778 (0 : Int).toNat v4) 778 (1 : Int).toNat v5) 771 6))) + v5)).toNat ((up (up μ 778 (0 : Int).toNat v4) 778 (1 : Int).toNat v5) v1 (wr (v4 * ((up (up μ 778 (0 : Int).toNat v4) 778 (1 : Int).toNat v5) 771 6))).toNat)))) else cI (f_X10_valueOf [vR 10 771, vR 8 v2] (up (up μ 778 (0 : Int).toNat v4) 778 (1 : Int).toNat v5)) (fun x2 μ1 => gi (wr ((wr (v4 * ((up (up μ 778 (0 : Int).toNat v4) 778 (1 : Int).toNat v5) 771 6))) + v5)) (lnC v1) (e_X10_fillTable_15 v1 v2 v3 v4 (wr (v5 + 1)) (some (vI (wr ((wr (v4 * ((up (up μ 778 (0 : Int).toNat v4) 778 (1 : Int).toNat v5) 771 6))) + v5)))) (up μ1 v1 (wr ((wr (v4 * ((up (up μ 778 (0 : Int).toNat v4) 778 (1 : Int).toNat v5) 771 6))) + v5)).toNat x2))) else e_X10_fillTable_15 v1 v2 v3 v4 (wr (v5 + 1)) (some (vI (wr ((wr (v4 * ((up (up μ 778 (0 : Int).toNat v4) 778 (1 : Int).toNat v5) 771 6))) + v5)))) (up (up μ 778 (0 : Int).toNat v4) 778 (1 : Int).toNat v5))) else e_X10_fillTable_3 v1 v2 v3 (wr (v4 + 1)) (some (vI v5)) o6 μ) :=
  (Rn_rc kt_X10_fillTable [3, 15] 61 _ _ _ _).trans rfl
noncomputable def e_X10_enter_30 (v1 : Int) (o2 : Option AV) (v3 : Int) (v4 : Int) (μ : Mem) : Option Rs := Rn kc_X10_enter 30 [some (vR 10 771), some (vI v1), o2, some (vI v3), some (vI v4)] [] μ
noncomputable def e_X10_enter_61 (o1 : Option AV) (o2 : Option AV) (o3 : Option AV) (v4 : Int) (μ : Mem) : Option Rs := Rn kc_X10_enter 61 [some (vR 10 771), o1, o2, o3, some (vI v4)] [] μ
set_option maxRecDepth 100000 in
set_option maxHeartbeats 2000000 in
theorem q_X10_enter (v1 : Int) (v2 : Int) (μ : Mem) : f_X10_enter [vR 10 771, vI v1, vI v2] μ = (if v1 < 1 then some (none, μ) else if v1 ≤ 3 then gn v1 (gn v1 (e_X10_enter_30 v1 (some (vI v2)) (bDiv v2 v1) 0 (up (up μ 771 6 v1) 771 7 (bRem v2 v1)))) else some (none, μ)) :=
  show Rn kc_X10_enter 0 [some (vR 10 771), some (vI v1), some (vI v2), none, none] [] μ = _ from (Rn_rc kt_X10_enter [30, 61] 68 _ _ _ _).trans rfl
set_option maxRecDepth 100000 in
set_option maxHeartbeats 2000000 in
theorem q_X10_enter_30 (v1 : Int) (o2 : Option AV) (v3 : Int) (v4 : Int) (μ : Mem) : e_X10_enter_30 v1 o2 v3 v4 μ = (if v4 < (wr (v1 * v1)) then gn v1 (gi v4 (lnC 772) (gn v1 (e_X10_enter_30 v1 (kl o2) (bDiv v3 v1) (wr (v4 + 1)) (up μ 772 (v4).toNat (bRem v3 v1))))) else e_X10_enter_61 (some (vI v1)) o2 (some (vI v3)) 0 μ) :=
  (Rn_rc kt_X10_enter [30, 61] 68 _ _ _ _).trans rfl
set_option maxRecDepth 100000 in
set_option maxHeartbeats 2000000 in
theorem q_X10_enter_61 (o1 : Option AV) (o2 : Option AV) (o3 : Option AV) (v4 : Int) (μ : Mem) : e_X10_enter_61 o1 o2 o3 v4 μ = (if v4 < (μ 1 5) then gi v4 (lnC 773) (cR 8 (f_X9_meaningOf [vR 9 1, vI v4] μ) (fun μ1 => cI (f_X9_needOf [vR 9 1, vI v4] μ1) (fun x4 μ3 => cV (f_X10_fillTable [vR 10 771, vR 20 (773 + 1 + (v4).toNat), vN, vI x4] μ3) (fun μ5 => e_X10_enter_61 o1 o2 (kl o3) (wr (v4 + 1)) μ5))) (fun c2 μ1 => cI (f_X9_needOf [vR 9 1, vI v4] μ1) (fun x7 μ6 => cV (f_X10_fillTable [vR 10 771, vR 20 (773 + 1 + (v4).toNat), vR 8 c2, vI x7] μ6) (fun μ8 => e_X10_enter_61 o1 o2 (kl o3) (wr (v4 + 1)) μ8)))) else some (none, μ)) :=
  (Rn_rc kt_X10_enter [30, 61] 68 _ _ _ _).trans rfl
noncomputable def e_X10_has_2 (o0 : Option AV) (v1 : Nat) (v2 : Int) (v3 : Int) (μ : Mem) : Option Rs := Rn kc_X10_has 2 [o0, some (vR 2 v1), some (vI v2), some (vI v3)] [] μ
set_option maxRecDepth 100000 in
set_option maxHeartbeats 2000000 in
theorem q_X10_has (v1 : Nat) (v2 : Int) (μ : Mem) : f_X10_has [vR 10 771, vR 2 v1, vI v2] μ = (e_X10_has_2 (some (vR 10 771)) v1 v2 0 μ) :=
  show Rn kc_X10_has 0 [some (vR 10 771), some (vR 2 v1), some (vI v2), none] [] μ = _ from (Rn_rc kt_X10_has [2] 32 _ _ _ _).trans rfl
set_option maxRecDepth 100000 in
set_option maxHeartbeats 2000000 in
theorem q_X10_has_2 (o0 : Option AV) (v1 : Nat) (v2 : Int) (v3 : Int) (μ : Mem) : e_X10_has_2 o0 v1 v2 v3 μ = (if v3 < 20 then cI (f_X8_at [vR 8 (v1 + 1), vI v3] μ) (fun x2 μ1 => if x2 = (wr (23 + v2)) then gz 1 (some (some (vI 1), μ1)) else cI (f_X8_at [vR 8 (v1 + 3), vI v3] μ1) (fun x4 μ3 => if x4 = (wr (23 + v2)) then gz 1 (some (some (vI 1), μ3)) else e_X10_has_2 o0 v1 v2 (wr (v3 + 1)) μ3)) else gz 0 (some (some (vI 0), μ))) :=
  (Rn_rc kt_X10_has [2] 32 _ _ _ _).trans rfl
noncomputable def e_X10_isTrue_17 (v1 : Nat) (o2 : Option AV) (o3 : Option AV) (o4 : Option AV) (o5 : Option AV) (o6 : Option AV) (o7 : Option AV) (s0 : Int) (μ : Mem) : Option Rs := Rn kc_X10_isTrue 17 [some (vR 10 771), some (vR 2 v1), o2, o3, o4, o5, o6, o7] [vI s0] μ
noncomputable def e_X10_isTrue_58 (v1 : Nat) (v2 : Int) (v3 : Int) (v4 : Int) (v5 : Int) (o6 : Option AV) (o7 : Option AV) (μ : Mem) : Option Rs := Rn kc_X10_isTrue 58 [some (vR 10 771), some (vR 2 v1), some (vI v2), some (vI v3), some (vI v4), some (vI v5), o6, o7] [] μ
noncomputable def e_X10_isTrue_67 (v1 : Nat) (v2 : Int) (v3 : Int) (v4 : Int) (v5 : Int) (v6 : Int) (o7 : Option AV) (μ : Mem) : Option Rs := Rn kc_X10_isTrue 67 [some (vR 10 771), some (vR 2 v1), some (vI v2), some (vI v3), some (vI v4), some (vI v5), some (vI v6), o7] [] μ
noncomputable def e_X10_isTrue_76 (v1 : Nat) (v2 : Int) (v3 : Int) (v4 : Int) (v5 : Int) (v6 : Int) (v7 : Int) (μ : Mem) : Option Rs := Rn kc_X10_isTrue 76 [some (vR 10 771), some (vR 2 v1), some (vI v2), some (vI v3), some (vI v4), some (vI v5), some (vI v6), some (vI v7)] [] μ
set_option maxRecDepth 100000 in
set_option maxHeartbeats 2000000 in
theorem q_X10_isTrue (v1 : Nat) (μ : Mem) : f_X10_isTrue [vR 10 771, vR 2 v1] μ = (cI (f_X10_has [vR 10 771, vR 2 v1, vI 0] μ) (fun x2 μ1 => if x2 = 0 then e_X10_isTrue_17 v1 none none none none none none 1 μ1 else e_X10_isTrue_17 v1 none none none none none none (μ1 771 6) μ1)) :=
  show Rn kc_X10_isTrue 0 [some (vR 10 771), some (vR 2 v1), none, none, none, none, none, none] [] μ = _ from (Rn_rc kt_X10_isTrue [17, 58, 67, 76] 84 _ _ _ _).trans rfl
set_option maxRecDepth 100000 in
set_option maxHeartbeats 2000000 in
theorem q_X10_isTrue_17 (v1 : Nat) (o2 : Option AV) (o3 : Option AV) (o4 : Option AV) (o5 : Option AV) (o6 : Option AV) (o7 : Option AV) (s0 : Int) (μ : Mem) : e_X10_isTrue_17 v1 o2 o3 o4 o5 o6 o7 s0 μ = (cI (f_X10_has [vR 10 771, vR 2 v1, vI 1] μ) (fun x2 μ1 => if x2 = 0 then cI (f_X10_has [vR 10 771, vR 2 v1, vI 2] μ1) (fun x4 μ3 => if x4 = 0 then e_X10_isTrue_58 v1 s0 1 1 0 o6 o7 μ3 else e_X10_isTrue_58 v1 s0 1 (μ3 771 6) 0 o6 o7 μ3) else cI (f_X10_has [vR 10 771, vR 2 v1, vI 2] μ1) (fun x6 μ5 => if x6 = 0 then e_X10_isTrue_58 v1 s0 (μ1 771 6) 1 0 o6 o7 μ5 else e_X10_isTrue_58 v1 s0 (μ1 771 6) (μ5 771 6) 0 o6 o7 μ5))) :=
  (Rn_rc kt_X10_isTrue [17, 58, 67, 76] 84 _ _ _ _).trans rfl
set_option maxRecDepth 100000 in
set_option maxHeartbeats 2000000 in
theorem q_X10_isTrue_58 (v1 : Nat) (v2 : Int) (v3 : Int) (v4 : Int) (v5 : Int) (o6 : Option AV) (o7 : Option AV) (μ : Mem) : e_X10_isTrue_58 v1 v2 v3 v4 v5 o6 o7 μ = (if v5 < v2 then e_X10_isTrue_67 v1 v2 v3 v4 v5 0 o7 μ else gz 1 (some (some (vI 1), μ))) :=
  (Rn_rc kt_X10_isTrue [17, 58, 67, 76] 84 _ _ _ _).trans rfl
set_option maxRecDepth 100000 in
set_option maxHeartbeats 2000000 in
theorem q_X10_isTrue_67 (v1 : Nat) (v2 : Int) (v3 : Int) (v4 : Int) (v5 : Int) (v6 : Int) (o7 : Option AV) (μ : Mem) : e_X10_isTrue_67 v1 v2 v3 v4 v5 v6 o7 μ = (if v6 < v3 then e_X10_isTrue_76 v1 v2 v3 v4 v5 v6 0 μ else e_X10_isTrue_58 v1 v2 v3 v4 (wr (v5 + 1)) (some (vI v6)) o7 μ) :=
  (Rn_rc kt_X10_isTrue [17, 58, 67, 76] 84 _ _ _ _).trans rfl
set_option maxRecDepth 100000 in
set_option maxHeartbeats 2000000 in
theorem q_X10_isTrue_76 (v1 : Nat) (v2 : Int) (v3 : Int) (v4 : Int) (v5 : Int) (v6 : Int) (v7 : Int) (μ : Mem) : e_X10_isTrue_76 v1 v2 v3 v4 v5 v6 v7 μ = (if v7 < v4 then gi 0 (lnC 778) (gi 1 (lnC 778) (gi 2 (lnC 778) (cI (f_X10_valueOf [vR 10 771, vR 8 (v1 + 1)] (up (up (up μ 778 (0 : Int).toNat v5) 778 (1 : Int).toNat v6) 778 (2 : Int).toNat v7)) (fun x2 μ1 => cI (f_X10_valueOf [vR 10 771, vR 8 (v1 + 3)] μ1) (fun x4 μ3 => if x2 = x4 then e_X10_isTrue_76 v1 v2 v3 v4 v5 v6 (wr (v7 + 1)) μ3 else gz 0 (some (some (vI 0), μ3))))))) else e_X10_isTrue_67 v1 v2 v3 v4 v5 (wr (v6 + 1)) (some (vI v7)) μ) :=
  (Rn_rc kt_X10_isTrue [17, 58, 67, 76] 84 _ _ _ _).trans rfl
noncomputable def e_X10_isGrounded_2 (v1 : Int) (o2 : Option AV) (μ : Mem) : Option Rs := Rn kc_X10_isGrounded 2 [some (vR 10 771), some (vI v1), o2] [] μ
set_option maxRecDepth 100000 in
set_option maxHeartbeats 2000000 in
theorem q_X10_isGrounded  (μ : Mem) : f_X10_isGrounded [vR 10 771] μ = (e_X10_isGrounded_2 0 none μ) :=
  show Rn kc_X10_isGrounded 0 [some (vR 10 771), none, none] [] μ = _ from (Rn_rc kt_X10_isGrounded [2] 32 _ _ _ _).trans rfl
set_option maxRecDepth 100000 in
set_option maxHeartbeats 2000000 in
theorem q_X10_isGrounded_2 (v1 : Int) (o2 : Option AV) (μ : Mem) : e_X10_isGrounded_2 v1 o2 μ = (if v1 < (μ 23 9) then cR 2 (f_X3_get [vR 3 23, vI v1] μ) (fun μ1 => e_X10_isGrounded_2 (wr (v1 + 1)) (some (vN)) μ1) (fun c2 μ1 => if (μ1 c2 2) = 0 then cI (f_X10_isTrue [vR 10 771, vR 2 c2] μ1) (fun x4 μ3 => if x4 = 0 then gz 0 (some (some (vI 0), μ3)) else e_X10_isGrounded_2 (wr (v1 + 1)) (some (vR 2 c2)) μ3) else e_X10_isGrounded_2 (wr (v1 + 1)) (some (vR 2 c2)) μ1) else gz 1 (some (some (vI 1), μ))) :=
  (Rn_rc kt_X10_isGrounded [2] 32 _ _ _ _).trans rfl
noncomputable def e_X10_countGrounded_4 (v1 : Int) (v2 : Int) (v3 : Int) (μ : Mem) : Option Rs := Rn kc_X10_countGrounded 4 [some (vR 10 771), some (vI v1), some (vI v2), some (vI v3)] [] μ
set_option maxRecDepth 100000 in
set_option maxHeartbeats 2000000 in
theorem q_X10_countGrounded (v1 : Int) (μ : Mem) : f_X10_countGrounded [vR 10 771, vI v1] μ = (e_X10_countGrounded_4 v1 0 0 μ) :=
  show Rn kc_X10_countGrounded 0 [some (vR 10 771), some (vI v1), none, none] [] μ = _ from (Rn_rc kt_X10_countGrounded [4] 26 _ _ _ _).trans rfl
set_option maxRecDepth 100000 in
set_option maxHeartbeats 2000000 in
theorem q_X10_countGrounded_4 (v1 : Int) (v2 : Int) (v3 : Int) (μ : Mem) : e_X10_countGrounded_4 v1 v2 v3 μ = (cI (f_X10_howMany [vR 10 771, vI v1] μ) (fun x2 μ1 => if v3 < x2 then cV (f_X10_enter [vR 10 771, vI v1, vI v3] μ1) (fun μ3 => cI (f_X10_isGrounded [vR 10 771] μ3) (fun x5 μ4 => if x5 = 0 then e_X10_countGrounded_4 v1 v2 (wr (v3 + 1)) μ4 else e_X10_countGrounded_4 v1 (wr (v2 + 1)) (wr (v3 + 1)) μ4)) else some (some (vI v2), μ1))) :=
  (Rn_rc kt_X10_countGrounded [4] 26 _ _ _ _).trans rfl
noncomputable def e_X10_leastGrounded_2 (v1 : Int) (v2 : Nat) (v3 : Int) (μ : Mem) : Option Rs := Rn kc_X10_leastGrounded 2 [some (vR 10 771), some (vI v1), some (vR 2 v2), some (vI v3)] [] μ
set_option maxRecDepth 100000 in
set_option maxHeartbeats 2000000 in
theorem q_X10_leastGrounded (v1 : Int) (v2 : Nat) (μ : Mem) : f_X10_leastGrounded [vR 10 771, vI v1, vR 2 v2] μ = (e_X10_leastGrounded_2 v1 v2 0 μ) :=
  show Rn kc_X10_leastGrounded 0 [some (vR 10 771), some (vI v1), some (vR 2 v2), none] [] μ = _ from (Rn_rc kt_X10_leastGrounded [2] 31 _ _ _ _).trans rfl
set_option maxRecDepth 100000 in
set_option maxHeartbeats 2000000 in
theorem q_X10_leastGrounded_2 (v1 : Int) (v2 : Nat) (v3 : Int) (μ : Mem) : e_X10_leastGrounded_2 v1 v2 v3 μ = (cI (f_X10_howMany [vR 10 771, vI v1] μ) (fun x2 μ1 => if v3 < x2 then cV (f_X10_enter [vR 10 771, vI v1, vI v3] μ1) (fun μ3 => cI (f_X10_isGrounded [vR 10 771] μ3) (fun x5 μ4 => if x5 = 0 then e_X10_leastGrounded_2 v1 v2 (wr (v3 + 1)) μ4 else cI (f_X10_isTrue [vR 10 771, vR 2 v2] μ4) (fun x7 μ6 => if x7 = 0 then some (some (vI v3), μ6) else e_X10_leastGrounded_2 v1 v2 (wr (v3 + 1)) μ6))) else some (some (vI (-4)), μ1))) :=
  (Rn_rc kt_X10_leastGrounded [2] 31 _ _ _ _).trans rfl
noncomputable def e_X10_leastGroundedN_2 (v1 : Int) (v3 : Int) (μ : Mem) : Option Rs := Rn kc_X10_leastGrounded 2 [some (vR 10 771), some (vI v1), some (vN), some (vI v3)] [] μ
set_option maxRecDepth 100000 in
set_option maxHeartbeats 2000000 in
theorem q_X10_leastGroundedN (v1 : Int) (μ : Mem) : f_X10_leastGrounded [vR 10 771, vI v1, vN] μ = (e_X10_leastGroundedN_2 v1 0 μ) :=
  show Rn kc_X10_leastGrounded 0 [some (vR 10 771), some (vI v1), some (vN), none] [] μ = _ from (Rn_rc kt_X10_leastGrounded [2] 31 _ _ _ _).trans rfl
set_option maxRecDepth 100000 in
set_option maxHeartbeats 2000000 in
theorem q_X10_leastGroundedN_2 (v1 : Int) (v3 : Int) (μ : Mem) : e_X10_leastGroundedN_2 v1 v3 μ = (cI (f_X10_howMany [vR 10 771, vI v1] μ) (fun x2 μ1 => if v3 < x2 then cV (f_X10_enter [vR 10 771, vI v1, vI v3] μ1) (fun μ3 => cI (f_X10_isGrounded [vR 10 771] μ3) (fun x5 μ4 => if x5 = 0 then e_X10_leastGroundedN_2 v1 (wr (v3 + 1)) μ4 else some (some (vI v3), μ4))) else some (some (vI (-4)), μ1))) :=
  (Rn_rc kt_X10_leastGrounded [2] 31 _ _ _ _).trans rfl
