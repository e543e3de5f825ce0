set_option maxRecDepth 100000 in
set_option maxHeartbeats 2000000 in
theorem q_X12_in (v0 : Int) (v2 : Int) (v4 : Int) (μ : Mem) : f_X12_in [vL v0, vL v2, vL v4] μ = (if (if v0 < v2 then -1 else if v0 = v2 then 0 else 1) < 0 then gz 0 (some (some (vI 0), μ)) else if (if v0 < v4 then -1 else if v0 = v4 then 0 else 1) ≤ 0 then gz 1 (some (some (vI 1), μ)) else gz 0 (some (some (vI 0), μ))) :=
  show Rn kc_X12_in 0 [some (vL v0), none, some (vL v2), none, some (vL v4), none] [] μ = _ from (Rn_rc kt_X12_in [] 17 _ _ _ _).trans rfl
noncomputable def e_X12_bits_4 (v0 : Int) (v1 : Int) (v2 : Int) (μ : Mem) : Option Rs := Rn kc_X12_bits 4 [some (vI v0), some (vI v1), some (vI v2)] [] μ
set_option maxRecDepth 100000 in
set_option maxHeartbeats 2000000 in
theorem q_X12_bits (v0 : Int) (μ : Mem) : f_X12_bits [vI v0] μ = (e_X12_bits_4 v0 0 0 μ) :=
  show Rn kc_X12_bits 0 [some (vI v0), none, none] [] μ = _ from (Rn_rc kt_X12_bits [4] 24 _ _ _ _).trans rfl
set_option maxRecDepth 100000 in
set_option maxHeartbeats 2000000 in
theorem q_X12_bits_4 (v0 : Int) (v1 : Int) (v2 : Int) (μ : Mem) : e_X12_bits_4 v0 v1 v2 μ = (if v2 < 24 then e_X12_bits_4 v0 (wr (v1 + (bAnd (bShr v0 v2) 1))) (wr (v2 + 1)) μ else some (some (vI v1), μ)) :=
  (Rn_rc kt_X12_bits [4] 24 _ _ _ _).trans rfl
noncomputable def e_X12_wordBy_5 (v1 : Int) (v2 : Int) (v3 : Int) (μ : Mem) : Option Rs := Rn kc_X12_wordBy 5 [some (vR 12 0), some (vI v1), some (vI v2), some (vI v3)] [] μ
set_option maxRecDepth 100000 in
set_option maxHeartbeats 2000000 in
theorem q_X12_wordBy (v1 : Int) (μ : Mem) : f_X12_wordBy [vR 12 0, vI v1] μ = (e_X12_wordBy_5 v1 (-4) 0 μ) :=
  show Rn kc_X12_wordBy 0 [some (vR 12 0), some (vI v1), none, none] [] μ = _ from (Rn_rc kt_X12_wordBy [5] 27 _ _ _ _).trans rfl
set_option maxRecDepth 100000 in
set_option maxHeartbeats 2000000 in
theorem q_X12_wordBy_5 (v1 : Int) (v2 : Int) (v3 : Int) (μ : Mem) : e_X12_wordBy_5 v1 v2 v3 μ = (if v3 < (μ 0 23) then gi v3 (lnR 1) (if (μ 1 (v3).toNat) = v1 then e_X12_wordBy_5 v1 v3 (wr (v3 + 1)) μ else e_X12_wordBy_5 v1 v2 (wr (v3 + 1)) μ) else some (some (vI v2), μ)) :=
  (Rn_rc kt_X12_wordBy [5] 27 _ _ _ _).trans rfl
set_option maxRecDepth 100000 in
set_option maxHeartbeats 2000000 in
theorem q_X12_has (v1 : Int) (μ : Mem) : f_X12_has [vR 12 0, vI v1] μ = (if v1 < 23 then if v1 = 14 then some (some (vI 0), μ) else if v1 = 12 then if v1 = 12 then some (some (vI 2), μ) else some (some (vI (-4)), μ) else cI (f_X12_wordBy [vR 12 0, vI v1] μ) (fun x2 μ1 => if v1 = 12 then some (some (vI 2), μ1) else if x2 = (-4) then some (some (vI (-4)), μ1) else gi x2 (lnR 2) (some (some (vI (μ1 2 (x2).toNat)), μ1))) else some (some (vI 0), μ)) :=
  show Rn kc_X12_has 0 [some (vR 12 0), some (vI v1), none] [] μ = _ from (Rn_rc kt_X12_has [] 37 _ _ _ _).trans rfl
noncomputable def e_X12_endAt_6 (v1 : Nat) (o2 : Option AV) (v3 : Int) (v4 : Int) (v5 : Int) (o6 : Option AV) (μ : Mem) : Option Rs := Rn kc_X12_endAt 6 [some (vR 12 0), some (vR 20 v1), o2, some (vI v3), some (vI v4), some (vI v5), o6] [] μ
set_option maxRecDepth 100000 in
set_option maxHeartbeats 2000000 in
theorem q_X12_endAt (v1 : Nat) (v2 : Int) (v3 : Int) (μ : Mem) : f_X12_endAt [vR 12 0, vR 20 v1, vI v2, vI v3] μ = (e_X12_endAt_6 v1 (some (vI v2)) v3 1 v2 none μ) :=
  show Rn kc_X12_endAt 0 [some (vR 12 0), some (vR 20 v1), some (vI v2), some (vI v3), none, none, none] [] μ = _ from (Rn_rc kt_X12_endAt [6] 39 _ _ _ _).trans rfl
set_option maxRecDepth 100000 in
set_option maxHeartbeats 2000000 in
theorem q_X12_endAt_6 (v1 : Nat) (o2 : Option AV) (v3 : Int) (v4 : Int) (v5 : Int) (o6 : Option AV) (μ : Mem) : e_X12_endAt_6 v1 o2 v3 v4 v5 o6 μ = (if v4 ≤ 0 then if v4 ≤ 0 then some (some (vI v5), μ) else some (some (vI (-4)), μ) else if v5 < v3 then gi v5 (lnR v1) (cI (f_X12_has [vR 12 0, vI (μ v1 (v5).toNat)] μ) (fun x2 μ1 => if x2 = (-4) then some (some (vI (-4)), μ1) else e_X12_endAt_6 v1 o2 v3 (wr (v4 + (wr (x2 - 1)))) (wr (v5 + 1)) (some (vI x2)) μ1)) else if v4 ≤ 0 then some (some (vI v5), μ) else some (some (vI (-4)), μ)) :=
  (Rn_rc kt_X12_endAt [6] 39 _ _ _ _).trans rfl
set_option maxRecDepth 100000 in
set_option maxHeartbeats 2000000 in
theorem q_X12_isSaying (v1 : Int) (μ : Mem) : f_X12_isSaying [vR 12 0, vI v1] μ = (cI (f_X12_in [vL v1, vL 0, vL (wr ((μ 0 5) - 1))] μ) (fun x2 μ1 => gz x2 (some (some (vI x2), μ1)))) :=
  show Rn kc_X12_isSaying 0 [some (vR 12 0), some (vI v1)] [] μ = _ from (Rn_rc kt_X12_isSaying [] 15 _ _ _ _).trans rfl
set_option maxRecDepth 100000 in
set_option maxHeartbeats 2000000 in
theorem q_X12_isWord (v1 : Int) (μ : Mem) : f_X12_isWord [vR 12 0, vI v1] μ = (cI (f_X12_in [vL v1, vL 0, vL (wr ((μ 0 0) - 1))] μ) (fun x2 μ1 => gz x2 (some (some (vI x2), μ1)))) :=
  show Rn kc_X12_isWord 0 [some (vR 12 0), some (vI v1)] [] μ = _ from (Rn_rc kt_X12_isWord [] 15 _ _ _ _).trans rfl
noncomputable def e_X12_feed_19 (v1 : Int) (o2 : Option AV) (v3 : Int) (μ : Mem) : Option Rs := Rn kc_X12_feed 19 [some (vR 12 0), some (vL v1), o2, some (vI v3)] [] μ
set_option maxRecDepth 100000 in
set_option maxHeartbeats 2000000 in
theorem q_X12_feed (v1 : Int) (μ : Mem) : f_X12_feed [vR 12 0, vL v1] μ = (if (wr ((μ 0 25) + 8)) ≤ 240 then e_X12_feed_19 v1 none 56 μ else some (some (vI (-3)), μ)) :=
  show Rn kc_X12_feed 0 [some (vR 12 0), some (vL v1), none, none] [] μ = _ from (Rn_rc kt_X12_feed [19] 39 _ _ _ _).trans rfl
set_option maxRecDepth 100000 in
set_option maxHeartbeats 2000000 in
theorem q_X12_feed_19 (v1 : Int) (o2 : Option AV) (v3 : Int) (μ : Mem) : e_X12_feed_19 v1 o2 v3 μ = (if v3 < 0 then some (some (vI (μ 0 25)), μ) else gi (μ 0 25) (lnR 18) (e_X12_feed_19 v1 (kl o2) (wr (v3 + (-8))) (up (up μ 18 (μ 0 25).toNat (wr (lAnd (lShr v1 v3) 255))) 0 25 (wr (((up μ 18 (μ 0 25).toNat (wr (lAnd (lShr v1 v3) 255))) 0 25) + 1))))) :=
  (Rn_rc kt_X12_feed [19] 39 _ _ _ _).trans rfl
set_option maxRecDepth 100000 in
set_option maxHeartbeats 2000000 in
theorem q_X12_end (v1 : Int) (μ : Mem) : f_X12_end [vR 12 0, vI v1] μ = (cI (f_X12_in [vL v1, vL 0, vL (μ 0 25)] μ) (fun x2 μ1 => if x2 = 0 then some (some (vI (-1)), μ1) else some (some (vI (μ1 0 25)), up μ1 0 25 v1))) :=
  show Rn kc_X12_end 0 [some (vR 12 0), some (vI v1), none] [] μ = _ from (Rn_rc kt_X12_end [] 23 _ _ _ _).trans rfl
set_option maxRecDepth 100000 in
set_option maxHeartbeats 2000000 in
theorem q_X12_wants (v1 : Int) (v2 : Int) (μ : Mem) : f_X12_wants [vR 12 0, vI v1, vI v2] μ = (if v1 = 0 then if (μ 0 30) = 0 then some (none, up (up μ 0 30 v2) 0 31 ((up μ 0 30 v2) 0 27)) else some (none, μ) else some (none, μ)) :=
  show Rn kc_X12_wants 0 [some (vR 12 0), some (vI v1), some (vI v2)] [] μ = _ from (Rn_rc kt_X12_wants [] 18 _ _ _ _).trans rfl
set_option maxRecDepth 100000 in
set_option maxHeartbeats 2000000 in
theorem q_X12_look (v1 : Int) (μ : Mem) : f_X12_look [vR 12 0, vI v1] μ = (if v1 < (μ 0 25) then gi v1 (lnR 18) (some (some (vI (μ 18 (v1).toNat)), μ)) else some (some (vI (-1)), μ)) :=
  show Rn kc_X12_look 0 [some (vR 12 0), some (vI v1)] [] μ = _ from (Rn_rc kt_X12_look [] 16 _ _ _ _).trans rfl
noncomputable def e_X12_next_8 (o1 : Option AV) (μ : Mem) : Option Rs := Rn kc_X12_next 8 [some (vR 12 0), o1] [] μ
noncomputable def e_X12_next_82 (o1 : Option AV) (μ : Mem) : Option Rs := Rn kc_X12_next 82 [some (vR 12 0), o1] [] μ
noncomputable def e_X12_next_143 (o1 : Option AV) (μ : Mem) : Option Rs := Rn kc_X12_next 143 [some (vR 12 0), o1] [] μ
set_option maxRecDepth 100000 in
set_option maxHeartbeats 2000000 in
theorem q_X12_next  (μ : Mem) : f_X12_next [vR 12 0] μ = (if (μ 0 30) ≤ 0 then e_X12_next_8 none μ else some (none, μ)) :=
  show Rn kc_X12_next 0 [some (vR 12 0), none] [] μ = _ from (Rn_rc kt_X12_next [8, 82, 143] 131 _ _ _ _).trans rfl
set_option maxRecDepth 100000 in
set_option maxHeartbeats 2000000 in
theorem q_X12_next_8 (o1 : Option AV) (μ : Mem) : e_X12_next_8 o1 μ = (cI (f_X12_look [vR 12 0, vI (μ 0 26)] μ) (fun x2 μ1 => if x2 = 32 then e_X12_next_8 o1 (up μ1 0 26 (wr ((μ1 0 26) + 1))) else cI (f_X12_look [vR 12 0, vI ((up μ1 0 27 (μ1 0 26)) 0 26)] (up μ1 0 27 (μ1 0 26))) (fun x4 μ3 => if x4 < 0 then some (none, up μ3 0 28 0) else cI (f_X12_in [vL x4, vL 97, vL 122] μ3) (fun x6 μ5 => if x6 = 0 then cI (f_X12_in [vL x4, vL 48, vL 57] μ5) (fun x8 μ7 => if x8 = 0 then if x4 = 61 then cV (f_X12_wants [vR 12 0, vI 1, vI 1] (up (up μ7 0 28 3) 0 29 x4)) (fun μ9 => some (none, up μ9 0 26 (wr ((μ9 0 26) + 1)))) else if x4 = 59 then cV (f_X12_wants [vR 12 0, vI 1, vI 1] (up (up μ7 0 28 3) 0 29 x4)) (fun μ11 => some (none, up μ11 0 26 (wr ((μ11 0 26) + 1)))) else cV (f_X12_wants [vR 12 0, vI 0, vI 1] (up (up μ7 0 28 3) 0 29 x4)) (fun μ10 => some (none, up μ10 0 26 (wr ((μ10 0 26) + 1)))) else e_X12_next_143 (some (vI x4)) (up (up μ7 0 28 2) 0 29 (wr (x4 - 48)))) else e_X12_next_82 (some (vI x4)) (up μ5 0 28 1))))) :=
  (Rn_rc kt_X12_next [8, 82, 143] 131 _ _ _ _).trans rfl
set_option maxRecDepth 100000 in
set_option maxHeartbeats 2000000 in
theorem q_X12_next_82 (o1 : Option AV) (μ : Mem) : e_X12_next_82 o1 μ = (cI (f_X12_look [vR 12 0, vI (μ 0 26)] μ) (fun x2 μ1 => cI (f_X12_in [vL x2, vL 97, vL 122] μ1) (fun x4 μ3 => if x4 = 0 then some (none, μ3) else e_X12_next_82 o1 (up μ3 0 26 (wr ((μ3 0 26) + 1)))))) :=
  (Rn_rc kt_X12_next [8, 82, 143] 131 _ _ _ _).trans rfl
set_option maxRecDepth 100000 in
set_option maxHeartbeats 2000000 in
theorem q_X12_next_143 (o1 : Option AV) (μ : Mem) : e_X12_next_143 o1 μ = (cI (f_X12_look [vR 12 0, vI (μ 0 26)] μ) (fun x2 μ1 => cI (f_X12_in [vL x2, vL 48, vL 57] μ1) (fun x4 μ3 => if x4 = 0 then if (wr ((μ3 0 26) - (μ3 0 27))) = 1 then cV (f_X12_wants [vR 12 0, vI 1, vI 1] μ3) (fun μ6 => some (none, μ6)) else cV (f_X12_wants [vR 12 0, vI 0, vI 1] μ3) (fun μ5 => some (none, μ5)) else e_X12_next_143 o1 (up μ3 0 26 (wr ((μ3 0 26) + 1)))))) :=
  (Rn_rc kt_X12_next [8, 82, 143] 131 _ _ _ _).trans rfl
set_option maxRecDepth 100000 in
set_option maxHeartbeats 2000000 in
theorem q_X12_isRow (v1 : Int) (v2 : Int) (v3 : Int) (v4 : Int) (v5 : Int) (μ : Mem) : f_X12_isRow [vR 12 0, vI v1, vI v2, vI v3, vI v4, vI v5] μ = (if (μ 0 28) = 1 then if (wr ((μ 0 26) - (μ 0 27))) = v1 then cI (f_X12_look [vR 12 0, vI (μ 0 27)] μ) (fun x2 μ1 => if x2 = v2 then cI (f_X12_look [vR 12 0, vI (wr ((μ1 0 27) + 1))] μ1) (fun x4 μ3 => if x4 = v3 then cI (f_X12_look [vR 12 0, vI (wr ((μ3 0 27) + 2))] μ3) (fun x6 μ5 => if x6 = v4 then cI (f_X12_look [vR 12 0, vI (wr ((μ5 0 27) + 3))] μ5) (fun x8 μ7 => if x8 = v5 then gz 1 (some (some (vI 1), μ7)) else gz 0 (some (some (vI 0), μ7))) else gz 0 (some (some (vI 0), μ5))) else gz 0 (some (some (vI 0), μ3))) else gz 0 (some (some (vI 0), μ1))) else gz 0 (some (some (vI 0), μ)) else gz 0 (some (some (vI 0), μ))) :=
  show Rn kc_X12_isRow 0 [some (vR 12 0), some (vI v1), some (vI v2), some (vI v3), some (vI v4), some (vI v5)] [] μ = _ from (Rn_rc kt_X12_isRow [] 50 _ _ _ _).trans rfl
set_option maxRecDepth 100000 in
set_option maxHeartbeats 2000000 in
theorem q_X12_readSign (v1 : Int) (μ : Mem) : f_X12_readSign [vR 12 0, vI v1] μ = (if (μ 0 30) = 0 then if (μ 0 28) = 3 then if (μ 0 29) = v1 then cV (f_X12_wants [vR 12 0, vI 1, vI 2] μ) (fun μ6 => cV (f_X12_next [vR 12 0] μ6) (fun μ7 => some (none, μ7))) else cV (f_X12_wants [vR 12 0, vI 0, vI 2] μ) (fun μ4 => cV (f_X12_next [vR 12 0] μ4) (fun μ5 => some (none, μ5))) else cV (f_X12_wants [vR 12 0, vI 0, vI 2] μ) (fun μ2 => cV (f_X12_next [vR 12 0] μ2) (fun μ3 => some (none, μ3))) else cV (f_X12_next [vR 12 0] μ) (fun μ1 => some (none, μ1))) :=
  show Rn kc_X12_readSign 0 [some (vR 12 0), some (vI v1)] [] μ = _ from (Rn_rc kt_X12_readSign [] 25 _ _ _ _).trans rfl
noncomputable def e_X12_readTerm_57 (v1 : Int) (v2 : Int) (v3 : Int) (v4 : Int) (o5 : Option AV) (o6 : Option AV) (μ : Mem) : Option Rs := Rn kc_X12_readTerm 57 [some (vR 12 0), some (vI v1), some (vI v2), some (vI v3), some (vI v4), o5, o6] [] μ
noncomputable def e_X12_readTerm_158 (o1 : Option AV) (o2 : Option AV) (v3 : Int) (o4 : Option AV) (o5 : Option AV) (o6 : Option AV) (μ : Mem) : Option Rs := Rn kc_X12_readTerm 158 [some (vR 12 0), o1, o2, some (vI v3), o4, o5, o6] [] μ
set_option maxRecDepth 100000 in
set_option maxHeartbeats 2000000 in
theorem q_X12_readTerm (v1 : Int) (v2 : Int) (μ : Mem) : f_X12_readTerm [vR 12 0, vI v1, vI v2] μ = (if (μ 0 28) = 1 then cV (f_X12_wants [vR 12 0, vI 1, vI 2] μ) (fun μ2 => if (μ2 0 30) ≤ 0 then if ((up μ2 0 33 (wr ((μ2 0 26) - (μ2 0 27)))) 0 33) ≤ 20 then e_X12_readTerm_57 v1 v2 1 0 none none (up μ2 0 33 (wr ((μ2 0 26) - (μ2 0 27)))) else e_X12_readTerm_57 v1 v2 0 0 none none (up μ2 0 33 (wr ((μ2 0 26) - (μ2 0 27)))) else some (none, μ2)) else cV (f_X12_wants [vR 12 0, vI 0, vI 2] μ) (fun μ1 => if (μ1 0 30) ≤ 0 then if ((up μ1 0 33 (wr ((μ1 0 26) - (μ1 0 27)))) 0 33) ≤ 20 then e_X12_readTerm_57 v1 v2 1 0 none none (up μ1 0 33 (wr ((μ1 0 26) - (μ1 0 27)))) else e_X12_readTerm_57 v1 v2 0 0 none none (up μ1 0 33 (wr ((μ1 0 26) - (μ1 0 27)))) else some (none, μ1))) :=
  show Rn kc_X12_readTerm 0 [some (vR 12 0), some (vI v1), some (vI v2), none, none, none, none] [] μ = _ from (Rn_rc kt_X12_readTerm [57, 158] 107 _ _ _ _).trans rfl
set_option maxRecDepth 100000 in
set_option maxHeartbeats 2000000 in
theorem q_X12_readTerm_57 (v1 : Int) (v2 : Int) (v3 : Int) (v4 : Int) (o5 : Option AV) (o6 : Option AV) (μ : Mem) : e_X12_readTerm_57 v1 v2 v3 v4 o5 o6 μ = (if v4 < (μ 0 33) then if v3 = 0 then e_X12_readTerm_158 (some (vI v1)) (some (vI v2)) v3 (some (vI v4)) o5 o6 μ else cI (f_X12_look [vR 12 0, vI (wr ((μ 0 27) + v4))] μ) (fun x2 μ1 => cI (f_X12_wordBy [vR 12 0, vI (wr (x2 - 97))] μ1) (fun x4 μ3 => gi v4 (lnR 19) (if (wr (x2 - 97)) = 12 then e_X12_readTerm_57 v1 v2 1 (wr (v4 + 1)) (some (vI (wr (x2 - 97)))) (some (vI x4)) (up μ3 19 (v4).toNat (wr (x2 - 97))) else if (wr (x2 - 97)) = 14 then e_X12_readTerm_57 v1 v2 1 (wr (v4 + 1)) (some (vI (wr (x2 - 97)))) (some (vI x4)) (up μ3 19 (v4).toNat (wr (x2 - 97))) else if (wr (x2 - 97)) < 23 then if x4 = (-4) then e_X12_readTerm_57 v1 v2 0 (wr (v4 + 1)) (some (vI (wr (x2 - 97)))) (some (vI x4)) (up μ3 19 (v4).toNat (wr (x2 - 97))) else if x4 < v2 then e_X12_readTerm_57 v1 v2 1 (wr (v4 + 1)) (some (vI (wr (x2 - 97)))) (some (vI x4)) (up μ3 19 (v4).toNat (wr (x2 - 97))) else e_X12_readTerm_57 v1 v2 0 (wr (v4 + 1)) (some (vI (wr (x2 - 97)))) (some (vI x4)) (up μ3 19 (v4).toNat (wr (x2 - 97))) else if (wr (x2 - 97)) < (wr (23 + v1)) then e_X12_readTerm_57 v1 v2 1 (wr (v4 + 1)) (some (vI (wr (x2 - 97)))) (some (vI x4)) (up μ3 19 (v4).toNat (wr (x2 - 97))) else if x4 = (-4) then e_X12_readTerm_57 v1 v2 0 (wr (v4 + 1)) (some (vI (wr (x2 - 97)))) (some (vI x4)) (up μ3 19 (v4).toNat (wr (x2 - 97))) else if x4 < v2 then e_X12_readTerm_57 v1 v2 1 (wr (v4 + 1)) (some (vI (wr (x2 - 97)))) (some (vI x4)) (up μ3 19 (v4).toNat (wr (x2 - 97))) else e_X12_readTerm_57 v1 v2 0 (wr (v4 + 1)) (some (vI (wr (x2 - 97)))) (some (vI x4)) (up μ3 19 (v4).toNat (wr (x2 - 97)))))) else e_X12_readTerm_158 (some (vI v1)) (some (vI v2)) v3 (some (vI v4)) o5 o6 μ) :=
  (Rn_rc kt_X12_readTerm [57, 158] 107 _ _ _ _).trans rfl
set_option maxRecDepth 100000 in
set_option maxHeartbeats 2000000 in
theorem q_X12_readTerm_158 (o1 : Option AV) (o2 : Option AV) (v3 : Int) (o4 : Option AV) (o5 : Option AV) (o6 : Option AV) (μ : Mem) : e_X12_readTerm_158 o1 o2 v3 o4 o5 o6 μ = (if v3 = 0 then cV (f_X12_wants [vR 12 0, vI 0, vI 5] μ) (fun μ1 => cV (f_X12_next [vR 12 0] μ1) (fun μ2 => some (none, μ2))) else cI (f_X12_endAt [vR 12 0, vR 20 19, vI 0, vI (μ 0 33)] μ) (fun x4 μ3 => if x4 = (μ3 0 33) then cV (f_X12_wants [vR 12 0, vI 1, vI 5] μ3) (fun μ7 => cV (f_X12_next [vR 12 0] μ7) (fun μ8 => some (none, μ8))) else cV (f_X12_wants [vR 12 0, vI 0, vI 5] μ3) (fun μ5 => cV (f_X12_next [vR 12 0] μ5) (fun μ6 => some (none, μ6))))) :=
  (Rn_rc kt_X12_readTerm [57, 158] 107 _ _ _ _).trans rfl
noncomputable def e_X12_keepsMeaning_12 (v1 : Int) (v2 : Int) (μ : Mem) : Option Rs := Rn kc_X12_keepsMeaning 12 [some (vR 12 0), some (vI v1), some (vI v2)] [] μ
set_option maxRecDepth 100000 in
set_option maxHeartbeats 2000000 in
theorem q_X12_keepsMeaning (v1 : Int) (μ : Mem) : f_X12_keepsMeaning [vR 12 0, vI v1] μ = (gi v1 (lnR 3) (e_X12_keepsMeaning_12 v1 0 (up μ 3 (v1).toNat (μ 0 33)))) :=
  show Rn kc_X12_keepsMeaning 0 [some (vR 12 0), some (vI v1), none] [] μ = _ from (Rn_rc kt_X12_keepsMeaning [12] 32 _ _ _ _).trans rfl
set_option maxRecDepth 100000 in
set_option maxHeartbeats 2000000 in
theorem q_X12_keepsMeaning_12 (v1 : Int) (v2 : Int) (μ : Mem) : e_X12_keepsMeaning_12 v1 v2 μ = (if v2 < (μ 0 33) then gi v2 (lnR 19) (gi (wr ((wr (20 * v1)) + v2)) (lnR 4) (e_X12_keepsMeaning_12 v1 (wr (v2 + 1)) (up μ 4 (wr ((wr (20 * v1)) + v2)).toNat (μ 19 (v2).toNat)))) else some (none, μ)) :=
  (Rn_rc kt_X12_keepsMeaning [12] 32 _ _ _ _).trans rfl
noncomputable def e_X12_readWord_50 (o1 : Option AV) (o2 : Option AV) (o3 : Option AV) (μ : Mem) : Option Rs := Rn kc_X12_readWord 50 [some (vR 12 0), o1, o2, o3] [] μ
noncomputable def e_X12_readWord_51 (o1 : Option AV) (o2 : Option AV) (o3 : Option AV) (s0 : Int) (μ : Mem) : Option Rs := Rn kc_X12_readWord 51 [some (vR 12 0), o1, o2, o3] [vI s0] μ
noncomputable def e_X12_readWord_93 (o1 : Option AV) (v2 : Int) (o3 : Option AV) (s1 : Int) (μ : Mem) : Option Rs := Rn kc_X12_readWord 93 [some (vR 12 0), o1, some (vI v2), o3] [vI s1, vR 12 0] μ
noncomputable def e_X12_readWord_97 (o1 : Option AV) (v2 : Int) (o3 : Option AV) (μ : Mem) : Option Rs := Rn kc_X12_readWord 97 [some (vR 12 0), o1, some (vI v2), o3] [] μ
noncomputable def e_X12_readWord_122 (o1 : Option AV) (v2 : Int) (o3 : Option AV) (s1 : Int) (μ : Mem) : Option Rs := Rn kc_X12_readWord 122 [some (vR 12 0), o1, some (vI v2), o3] [vI s1, vR 12 0] μ
noncomputable def e_X12_readWord_126 (o1 : Option AV) (v2 : Int) (o3 : Option AV) (μ : Mem) : Option Rs := Rn kc_X12_readWord 126 [some (vR 12 0), o1, some (vI v2), o3] [] μ
noncomputable def e_X12_readWord_150 (o1 : Option AV) (v2 : Int) (o3 : Option AV) (μ : Mem) : Option Rs := Rn kc_X12_readWord 150 [some (vR 12 0), o1, some (vI v2), o3] [] μ
noncomputable def e_X12_readWord_175 (o1 : Option AV) (v2 : Int) (v3 : Int) (μ : Mem) : Option Rs := Rn kc_X12_readWord 175 [some (vR 12 0), o1, some (vI v2), some (vI v3)] [] μ
set_option maxRecDepth 100000 in
set_option maxHeartbeats 2000000 in
theorem q_X12_readWord  (μ : Mem) : f_X12_readWord [vR 12 0] μ = (cV (f_X12_next [vR 12 0] μ) (fun μ1 => if (μ1 0 28) = 1 then if (wr ((μ1 0 26) - (μ1 0 27))) = 1 then cI (f_X12_look [vR 12 0, vI (μ1 0 27)] μ1) (fun x3 μ2 => cI (f_X12_in [vL x3, vL 97, vL 100] μ2) (fun x5 μ4 => if x5 = 0 then e_X12_readWord_50 none none none μ4 else e_X12_readWord_51 none none none 1 μ4)) else e_X12_readWord_50 none none none μ1 else e_X12_readWord_50 none none none μ1)) :=
  show Rn kc_X12_readWord 0 [some (vR 12 0), none, none, none] [] μ = _ from (Rn_rc kt_X12_readWord [50, 51, 93, 97, 122, 126, 150, 175] 122 _ _ _ _).trans rfl
set_option maxRecDepth 100000 in
set_option maxHeartbeats 2000000 in
theorem q_X12_readWord_50 (o1 : Option AV) (o2 : Option AV) (o3 : Option AV) (μ : Mem) : e_X12_readWord_50 o1 o2 o3 μ = (e_X12_readWord_51 o1 o2 o3 0 μ) :=
  (Rn_rc kt_X12_readWord [50, 51, 93, 97, 122, 126, 150, 175] 122 _ _ _ _).trans rfl
set_option maxRecDepth 100000 in
set_option maxHeartbeats 2000000 in
theorem q_X12_readWord_51 (o1 : Option AV) (o2 : Option AV) (o3 : Option AV) (s0 : Int) (μ : Mem) : e_X12_readWord_51 o1 o2 o3 s0 μ = (cV (f_X12_wants [vR 12 0, vI s0, vI 2] μ) (fun μ1 => cI (f_X12_look [vR 12 0, vI (μ1 0 27)] μ1) (fun x3 μ2 => if (μ2 0 30) = 0 then cI (f_X12_wordBy [vR 12 0, vI (wr (x3 - 97))] μ2) (fun x5 μ4 => if x5 = (-4) then e_X12_readWord_93 (some (vI s0)) (wr (x3 - 97)) o3 1 μ4 else e_X12_readWord_93 (some (vI s0)) (wr (x3 - 97)) o3 0 μ4) else e_X12_readWord_97 (some (vI s0)) (wr (x3 - 97)) o3 μ2))) :=
  (Rn_rc kt_X12_readWord [50, 51, 93, 97, 122, 126, 150, 175] 122 _ _ _ _).trans rfl
set_option maxRecDepth 100000 in
set_option maxHeartbeats 2000000 in
theorem q_X12_readWord_93 (o1 : Option AV) (v2 : Int) (o3 : Option AV) (s1 : Int) (μ : Mem) : e_X12_readWord_93 o1 v2 o3 s1 μ = (cV (f_X12_wants [vR 12 0, vI s1, vI 4] μ) (fun μ1 => e_X12_readWord_97 o1 v2 o3 μ1)) :=
  (Rn_rc kt_X12_readWord [50, 51, 93, 97, 122, 126, 150, 175] 122 _ _ _ _).trans rfl
set_option maxRecDepth 100000 in
set_option maxHeartbeats 2000000 in
theorem q_X12_readWord_97 (o1 : Option AV) (v2 : Int) (o3 : Option AV) (μ : Mem) : e_X12_readWord_97 o1 v2 o3 μ = (cV (f_X12_next [vR 12 0] μ) (fun μ1 => if (μ1 0 30) = 0 then if (μ1 0 28) = 2 then e_X12_readWord_122 o1 v2 o3 1 μ1 else e_X12_readWord_122 o1 v2 o3 0 μ1 else e_X12_readWord_126 o1 v2 o3 μ1)) :=
  (Rn_rc kt_X12_readWord [50, 51, 93, 97, 122, 126, 150, 175] 122 _ _ _ _).trans rfl
set_option maxRecDepth 100000 in
set_option maxHeartbeats 2000000 in
theorem q_X12_readWord_122 (o1 : Option AV) (v2 : Int) (o3 : Option AV) (s1 : Int) (μ : Mem) : e_X12_readWord_122 o1 v2 o3 s1 μ = (cV (f_X12_wants [vR 12 0, vI s1, vI 2] μ) (fun μ1 => e_X12_readWord_126 o1 v2 o3 μ1)) :=
  (Rn_rc kt_X12_readWord [50, 51, 93, 97, 122, 126, 150, 175] 122 _ _ _ _).trans rfl
set_option maxRecDepth 100000 in
set_option maxHeartbeats 2000000 in
theorem q_X12_readWord_126 (o1 : Option AV) (v2 : Int) (o3 : Option AV) (μ : Mem) : e_X12_readWord_126 o1 v2 o3 μ = (if (μ 0 30) = 0 then cI (f_X12_in [vL (μ 0 29), vL 1, vL 2] μ) (fun x2 μ1 => cV (f_X12_wants [vR 12 0, vI x2, vI 3] μ1) (fun μ3 => e_X12_readWord_150 o1 v2 o3 μ3)) else e_X12_readWord_150 o1 v2 o3 μ) :=
  (Rn_rc kt_X12_readWord [50, 51, 93, 97, 122, 126, 150, 175] 122 _ _ _ _).trans rfl
set_option maxRecDepth 100000 in
set_option maxHeartbeats 2000000 in
theorem q_X12_readWord_150 (o1 : Option AV) (v2 : Int) (o3 : Option AV) (μ : Mem) : e_X12_readWord_150 o1 v2 o3 μ = (cV (f_X12_next [vR 12 0] μ) (fun μ1 => if (μ1 0 30) = 0 then cV (f_X12_readTerm [vR 12 0, vI (μ 0 29), vI (μ1 0 23)] μ1) (fun μ2 => e_X12_readWord_175 o1 v2 (μ 0 29) μ2) else e_X12_readWord_175 o1 v2 (μ 0 29) μ1)) :=
  (Rn_rc kt_X12_readWord [50, 51, 93, 97, 122, 126, 150, 175] 122 _ _ _ _).trans rfl
set_option maxRecDepth 100000 in
set_option maxHeartbeats 2000000 in
theorem q_X12_readWord_175 (o1 : Option AV) (v2 : Int) (v3 : Int) (μ : Mem) : e_X12_readWord_175 o1 v2 v3 μ = (if (μ 0 30) = 0 then gi (μ 0 23) (lnR 1) (gi ((up μ 1 (μ 0 23).toNat v2) 0 23) (lnR 2) (cV (f_X12_keepsMeaning [vR 12 0, vI ((up (up μ 1 (μ 0 23).toNat v2) 2 ((up μ 1 (μ 0 23).toNat v2) 0 23).toNat v3) 0 23)] (up (up μ 1 (μ 0 23).toNat v2) 2 ((up μ 1 (μ 0 23).toNat v2) 0 23).toNat v3)) (fun μ1 => some (none, up μ1 0 23 (wr ((μ1 0 23) + 1)))))) else some (none, μ)) :=
  (Rn_rc kt_X12_readWord [50, 51, 93, 97, 122, 126, 150, 175] 122 _ _ _ _).trans rfl
noncomputable def e_X12_keepsSide_16 (v1 : Int) (v2 : Int) (v3 : Int) (μ : Mem) : Option Rs := Rn kc_X12_keepsSide 16 [some (vR 12 0), some (vI v1), some (vI v2), some (vI v3)] [] μ
set_option maxRecDepth 100000 in
set_option maxHeartbeats 2000000 in
theorem q_X12_keepsSide (v1 : Int) (v2 : Int) (μ : Mem) : f_X12_keepsSide [vR 12 0, vI v1, vI v2] μ = (gi (wr ((wr (2 * v1)) + v2)) (lnR 6) (e_X12_keepsSide_16 v1 v2 0 (up μ 6 (wr ((wr (2 * v1)) + v2)).toNat (μ 0 33)))) :=
  show Rn kc_X12_keepsSide 0 [some (vR 12 0), some (vI v1), some (vI v2), none] [] μ = _ from (Rn_rc kt_X12_keepsSide [16] 40 _ _ _ _).trans rfl
set_option maxRecDepth 100000 in
set_option maxHeartbeats 2000000 in
theorem q_X12_keepsSide_16 (v1 : Int) (v2 : Int) (v3 : Int) (μ : Mem) : e_X12_keepsSide_16 v1 v2 v3 μ = (if v3 < (μ 0 33) then gi v3 (lnR 19) (gi (wr ((wr ((wr (40 * v1)) + (wr (20 * v2)))) + v3)) (lnR 5) (e_X12_keepsSide_16 v1 v2 (wr (v3 + 1)) (up μ 5 (wr ((wr ((wr (40 * v1)) + (wr (20 * v2)))) + v3)).toNat (μ 19 (v3).toNat)))) else some (none, μ)) :=
  (Rn_rc kt_X12_keepsSide [16] 40 _ _ _ _).trans rfl
noncomputable def e_X12_readSaying_15 (v1 : Int) (s1 : Int) (μ : Mem) : Option Rs := Rn kc_X12_readSaying 15 [some (vR 12 0), some (vI v1)] [vI s1, vR 12 0] μ
noncomputable def e_X12_readSaying_37 (v1 : Int) (μ : Mem) : Option Rs := Rn kc_X12_readSaying 37 [some (vR 12 0), some (vI v1)] [] μ
noncomputable def e_X12_readSaying_53 (v1 : Int) (μ : Mem) : Option Rs := Rn kc_X12_readSaying 53 [some (vR 12 0), some (vI v1)] [] μ
set_option maxRecDepth 100000 in
set_option maxHeartbeats 2000000 in
theorem q_X12_readSaying (v1 : Int) (μ : Mem) : f_X12_readSaying [vR 12 0, vI v1] μ = (if (μ 0 34) < 24 then e_X12_readSaying_15 v1 1 μ else e_X12_readSaying_15 v1 0 μ) :=
  show Rn kc_X12_readSaying 0 [some (vR 12 0), some (vI v1)] [] μ = _ from (Rn_rc kt_X12_readSaying [15, 37, 53] 63 _ _ _ _).trans rfl
set_option maxRecDepth 100000 in
set_option maxHeartbeats 2000000 in
theorem q_X12_readSaying_15 (v1 : Int) (s1 : Int) (μ : Mem) : e_X12_readSaying_15 v1 s1 μ = (cV (f_X12_wants [vR 12 0, vI s1, vI 6] μ) (fun μ1 => cV (f_X12_next [vR 12 0] μ1) (fun μ2 => if (μ2 0 30) = 0 then cV (f_X12_readTerm [vR 12 0, vI 3, vI 4] μ2) (fun μ3 => e_X12_readSaying_37 v1 μ3) else e_X12_readSaying_37 v1 μ2))) :=
  (Rn_rc kt_X12_readSaying [15, 37, 53] 63 _ _ _ _).trans rfl
set_option maxRecDepth 100000 in
set_option maxHeartbeats 2000000 in
theorem q_X12_readSaying_37 (v1 : Int) (μ : Mem) : e_X12_readSaying_37 v1 μ = (if (μ 0 30) = 0 then cV (f_X12_keepsSide [vR 12 0, vI (μ 0 34), vI 0] μ) (fun μ1 => e_X12_readSaying_53 v1 μ1) else e_X12_readSaying_53 v1 μ) :=
  (Rn_rc kt_X12_readSaying [15, 37, 53] 63 _ _ _ _).trans rfl
set_option maxRecDepth 100000 in
set_option maxHeartbeats 2000000 in
theorem q_X12_readSaying_53 (v1 : Int) (μ : Mem) : e_X12_readSaying_53 v1 μ = (cV (f_X12_readSign [vR 12 0, vI 61] μ) (fun μ1 => if (μ1 0 30) = 0 then cV (f_X12_readTerm [vR 12 0, vI 3, vI 4] μ1) (fun μ3 => if (μ3 0 30) = 0 then cV (f_X12_keepsSide [vR 12 0, vI (μ3 0 34), vI 1] μ3) (fun μ4 => gi (μ4 0 34) (lnR 7) (some (none, up (up μ4 7 (μ4 0 34).toNat v1) 0 34 (wr (((up μ4 7 (μ4 0 34).toNat v1) 0 34) + 1))))) else some (none, μ3)) else if (μ1 0 30) = 0 then cV (f_X12_keepsSide [vR 12 0, vI (μ1 0 34), vI 1] μ1) (fun μ2 => gi (μ2 0 34) (lnR 7) (some (none, up (up μ2 7 (μ2 0 34).toNat v1) 0 34 (wr (((up μ2 7 (μ2 0 34).toNat v1) 0 34) + 1))))) else some (none, μ1))) :=
  (Rn_rc kt_X12_readSaying [15, 37, 53] 63 _ _ _ _).trans rfl
noncomputable def e_X12_text_32 (v1 : Int) (o2 : Option AV) (μ : Mem) : Option Rs := Rn kc_X12_text 32 [some (vR 12 0), some (vI v1), o2] [] μ
noncomputable def e_X12_text_108 (v1 : Int) (o2 : Option AV) (μ : Mem) : Option Rs := Rn kc_X12_text 108 [some (vR 12 0), some (vI v1), o2] [] μ
noncomputable def e_X12_text_191 (v1 : Int) (v2 : Int) (μ : Mem) : Option Rs := Rn kc_X12_text 191 [some (vR 12 0), some (vI v1), some (vI v2)] [] μ
set_option maxRecDepth 100000 in
set_option maxHeartbeats 2000000 in
theorem q_X12_text  (μ : Mem) : f_X12_text [vR 12 0] μ = (cV (f_X12_next [vR 12 0] (up (up (up (up μ 0 30 0) 0 26 0) 0 23 ((up (up μ 0 30 0) 0 26 0) 0 0)) 0 34 ((up (up (up μ 0 30 0) 0 26 0) 0 23 ((up (up μ 0 30 0) 0 26 0) 0 0)) 0 5))) (fun μ1 => e_X12_text_32 0 none μ1)) :=
  show Rn kc_X12_text 0 [some (vR 12 0), none, none] [] μ = _ from (Rn_rc kt_X12_text [32, 108, 191] 160 _ _ _ _).trans rfl
set_option maxRecDepth 100000 in
set_option maxHeartbeats 2000000 in
theorem q_X12_text_32 (v1 : Int) (o2 : Option AV) (μ : Mem) : e_X12_text_32 v1 o2 μ = (if (μ 0 30) = 0 then if (μ 0 28) = 0 then if ((up μ 0 25 0) 0 30) ≤ 0 then e_X12_text_191 v1 ((up (up μ 0 25 0) 0 0 ((up μ 0 25 0) 0 23)) 0 5) (up (up μ 0 25 0) 0 0 ((up μ 0 25 0) 0 23)) else some (some (vI (wr ((-10) - ((up (up μ 0 25 0) 0 23 ((up μ 0 25 0) 0 0)) 0 31)))), up (up μ 0 25 0) 0 23 ((up μ 0 25 0) 0 0)) else cI (f_X12_isRow [vR 12 0, vI 4, vI 119, vI 111, vI 114, vI 100] μ) (fun x2 μ1 => if x2 = 0 then cI (f_X12_isRow [vR 12 0, vI 5, vI 116, vI 97, vI 107, vI 101] μ1) (fun x4 μ3 => if x4 = 0 then e_X12_text_108 v1 o2 μ3 else cI (f_X12_look [vR 12 0, vI (wr ((μ3 0 27) + 4))] μ3) (fun x6 μ5 => if x6 = 110 then cV (f_X12_readSaying [vR 12 0, vI 0] μ5) (fun μ7 => cV (f_X12_readSign [vR 12 0, vI 59] μ7) (fun μ8 => e_X12_text_32 (wr (v1 + 1)) o2 μ8)) else e_X12_text_108 v1 o2 μ5)) else cV (f_X12_readWord [vR 12 0] μ1) (fun μ9 => cV (f_X12_readSign [vR 12 0, vI 59] μ9) (fun μ10 => e_X12_text_32 (wr (v1 + 1)) o2 μ10))) else if ((up μ 0 25 0) 0 30) ≤ 0 then e_X12_text_191 v1 ((up (up μ 0 25 0) 0 0 ((up μ 0 25 0) 0 23)) 0 5) (up (up μ 0 25 0) 0 0 ((up μ 0 25 0) 0 23)) else some (some (vI (wr ((-10) - ((up (up μ 0 25 0) 0 23 ((up μ 0 25 0) 0 0)) 0 31)))), up (up μ 0 25 0) 0 23 ((up μ 0 25 0) 0 0))) :=
  (Rn_rc kt_X12_text [32, 108, 191] 160 _ _ _ _).trans rfl
set_option maxRecDepth 100000 in
set_option maxHeartbeats 2000000 in
theorem q_X12_text_108 (v1 : Int) (o2 : Option AV) (μ : Mem) : e_X12_text_108 v1 o2 μ = (cI (f_X12_isRow [vR 12 0, vI 4, vI 119, vI 105, vI 115, vI 104] μ) (fun x2 μ1 => cV (f_X12_wants [vR 12 0, vI x2, vI 2] μ1) (fun μ3 => if (μ3 0 30) = 0 then cV (f_X12_readSaying [vR 12 0, vI 1] μ3) (fun μ5 => cV (f_X12_readSign [vR 12 0, vI 59] μ5) (fun μ6 => e_X12_text_32 (wr (v1 + 1)) o2 μ6)) else cV (f_X12_readSign [vR 12 0, vI 59] μ3) (fun μ4 => e_X12_text_32 (wr (v1 + 1)) o2 μ4)))) :=
  (Rn_rc kt_X12_text [32, 108, 191] 160 _ _ _ _).trans rfl
set_option maxRecDepth 100000 in
set_option maxHeartbeats 2000000 in
theorem q_X12_text_191 (v1 : Int) (v2 : Int) (μ : Mem) : e_X12_text_191 v1 v2 μ = (if v2 < (μ 0 34) then gi v2 (lnR 8) (gi v2 (lnR 9) (gi v2 (lnR 10) (gi v2 (lnR 11) (gi v2 (lnR 12) (gi v2 (lnR 7) (gi (wr ((wr (1000 * v2)) + ((up (up (up (up (up μ 8 (v2).toNat (μ 0 21)) 9 (v2).toNat ((up μ 8 (v2).toNat (μ 0 21)) 0 22)) 10 (v2).toNat (-4)) 11 (v2).toNat 0) 12 (v2).toNat (-4)) 0 22))) (lnR 17) (e_X12_text_191 v1 (wr (v2 + 1)) (up (up (up (up (up (up μ 8 (v2).toNat (μ 0 21)) 9 (v2).toNat ((up μ 8 (v2).toNat (μ 0 21)) 0 22)) 10 (v2).toNat (-4)) 11 (v2).toNat 0) 12 (v2).toNat (-4)) 17 (wr ((wr (1000 * v2)) + ((up (up (up (up (up μ 8 (v2).toNat (μ 0 21)) 9 (v2).toNat ((up μ 8 (v2).toNat (μ 0 21)) 0 22)) 10 (v2).toNat (-4)) 11 (v2).toNat 0) 12 (v2).toNat (-4)) 0 22))).toNat (wr (((up (up (up (up (up μ 8 (v2).toNat (μ 0 21)) 9 (v2).toNat ((up μ 8 (v2).toNat (μ 0 21)) 0 22)) 10 (v2).toNat (-4)) 11 (v2).toNat 0) 12 (v2).toNat (-4)) 7 (v2).toNat) + 1)))))))))) else gz 0 (some (some (vI v1), up (up μ 0 5 (μ 0 34)) 0 68 0))) :=
  (Rn_rc kt_X12_text [32, 108, 191] 160 _ _ _ _).trans rfl
set_option maxRecDepth 100000 in
set_option maxHeartbeats 2000000 in
theorem q_X12_fault  (μ : Mem) : f_X12_fault [vR 12 0] μ = (some (some (vI (μ 0 30)), μ)) :=
  show Rn kc_X12_fault 0 [some (vR 12 0)] [] μ = _ from (Rn_rc kt_X12_fault [] 8 _ _ _ _).trans rfl
set_option maxRecDepth 100000 in
set_option maxHeartbeats 2000000 in
theorem q_X12_hand (v1 : Int) (μ : Mem) : f_X12_hand [vR 12 0, vI v1] μ = (cI (f_X12_in [vL v1, vL 0, vL 9] μ) (fun x2 μ1 => if x2 = 0 then some (some (vI (-1)), μ1) else some (some (vI (μ1 0 21)), up μ1 0 21 v1))) :=
  show Rn kc_X12_hand 0 [some (vR 12 0), some (vI v1), none] [] μ = _ from (Rn_rc kt_X12_hand [] 21 _ _ _ _).trans rfl
set_option maxRecDepth 100000 in
set_option maxHeartbeats 2000000 in
theorem q_X12_day (v1 : Int) (μ : Mem) : f_X12_day [vR 12 0, vI v1] μ = (cI (f_X12_in [vL v1, vL (μ 0 22), vL 999] μ) (fun x2 μ1 => if x2 = 0 then some (some (vI (-1)), μ1) else some (some (vI (μ1 0 22)), up μ1 0 22 v1))) :=
  show Rn kc_X12_day 0 [some (vR 12 0), some (vI v1), none] [] μ = _ from (Rn_rc kt_X12_day [] 23 _ _ _ _).trans rfl
noncomputable def e_X12_usesOf_4 (v1 : Int) (v2 : Int) (v3 : Int) (μ : Mem) : Option Rs := Rn kc_X12_usesOf 4 [some (vR 12 0), some (vI v1), some (vI v2), some (vI v3)] [] μ
set_option maxRecDepth 100000 in
set_option maxHeartbeats 2000000 in
theorem q_X12_usesOf (v1 : Int) (μ : Mem) : f_X12_usesOf [vR 12 0, vI v1] μ = (e_X12_usesOf_4 v1 0 0 μ) :=
  show Rn kc_X12_usesOf 0 [some (vR 12 0), some (vI v1), none, none] [] μ = _ from (Rn_rc kt_X12_usesOf [4] 52 _ _ _ _).trans rfl
set_option maxRecDepth 100000 in
set_option maxHeartbeats 2000000 in
theorem q_X12_usesOf_4 (v1 : Int) (v2 : Int) (v3 : Int) (μ : Mem) : e_X12_usesOf_4 v1 v2 v3 μ = (gi v1 (lnR 11) (if v3 < (μ 11 (v1).toNat) then gi v1 (lnR 7) (if (μ 7 (v1).toNat) = 2 then gi v1 (lnR 10) (gi (wr ((μ 10 (v1).toNat) + v3)) (lnR 14) (if (μ 14 (wr ((μ 10 (v1).toNat) + v3)).toNat) ≤ 1 then gi v1 (lnR 10) (gi (wr ((μ 10 (v1).toNat) + v3)) (lnR 15) (e_X12_usesOf_4 v1 (bOr v2 (bShl 1 (μ 15 (wr ((μ 10 (v1).toNat) + v3)).toNat))) (wr (v3 + 1)) μ)) else e_X12_usesOf_4 v1 (bOr v2 0) (wr (v3 + 1)) μ)) else some (some (vI v2), μ)) else some (some (vI v2), μ))) :=
  (Rn_rc kt_X12_usesOf [4] 52 _ _ _ _).trans rfl
noncomputable def e_X12_leansOf_8 (o1 : Option AV) (v2 : Int) (v3 : Int) (o4 : Option AV) (μ : Mem) : Option Rs := Rn kc_X12_leansOf 8 [some (vR 12 0), o1, some (vI v2), some (vI v3), o4] [] μ
noncomputable def e_X12_leansOf_19 (o1 : Option AV) (v2 : Int) (v3 : Int) (v4 : Int) (μ : Mem) : Option Rs := Rn kc_X12_leansOf 19 [some (vR 12 0), o1, some (vI v2), some (vI v3), some (vI v4)] [] μ
set_option maxRecDepth 100000 in
set_option maxHeartbeats 2000000 in
theorem q_X12_leansOf (v1 : Int) (μ : Mem) : f_X12_leansOf [vR 12 0, vI v1] μ = (cI (f_X12_usesOf [vR 12 0, vI v1] μ) (fun x2 μ1 => e_X12_leansOf_8 (some (vI v1)) x2 0 none μ1)) :=
  show Rn kc_X12_leansOf 0 [some (vR 12 0), some (vI v1), none, none, none] [] μ = _ from (Rn_rc kt_X12_leansOf [8, 19] 42 _ _ _ _).trans rfl
set_option maxRecDepth 100000 in
set_option maxHeartbeats 2000000 in
theorem q_X12_leansOf_8 (o1 : Option AV) (v2 : Int) (v3 : Int) (o4 : Option AV) (μ : Mem) : e_X12_leansOf_8 o1 v2 v3 o4 μ = (if v3 < (μ 0 5) then e_X12_leansOf_19 o1 v2 v3 0 μ else some (some (vI v2), μ)) :=
  (Rn_rc kt_X12_leansOf [8, 19] 42 _ _ _ _).trans rfl
set_option maxRecDepth 100000 in
set_option maxHeartbeats 2000000 in
theorem q_X12_leansOf_19 (o1 : Option AV) (v2 : Int) (v3 : Int) (v4 : Int) (μ : Mem) : e_X12_leansOf_19 o1 v2 v3 v4 μ = (if v4 < (μ 0 5) then if (bAnd (bShr v2 v4) 1) = 1 then cI (f_X12_usesOf [vR 12 0, vI v4] μ) (fun x2 μ1 => e_X12_leansOf_19 (kl o1) (bOr v2 x2) v3 (wr (v4 + 1)) μ1) else e_X12_leansOf_19 (kl o1) (bOr v2 0) v3 (wr (v4 + 1)) μ else e_X12_leansOf_8 o1 v2 (wr (v3 + 1)) (some (vI v4)) μ) :=
  (Rn_rc kt_X12_leansOf [8, 19] 42 _ _ _ _).trans rfl
noncomputable def e_X12_leaning_4 (v1 : Int) (v2 : Int) (v3 : Int) (μ : Mem) : Option Rs := Rn kc_X12_leaning 4 [some (vR 12 0), some (vI v1), some (vI v2), some (vI v3)] [] μ
set_option maxRecDepth 100000 in
set_option maxHeartbeats 2000000 in
theorem q_X12_leaning (v1 : Int) (μ : Mem) : f_X12_leaning [vR 12 0, vI v1] μ = (e_X12_leaning_4 v1 0 0 μ) :=
  show Rn kc_X12_leaning 0 [some (vR 12 0), some (vI v1), none, none] [] μ = _ from (Rn_rc kt_X12_leaning [4] 34 _ _ _ _).trans rfl
set_option maxRecDepth 100000 in
set_option maxHeartbeats 2000000 in
theorem q_X12_leaning_4 (v1 : Int) (v2 : Int) (v3 : Int) (μ : Mem) : e_X12_leaning_4 v1 v2 v3 μ = (if v3 < (μ 0 5) then cI (f_X12_leansOf [vR 12 0, vI v3] μ) (fun x2 μ1 => if (bAnd (bShr x2 v1) 1) = 1 then e_X12_leaning_4 v1 (bOr v2 (bShl 1 v3)) (wr (v3 + 1)) μ1 else e_X12_leaning_4 v1 (bOr v2 0) (wr (v3 + 1)) μ1) else some (some (vI v2), μ)) :=
  (Rn_rc kt_X12_leaning [4] 34 _ _ _ _).trans rfl
set_option maxRecDepth 100000 in
set_option maxHeartbeats 2000000 in
theorem q_X12_of (v1 : Int) (v2 : Int) (μ : Mem) : f_X12_of [vR 12 0, vI v1, vI v2] μ = (cI (f_X12_isSaying [vR 12 0, vI v1] μ) (fun x2 μ1 => if x2 = 0 then some (some (vI (-1)), μ1) else cI (f_X12_in [vL v2, vL 0, vL 8] μ1) (fun x4 μ3 => if x4 = 0 then some (some (vI (-1)), μ3) else if v2 = 0 then gi v1 (lnR 7) (some (some (vI (μ3 7 (v1).toNat)), μ3)) else if v2 = 1 then gi v1 (lnR 8) (some (some (vI (μ3 8 (v1).toNat)), μ3)) else if v2 = 2 then gi v1 (lnR 9) (some (some (vI (μ3 9 (v1).toNat)), μ3)) else if v2 = 3 then gi (wr (2 * v1)) (lnR 6) (some (some (vI (μ3 6 (wr (2 * v1)).toNat)), μ3)) else if v2 = 4 then gi (wr ((wr (2 * v1)) + 1)) (lnR 6) (some (some (vI (μ3 6 (wr ((wr (2 * v1)) + 1)).toNat)), μ3)) else if v2 = 5 then gi v1 (lnR 10) (if (μ3 10 (v1).toNat) = (-4) then some (some (vI (-4)), μ3) else gi v1 (lnR 11) (some (some (vI (μ3 11 (v1).toNat)), μ3))) else if v2 = 6 then gi v1 (lnR 7) (if (μ3 7 (v1).toNat) = 3 then gi v1 (lnR 12) (some (some (vI (μ3 12 (v1).toNat)), μ3)) else some (some (vI (-4)), μ3)) else if v2 = 7 then cI (f_X12_leansOf [vR 12 0, vI v1] μ3) (fun x6 μ5 => cI (f_X12_bits [vI x6] μ5) (fun x8 μ7 => some (some (vI x8), μ7))) else cI (f_X12_leaning [vR 12 0, vI v1] μ3) (fun x10 μ9 => cI (f_X12_bits [vI x10] μ9) (fun x12 μ11 => some (some (vI x12), μ11)))))) :=
  show Rn kc_X12_of 0 [some (vR 12 0), some (vI v1), some (vI v2)] [] μ = _ from (Rn_rc kt_X12_of [] 86 _ _ _ _).trans rfl
set_option maxRecDepth 100000 in
set_option maxHeartbeats 2000000 in
theorem q_X12_sign (v1 : Int) (v2 : Int) (v3 : Int) (μ : Mem) : f_X12_sign [vR 12 0, vI v1, vI v2, vI v3] μ = (cI (f_X12_isSaying [vR 12 0, vI v1] μ) (fun x2 μ1 => if x2 = 0 then some (some (vI (-1)), μ1) else cI (f_X12_in [vL v2, vL 0, vL 1] μ1) (fun x4 μ3 => if x4 = 0 then some (some (vI (-1)), μ3) else if v3 < 0 then some (some (vI (-1)), μ3) else gi (wr ((wr (2 * v1)) + v2)) (lnR 6) (if v3 < (μ3 6 (wr ((wr (2 * v1)) + v2)).toNat) then gi (wr ((wr ((wr (40 * v1)) + (wr (20 * v2)))) + v3)) (lnR 5) (some (some (vI (μ3 5 (wr ((wr ((wr (40 * v1)) + (wr (20 * v2)))) + v3)).toNat)), μ3)) else some (some (vI (-4)), μ3))))) :=
  show Rn kc_X12_sign 0 [some (vR 12 0), some (vI v1), some (vI v2), some (vI v3)] [] μ = _ from (Rn_rc kt_X12_sign [] 44 _ _ _ _).trans rfl
noncomputable def e_X12_begins_14 (v1 : Int) (v2 : Int) (μ : Mem) : Option Rs := Rn kc_X12_begins 14 [some (vR 12 0), some (vI v1), some (vI v2)] [] μ
set_option maxRecDepth 100000 in
set_option maxHeartbeats 2000000 in
theorem q_X12_begins (v1 : Int) (μ : Mem) : f_X12_begins [vR 12 0, vI v1] μ = (gi (wr (2 * v1)) (lnR 6) (e_X12_begins_14 v1 0 (up μ 0 36 (μ 6 (wr (2 * v1)).toNat)))) :=
  show Rn kc_X12_begins 0 [some (vR 12 0), some (vI v1), none] [] μ = _ from (Rn_rc kt_X12_begins [14] 34 _ _ _ _).trans rfl
set_option maxRecDepth 100000 in
set_option maxHeartbeats 2000000 in
theorem q_X12_begins_14 (v1 : Int) (v2 : Int) (μ : Mem) : e_X12_begins_14 v1 v2 μ = (if v2 < (μ 0 36) then gi (wr ((wr (40 * v1)) + v2)) (lnR 5) (gi v2 (lnR 20) (e_X12_begins_14 v1 (wr (v2 + 1)) (up μ 20 (v2).toNat (μ 5 (wr ((wr (40 * v1)) + v2)).toNat)))) else some (none, μ)) :=
  (Rn_rc kt_X12_begins [14] 34 _ _ _ _).trans rfl
noncomputable def e_X12_goes_10 (v1 : Int) (μ : Mem) : Option Rs := Rn kc_X12_goes 10 [some (vR 12 0), some (vI v1)] [] μ
set_option maxRecDepth 100000 in
set_option maxHeartbeats 2000000 in
theorem q_X12_goes  (μ : Mem) : f_X12_goes [vR 12 0] μ = (e_X12_goes_10 0 (up μ 0 36 (μ 0 38))) :=
  show Rn kc_X12_goes 0 [some (vR 12 0), none] [] μ = _ from (Rn_rc kt_X12_goes [10] 26 _ _ _ _).trans rfl
set_option maxRecDepth 100000 in
set_option maxHeartbeats 2000000 in
theorem q_X12_goes_10 (v1 : Int) (μ : Mem) : e_X12_goes_10 v1 μ = (if v1 < (μ 0 38) then gi v1 (lnR 21) (gi v1 (lnR 20) (e_X12_goes_10 (wr (v1 + 1)) (up μ 20 (v1).toNat (μ 21 (v1).toNat)))) else some (none, μ)) :=
  (Rn_rc kt_X12_goes [10] 26 _ _ _ _).trans rfl
noncomputable def e_X12_copiesMeaning_2 (v1 : Int) (v2 : Int) (v3 : Int) (μ : Mem) : Option Rs := Rn kc_X12_copiesMeaning 2 [some (vR 12 0), some (vI v1), some (vI v2), some (vI v3)] [] μ
set_option maxRecDepth 100000 in
set_option maxHeartbeats 2000000 in
theorem q_X12_copiesMeaning (v1 : Int) (v2 : Int) (μ : Mem) : f_X12_copiesMeaning [vR 12 0, vI v1, vI v2] μ = (e_X12_copiesMeaning_2 v1 v2 0 μ) :=
  show Rn kc_X12_copiesMeaning 0 [some (vR 12 0), some (vI v1), some (vI v2), none] [] μ = _ from (Rn_rc kt_X12_copiesMeaning [2] 65 _ _ _ _).trans rfl
set_option maxRecDepth 100000 in
set_option maxHeartbeats 2000000 in
theorem q_X12_copiesMeaning_2 (v1 : Int) (v2 : Int) (v3 : Int) (μ : Mem) : e_X12_copiesMeaning_2 v1 v2 v3 μ = (gi v1 (lnR 3) (if v3 < (μ 3 (v1).toNat) then if v2 = 0 then gi (wr ((wr (20 * v1)) + v3)) (lnR 4) (gi v3 (lnR 25) (e_X12_copiesMeaning_2 v1 v2 (wr (v3 + 1)) (up μ 25 (v3).toNat (μ 4 (wr ((wr (20 * v1)) + v3)).toNat)))) else gi (wr ((wr (20 * v1)) + v3)) (lnR 4) (gi v3 (lnR 24) (e_X12_copiesMeaning_2 v1 v2 (wr (v3 + 1)) (up μ 24 (v3).toNat (μ 4 (wr ((wr (20 * v1)) + v3)).toNat)))) else if v2 = 0 then if v2 = 0 then gi v1 (lnR 3) (some (none, up (up μ 0 42 (μ 0 42)) 0 44 ((up μ 0 42 (μ 0 42)) 3 (v1).toNat))) else some (none, up (up μ 0 42 (μ 0 42)) 0 44 ((up μ 0 42 (μ 0 42)) 0 44)) else gi v1 (lnR 3) (if v2 = 0 then gi v1 (lnR 3) (some (none, up (up μ 0 42 (μ 3 (v1).toNat)) 0 44 ((up μ 0 42 (μ 3 (v1).toNat)) 3 (v1).toNat))) else some (none, up (up μ 0 42 (μ 3 (v1).toNat)) 0 44 ((up μ 0 42 (μ 3 (v1).toNat)) 0 44))))) :=
  (Rn_rc kt_X12_copiesMeaning [2] 65 _ _ _ _).trans rfl
noncomputable def e_X12_copiesSide_15 (v1 : Int) (v2 : Int) (v3 : Int) (v4 : Int) (v5 : Int) (o6 : Option AV) (μ : Mem) : Option Rs := Rn kc_X12_copiesSide 15 [some (vR 12 0), some (vI v1), some (vI v2), some (vI v3), some (vI v4), some (vI v5), o6] [] μ
set_option maxRecDepth 100000 in
set_option maxHeartbeats 2000000 in
theorem q_X12_copiesSide (v1 : Int) (v2 : Int) (v3 : Int) (μ : Mem) : f_X12_copiesSide [vR 12 0, vI v1, vI v2, vI v3] μ = (gi (wr ((wr (2 * v1)) + v2)) (lnR 6) (e_X12_copiesSide_15 v1 v2 v3 (μ 6 (wr ((wr (2 * v1)) + v2)).toNat) 0 none μ)) :=
  show Rn kc_X12_copiesSide 0 [some (vR 12 0), some (vI v1), some (vI v2), some (vI v3), none, none, none] [] μ = _ from (Rn_rc kt_X12_copiesSide [15] 64 _ _ _ _).trans rfl
set_option maxRecDepth 100000 in
set_option maxHeartbeats 2000000 in
theorem q_X12_copiesSide_15 (v1 : Int) (v2 : Int) (v3 : Int) (v4 : Int) (v5 : Int) (o6 : Option AV) (μ : Mem) : e_X12_copiesSide_15 v1 v2 v3 v4 v5 o6 μ = (if v5 < v4 then gi (wr ((wr ((wr (40 * v1)) + (wr (20 * v2)))) + v5)) (lnR 5) (if v3 = 0 then gi v5 (lnR 25) (e_X12_copiesSide_15 v1 v2 v3 v4 (wr (v5 + 1)) (some (vI (μ 5 (wr ((wr ((wr (40 * v1)) + (wr (20 * v2)))) + v5)).toNat))) (up μ 25 (v5).toNat (μ 5 (wr ((wr ((wr (40 * v1)) + (wr (20 * v2)))) + v5)).toNat))) else gi v5 (lnR 24) (e_X12_copiesSide_15 v1 v2 v3 v4 (wr (v5 + 1)) (some (vI (μ 5 (wr ((wr ((wr (40 * v1)) + (wr (20 * v2)))) + v5)).toNat))) (up μ 24 (v5).toNat (μ 5 (wr ((wr ((wr (40 * v1)) + (wr (20 * v2)))) + v5)).toNat)))) else if v3 = 0 then if v3 = 0 then some (none, up (up μ 0 42 (μ 0 42)) 0 44 v4) else some (none, up (up μ 0 42 (μ 0 42)) 0 44 ((up μ 0 42 (μ 0 42)) 0 44)) else if v3 = 0 then some (none, up (up μ 0 42 v4) 0 44 v4) else some (none, up (up μ 0 42 v4) 0 44 ((up μ 0 42 v4) 0 44))) :=
  (Rn_rc kt_X12_copiesSide [15] 64 _ _ _ _).trans rfl
noncomputable def e_X12_copiesWord_2 (v1 : Int) (v2 : Int) (v3 : Int) (o4 : Option AV) (μ : Mem) : Option Rs := Rn kc_X12_copiesWord 2 [some (vR 12 0), some (vI v1), some (vI v2), some (vI v3), o4] [] μ
set_option maxRecDepth 100000 in
set_option maxHeartbeats 2000000 in
theorem q_X12_copiesWord (v1 : Int) (v2 : Int) (μ : Mem) : f_X12_copiesWord [vR 12 0, vI v1, vI v2] μ = (e_X12_copiesWord_2 v1 v2 0 none μ) :=
  show Rn kc_X12_copiesWord 0 [some (vR 12 0), some (vI v1), some (vI v2), none, none] [] μ = _ from (Rn_rc kt_X12_copiesWord [2] 68 _ _ _ _).trans rfl
set_option maxRecDepth 100000 in
set_option maxHeartbeats 2000000 in
theorem q_X12_copiesWord_2 (v1 : Int) (v2 : Int) (v3 : Int) (o4 : Option AV) (μ : Mem) : e_X12_copiesWord_2 v1 v2 v3 o4 μ = (gi v1 (lnR 2) (if v3 ≤ (μ 2 (v1).toNat) then if v3 = 0 then gi v1 (lnR 1) (if v2 = 0 then gi v3 (lnR 25) (e_X12_copiesWord_2 v1 v2 (wr (v3 + 1)) (some (vI (μ 1 (v1).toNat))) (up μ 25 (v3).toNat (μ 1 (v1).toNat))) else gi v3 (lnR 24) (e_X12_copiesWord_2 v1 v2 (wr (v3 + 1)) (some (vI (μ 1 (v1).toNat))) (up μ 24 (v3).toNat (μ 1 (v1).toNat)))) else if v2 = 0 then gi v3 (lnR 25) (e_X12_copiesWord_2 v1 v2 (wr (v3 + 1)) (some (vI (wr ((wr (23 + v3)) - 1)))) (up μ 25 (v3).toNat (wr ((wr (23 + v3)) - 1)))) else gi v3 (lnR 24) (e_X12_copiesWord_2 v1 v2 (wr (v3 + 1)) (some (vI (wr ((wr (23 + v3)) - 1)))) (up μ 24 (v3).toNat (wr ((wr (23 + v3)) - 1)))) else if v2 = 0 then if v2 = 0 then gi v1 (lnR 2) (some (none, up (up μ 0 42 (μ 0 42)) 0 44 (wr (1 + ((up μ 0 42 (μ 0 42)) 2 (v1).toNat))))) else some (none, up (up μ 0 42 (μ 0 42)) 0 44 ((up μ 0 42 (μ 0 42)) 0 44)) else gi v1 (lnR 2) (if v2 = 0 then gi v1 (lnR 2) (some (none, up (up μ 0 42 (wr (1 + (μ 2 (v1).toNat)))) 0 44 (wr (1 + ((up μ 0 42 (wr (1 + (μ 2 (v1).toNat)))) 2 (v1).toNat))))) else some (none, up (up μ 0 42 (wr (1 + (μ 2 (v1).toNat)))) 0 44 ((up μ 0 42 (wr (1 + (μ 2 (v1).toNat)))) 0 44))))) :=
  (Rn_rc kt_X12_copiesWord [2] 68 _ _ _ _).trans rfl
noncomputable def e_X12_alike_6 (v1 : Int) (v2 : Int) (v3 : Int) (v4 : Int) (v5 : Int) (μ : Mem) : Option Rs := Rn kc_X12_alike 6 [some (vR 12 0), some (vI v1), some (vI v2), some (vI v3), some (vI v4), some (vI v5)] [] μ
set_option maxRecDepth 100000 in
set_option maxHeartbeats 2000000 in
theorem q_X12_alike (v1 : Int) (v2 : Int) (v3 : Int) (μ : Mem) : f_X12_alike [vR 12 0, vI v1, vI v2, vI v3] μ = (e_X12_alike_6 v1 v2 v3 1 0 μ) :=
  show Rn kc_X12_alike 0 [some (vR 12 0), some (vI v1), some (vI v2), some (vI v3), none, none] [] μ = _ from (Rn_rc kt_X12_alike [6] 35 _ _ _ _).trans rfl
set_option maxRecDepth 100000 in
set_option maxHeartbeats 2000000 in
theorem q_X12_alike_6 (v1 : Int) (v2 : Int) (v3 : Int) (v4 : Int) (v5 : Int) (μ : Mem) : e_X12_alike_6 v1 v2 v3 v4 v5 μ = (if v5 < v3 then if v4 = 0 then gz v4 (some (some (vI v4), μ)) else gi (wr (v1 + v5)) (lnR 20) (gi (wr (v2 + v5)) (lnR 20) (if (μ 20 (wr (v1 + v5)).toNat) = (μ 20 (wr (v2 + v5)).toNat) then e_X12_alike_6 v1 v2 v3 1 (wr (v5 + 1)) μ else e_X12_alike_6 v1 v2 v3 0 (wr (v5 + 1)) μ)) else gz v4 (some (some (vI v4), μ))) :=
  (Rn_rc kt_X12_alike [6] 35 _ _ _ _).trans rfl
noncomputable def e_X12_fits_2 (v1 : Int) (v2 : Int) (v3 : Int) (o4 : Option AV) (o5 : Option AV) (o6 : Option AV) (μ : Mem) : Option Rs := Rn kc_X12_fits 2 [some (vR 12 0), some (vI v1), some (vI v2), some (vI v3), o4, o5, o6] [] μ
noncomputable def e_X12_fits_26 (o1 : Option AV) (v2 : Int) (v3 : Int) (v4 : Int) (o5 : Option AV) (o6 : Option AV) (μ : Mem) : Option Rs := Rn kc_X12_fits 26 [some (vR 12 0), o1, some (vI v2), some (vI v3), some (vI v4), o5, o6] [] μ
set_option maxRecDepth 100000 in
set_option maxHeartbeats 2000000 in
theorem q_X12_fits (v1 : Int) (v2 : Int) (μ : Mem) : f_X12_fits [vR 12 0, vI v1, vI v2] μ = (e_X12_fits_2 v1 v2 0 none none none μ) :=
  show Rn kc_X12_fits 0 [some (vR 12 0), some (vI v1), some (vI v2), none, none, none, none] [] μ = _ from (Rn_rc kt_X12_fits [2, 26] 114 _ _ _ _).trans rfl
set_option maxRecDepth 100000 in
set_option maxHeartbeats 2000000 in
theorem q_X12_fits_2 (v1 : Int) (v2 : Int) (v3 : Int) (o4 : Option AV) (o5 : Option AV) (o6 : Option AV) (μ : Mem) : e_X12_fits_2 v1 v2 v3 o4 o5 o6 μ = (if v3 < 3 then gi v3 (lnR 22) (e_X12_fits_2 v1 v2 (wr (v3 + 1)) o4 o5 o6 (up μ 22 (v3).toNat (-4))) else e_X12_fits_26 (some (vI v1)) v2 v1 0 o5 o6 μ) :=
  (Rn_rc kt_X12_fits [2, 26] 114 _ _ _ _).trans rfl
set_option maxRecDepth 100000 in
set_option maxHeartbeats 2000000 in
theorem q_X12_fits_26 (o1 : Option AV) (v2 : Int) (v3 : Int) (v4 : Int) (o5 : Option AV) (o6 : Option AV) (μ : Mem) : e_X12_fits_26 o1 v2 v3 v4 o5 o6 μ = (if v4 < (μ 0 42) then if v3 < v2 then gi v4 (lnR 24) (if (μ 24 (v4).toNat) < 23 then gi v3 (lnR 20) (gi v4 (lnR 24) (if (μ 20 (v3).toNat) = (μ 24 (v4).toNat) then e_X12_fits_26 o1 v2 (wr (v3 + 1)) (wr (v4 + 1)) o5 o6 μ else gz 0 (some (some (vI 0), μ)))) else gi v4 (lnR 24) (cI (f_X12_endAt [vR 12 0, vR 20 20, vI v3, vI v2] μ) (fun x2 μ1 => gi (wr ((μ 24 (v4).toNat) - 23)) (lnR 22) (if (μ1 22 (wr ((μ 24 (v4).toNat) - 23)).toNat) = (-4) then gi (wr ((μ 24 (v4).toNat) - 23)) (lnR 22) (gi (wr ((μ 24 (v4).toNat) - 23)) (lnR 23) (e_X12_fits_26 o1 v2 x2 (wr (v4 + 1)) (some (vI (wr ((μ 24 (v4).toNat) - 23)))) (some (vI x2)) (up (up μ1 22 (wr ((μ 24 (v4).toNat) - 23)).toNat v3) 23 (wr ((μ 24 (v4).toNat) - 23)).toNat (wr (x2 - v3))))) else gi (wr ((μ 24 (v4).toNat) - 23)) (lnR 23) (if (μ1 23 (wr ((μ 24 (v4).toNat) - 23)).toNat) = (wr (x2 - v3)) then gi (wr ((μ 24 (v4).toNat) - 23)) (lnR 22) (cI (f_X12_alike [vR 12 0, vI (μ1 22 (wr ((μ 24 (v4).toNat) - 23)).toNat), vI v3, vI (wr (x2 - v3))] μ1) (fun x4 μ3 => if x4 = 0 then gz 0 (some (some (vI 0), μ3)) else e_X12_fits_26 o1 v2 x2 (wr (v4 + 1)) (some (vI (wr ((μ 24 (v4).toNat) - 23)))) (some (vI x2)) μ3)) else gz 0 (some (some (vI 0), μ1))))))) else gz 0 (some (some (vI 0), μ)) else if v3 = v2 then gz 1 (some (some (vI 1), μ)) else gz 0 (some (some (vI 0), μ))) :=
  (Rn_rc kt_X12_fits [2, 26] 114 _ _ _ _).trans rfl
noncomputable def e_X12_puts_12 (v1 : Int) (v2 : Int) (v3 : Int) (v4 : Int) (o5 : Option AV) (o6 : Option AV) (μ : Mem) : Option Rs := Rn kc_X12_puts 12 [some (vR 12 0), some (vI v1), some (vI v2), some (vI v3), some (vI v4), o5, o6] [] μ
noncomputable def e_X12_puts_95 (v1 : Int) (v2 : Int) (o3 : Option AV) (v4 : Int) (o5 : Option AV) (o6 : Option AV) (μ : Mem) : Option Rs := Rn kc_X12_puts 95 [some (vR 12 0), some (vI v1), some (vI v2), o3, some (vI v4), o5, o6] [] μ
noncomputable def e_X12_puts_136 (o1 : Option AV) (v2 : Int) (o3 : Option AV) (v4 : Int) (o5 : Option AV) (o6 : Option AV) (μ : Mem) : Option Rs := Rn kc_X12_puts 136 [some (vR 12 0), o1, some (vI v2), o3, some (vI v4), o5, o6] [] μ
noncomputable def e_X12_puts_160 (o1 : Option AV) (v2 : Int) (o3 : Option AV) (v4 : Int) (v5 : Int) (v6 : Int) (μ : Mem) : Option Rs := Rn kc_X12_puts 160 [some (vR 12 0), o1, some (vI v2), o3, some (vI v4), some (vI v5), some (vI v6)] [] μ
noncomputable def e_X12_puts_178 (o1 : Option AV) (v2 : Int) (o3 : Option AV) (v4 : Int) (v5 : Int) (v6 : Int) (s0 : Int) (s1 : Int) (μ : Mem) : Option Rs := Rn kc_X12_puts 178 [some (vR 12 0), o1, some (vI v2), o3, some (vI v4), some (vI v5), some (vI v6)] [vI s1, vI s0] μ
noncomputable def e_X12_puts_245 (o1 : Option AV) (o2 : Option AV) (o3 : Option AV) (v4 : Int) (o5 : Option AV) (o6 : Option AV) (μ : Mem) : Option Rs := Rn kc_X12_puts 245 [some (vR 12 0), o1, o2, o3, some (vI v4), o5, o6] [] μ
set_option maxRecDepth 100000 in
set_option maxHeartbeats 2000000 in
theorem q_X12_puts (v1 : Int) (v2 : Int) (μ : Mem) : f_X12_puts [vR 12 0, vI v1, vI v2] μ = (e_X12_puts_12 v1 v2 (wr ((μ 0 36) - (wr (v2 - v1)))) 0 none none μ) :=
  show Rn kc_X12_puts 0 [some (vR 12 0), some (vI v1), some (vI v2), none, none, none, none] [] μ = _ from (Rn_rc kt_X12_puts [12, 95, 136, 160, 178, 245] 159 _ _ _ _).trans rfl
set_option maxRecDepth 100000 in
set_option maxHeartbeats 2000000 in
theorem q_X12_puts_12 (v1 : Int) (v2 : Int) (v3 : Int) (v4 : Int) (o5 : Option AV) (o6 : Option AV) (μ : Mem) : e_X12_puts_12 v1 v2 v3 v4 o5 o6 μ = (if v4 < (μ 0 44) then gi v4 (lnR 25) (if (wr ((μ 25 (v4).toNat) - 23)) < 0 then if (wr ((μ 25 (v4).toNat) - 23)) < 0 then e_X12_puts_12 v1 v2 (wr (v3 + 1)) (wr (v4 + 1)) (some (vI (wr ((μ 25 (v4).toNat) - 23)))) o6 μ else gi (wr ((μ 25 (v4).toNat) - 23)) (lnR 23) (e_X12_puts_12 v1 v2 (wr (v3 + (μ 23 (wr ((μ 25 (v4).toNat) - 23)).toNat))) (wr (v4 + 1)) (some (vI (wr ((μ 25 (v4).toNat) - 23)))) o6 μ) else gi (wr ((μ 25 (v4).toNat) - 23)) (lnR 22) (if (μ 22 (wr ((μ 25 (v4).toNat) - 23)).toNat) = (-4) then some (some (vI (-23)), μ) else if (wr ((μ 25 (v4).toNat) - 23)) < 0 then e_X12_puts_12 v1 v2 (wr (v3 + 1)) (wr (v4 + 1)) (some (vI (wr ((μ 25 (v4).toNat) - 23)))) o6 μ else gi (wr ((μ 25 (v4).toNat) - 23)) (lnR 23) (e_X12_puts_12 v1 v2 (wr (v3 + (μ 23 (wr ((μ 25 (v4).toNat) - 23)).toNat))) (wr (v4 + 1)) (some (vI (wr ((μ 25 (v4).toNat) - 23)))) o6 μ))) else if v3 ≤ 20 then e_X12_puts_95 v1 v2 (some (vI v3)) 0 o5 o6 (up μ 0 38 0) else some (some (vI (-24)), μ)) :=
  (Rn_rc kt_X12_puts [12, 95, 136, 160, 178, 245] 159 _ _ _ _).trans rfl
set_option maxRecDepth 100000 in
set_option maxHeartbeats 2000000 in
theorem q_X12_puts_95 (v1 : Int) (v2 : Int) (o3 : Option AV) (v4 : Int) (o5 : Option AV) (o6 : Option AV) (μ : Mem) : e_X12_puts_95 v1 v2 o3 v4 o5 o6 μ = (if v4 < v1 then gi v4 (lnR 20) (gi (μ 0 38) (lnR 21) (e_X12_puts_95 v1 v2 (kl o3) (wr (v4 + 1)) o5 o6 (up (up μ 21 (μ 0 38).toNat (μ 20 (v4).toNat)) 0 38 (wr (((up μ 21 (μ 0 38).toNat (μ 20 (v4).toNat)) 0 38) + 1))))) else e_X12_puts_136 (some (vI v1)) v2 (kl o3) 0 o5 o6 μ) :=
  (Rn_rc kt_X12_puts [12, 95, 136, 160, 178, 245] 159 _ _ _ _).trans rfl
set_option maxRecDepth 100000 in
set_option maxHeartbeats 2000000 in
theorem q_X12_puts_136 (o1 : Option AV) (v2 : Int) (o3 : Option AV) (v4 : Int) (o5 : Option AV) (o6 : Option AV) (μ : Mem) : e_X12_puts_136 o1 v2 o3 v4 o5 o6 μ = (if v4 < (μ 0 44) then gi v4 (lnR 25) (e_X12_puts_160 o1 v2 o3 v4 (wr ((μ 25 (v4).toNat) - 23)) 0 μ) else e_X12_puts_245 o1 (some (vI v2)) (kl o3) v2 o5 o6 μ) :=
  (Rn_rc kt_X12_puts [12, 95, 136, 160, 178, 245] 159 _ _ _ _).trans rfl
set_option maxRecDepth 100000 in
set_option maxHeartbeats 2000000 in
theorem q_X12_puts_160 (o1 : Option AV) (v2 : Int) (o3 : Option AV) (v4 : Int) (v5 : Int) (v6 : Int) (μ : Mem) : e_X12_puts_160 o1 v2 o3 v4 v5 v6 μ = (if v5 < 0 then e_X12_puts_178 o1 v2 o3 v4 v5 v6 v6 1 μ else gi v5 (lnR 23) (e_X12_puts_178 o1 v2 o3 v4 v5 v6 v6 (μ 23 (v5).toNat) μ)) :=
  (Rn_rc kt_X12_puts [12, 95, 136, 160, 178, 245] 159 _ _ _ _).trans rfl
set_option maxRecDepth 100000 in
set_option maxHeartbeats 2000000 in
theorem q_X12_puts_178 (o1 : Option AV) (v2 : Int) (o3 : Option AV) (v4 : Int) (v5 : Int) (v6 : Int) (s0 : Int) (s1 : Int) (μ : Mem) : e_X12_puts_178 o1 v2 o3 v4 v5 v6 s0 s1 μ = (if s0 < s1 then if v5 < 0 then gi v4 (lnR 25) (gi (μ 0 38) (lnR 21) (e_X12_puts_160 o1 v2 o3 v4 v5 (wr (v6 + 1)) (up (up μ 21 (μ 0 38).toNat (μ 25 (v4).toNat)) 0 38 (wr (((up μ 21 (μ 0 38).toNat (μ 25 (v4).toNat)) 0 38) + 1))))) else gi v5 (lnR 22) (gi (wr ((μ 22 (v5).toNat) + v6)) (lnR 20) (gi (μ 0 38) (lnR 21) (e_X12_puts_160 o1 v2 o3 v4 v5 (wr (v6 + 1)) (up (up μ 21 (μ 0 38).toNat (μ 20 (wr ((μ 22 (v5).toNat) + v6)).toNat)) 0 38 (wr (((up μ 21 (μ 0 38).toNat (μ 20 (wr ((μ 22 (v5).toNat) + v6)).toNat)) 0 38) + 1)))))) else e_X12_puts_136 o1 v2 (kl o3) (wr (v4 + 1)) (some (vI v5)) (some (vI v6)) μ) :=
  (Rn_rc kt_X12_puts [12, 95, 136, 160, 178, 245] 159 _ _ _ _).trans rfl
set_option maxRecDepth 100000 in
set_option maxHeartbeats 2000000 in
theorem q_X12_puts_245 (o1 : Option AV) (o2 : Option AV) (o3 : Option AV) (v4 : Int) (o5 : Option AV) (o6 : Option AV) (μ : Mem) : e_X12_puts_245 o1 o2 o3 v4 o5 o6 μ = (if v4 < (μ 0 36) then gi v4 (lnR 20) (gi (μ 0 38) (lnR 21) (e_X12_puts_245 o1 o2 (kl o3) (wr (v4 + 1)) o5 o6 (up (up μ 21 (μ 0 38).toNat (μ 20 (v4).toNat)) 0 38 (wr (((up μ 21 (μ 0 38).toNat (μ 20 (v4).toNat)) 0 38) + 1))))) else some (some (vI 0), μ)) :=
  (Rn_rc kt_X12_puts [12, 95, 136, 160, 178, 245] 159 _ _ _ _).trans rfl
noncomputable def e_X12_steps_69 (v1 : Int) (v2 : Int) (v3 : Int) (v4 : Int) (o5 : Option AV) (μ : Mem) : Option Rs := Rn kc_X12_steps 69 [some (vR 12 0), some (vI v1), some (vI v2), some (vI v3), some (vI v4), o5] [] μ
noncomputable def e_X12_steps_80 (v1 : Int) (v2 : Int) (v3 : Int) (v4 : Int) (o5 : Option AV) (s1 : Int) (s2 : Int) (μ : Mem) : Option Rs := Rn kc_X12_steps 80 [some (vR 12 0), some (vI v1), some (vI v2), some (vI v3), some (vI v4), o5] [vI s2, vI s1, vR 12 0] μ
set_option maxRecDepth 100000 in
set_option maxHeartbeats 2000000 in
theorem q_X12_steps (v1 : Int) (v2 : Int) (v3 : Int) (μ : Mem) : f_X12_steps [vR 12 0, vI v1, vI v2, vI v3] μ = (cI (f_X12_in [vL v3, vL 0, vL (wr ((μ 0 36) - 1))] μ) (fun x2 μ1 => if x2 = 0 then some (some (vI (-20)), μ1) else cI (f_X12_endAt [vR 12 0, vR 20 20, vI v3, vI (μ1 0 36)] μ1) (fun x4 μ3 => if v1 ≤ 1 then cI (f_X12_isSaying [vR 12 0, vI v2] μ3) (fun x22 μ21 => if x22 = 0 then some (some (vI (-21)), μ21) else gi v2 (lnR 7) (if (μ21 7 (v2).toNat) = 0 then e_X12_steps_69 v1 v2 v3 x4 none μ21 else gi v2 (lnR 7) (if (μ21 7 (v2).toNat) = 2 then e_X12_steps_69 v1 v2 v3 x4 none μ21 else some (some (vI (-21)), μ21)))) else if v1 = 2 then gi v3 (lnR 20) (cI (f_X12_wordBy [vR 12 0, vI (μ3 20 (v3).toNat)] μ3) (fun x14 μ13 => if x14 = (-4) then some (some (vI (-21)), μ13) else cV (f_X12_copiesWord [vR 12 0, vI x14, vI 1] μ13) (fun μ15 => cV (f_X12_copiesMeaning [vR 12 0, vI x14, vI 0] μ15) (fun μ16 => cI (f_X12_fits [vR 12 0, vI v3, vI x4] μ16) (fun x18 μ17 => if x18 = 0 then some (some (vI (-22)), μ17) else cI (f_X12_puts [vR 12 0, vI v3, vI x4] μ17) (fun x20 μ19 => some (some (vI x20), μ19))))))) else cI (f_X12_isWord [vR 12 0, vI v2] μ3) (fun x6 μ5 => if x6 = 0 then some (some (vI (-21)), μ5) else cV (f_X12_copiesMeaning [vR 12 0, vI v2, vI 1] μ5) (fun μ7 => cV (f_X12_copiesWord [vR 12 0, vI v2, vI 0] μ7) (fun μ8 => cI (f_X12_fits [vR 12 0, vI v3, vI x4] μ8) (fun x10 μ9 => if x10 = 0 then some (some (vI (-22)), μ9) else cI (f_X12_puts [vR 12 0, vI v3, vI x4] μ9) (fun x12 μ11 => some (some (vI x12), μ11))))))))) :=
  show Rn kc_X12_steps 0 [some (vR 12 0), some (vI v1), some (vI v2), some (vI v3), none, none] [] μ = _ from (Rn_rc kt_X12_steps [69, 80] 114 _ _ _ _).trans rfl
set_option maxRecDepth 100000 in
set_option maxHeartbeats 2000000 in
theorem q_X12_steps_69 (v1 : Int) (v2 : Int) (v3 : Int) (v4 : Int) (o5 : Option AV) (μ : Mem) : e_X12_steps_69 v1 v2 v3 v4 o5 μ = (if v1 = 0 then e_X12_steps_80 v1 v2 v3 v4 o5 v2 0 μ else e_X12_steps_80 v1 v2 v3 v4 o5 v2 1 μ) :=
  (Rn_rc kt_X12_steps [69, 80] 114 _ _ _ _).trans rfl
set_option maxRecDepth 100000 in
set_option maxHeartbeats 2000000 in
theorem q_X12_steps_80 (v1 : Int) (v2 : Int) (v3 : Int) (v4 : Int) (o5 : Option AV) (s1 : Int) (s2 : Int) (μ : Mem) : e_X12_steps_80 v1 v2 v3 v4 o5 s1 s2 μ = (cV (f_X12_copiesSide [vR 12 0, vI s1, vI s2, vI 1] μ) (fun μ1 => if v1 = 0 then cV (f_X12_copiesSide [vR 12 0, vI v2, vI 1, vI 0] μ1) (fun μ7 => cI (f_X12_fits [vR 12 0, vI v3, vI v4] μ7) (fun x9 μ8 => if x9 = 0 then some (some (vI (-22)), μ8) else cI (f_X12_puts [vR 12 0, vI v3, vI v4] μ8) (fun x11 μ10 => some (some (vI x11), μ10)))) else cV (f_X12_copiesSide [vR 12 0, vI v2, vI 0, vI 0] μ1) (fun μ2 => cI (f_X12_fits [vR 12 0, vI v3, vI v4] μ2) (fun x4 μ3 => if x4 = 0 then some (some (vI (-22)), μ3) else cI (f_X12_puts [vR 12 0, vI v3, vI v4] μ3) (fun x6 μ5 => some (some (vI x6), μ5)))))) :=
  (Rn_rc kt_X12_steps [69, 80] 114 _ _ _ _).trans rfl
noncomputable def e_X12_putsWord_10 (v1 : Int) (v2 : Int) (v3 : Int) (v4 : Int) (o5 : Option AV) (μ : Mem) : Option Rs := Rn kc_X12_putsWord 10 [some (vR 12 0), some (vI v1), some (vI v2), some (vI v3), some (vI v4), o5] [] μ
noncomputable def e_X12_putsWord_58 (v1 : Int) (v2 : Int) (o3 : Option AV) (v4 : Int) (v5 : Int) (μ : Mem) : Option Rs := Rn kc_X12_putsWord 58 [some (vR 12 0), some (vI v1), some (vI v2), o3, some (vI v4), some (vI v5)] [] μ
noncomputable def e_X12_putsWord_90 (v1 : Int) (v2 : Int) (o3 : Option AV) (v4 : Int) (v5 : Int) (μ : Mem) : Option Rs := Rn kc_X12_putsWord 90 [some (vR 12 0), some (vI v1), some (vI v2), o3, some (vI v4), some (vI v5)] [] μ
noncomputable def e_X12_putsWord_94 (v1 : Int) (v2 : Int) (o3 : Option AV) (v4 : Int) (v5 : Int) (μ : Mem) : Option Rs := Rn kc_X12_putsWord 94 [some (vR 12 0), some (vI v1), some (vI v2), o3, some (vI v4), some (vI v5)] [] μ
set_option maxRecDepth 100000 in
set_option maxHeartbeats 2000000 in
theorem q_X12_putsWord (v1 : Int) (v2 : Int) (μ : Mem) : f_X12_putsWord [vR 12 0, vI v1, vI v2] μ = (cV (f_X12_begins [vR 12 0, vI v1] μ) (fun μ1 => e_X12_putsWord_10 v1 v2 0 0 none μ1)) :=
  show Rn kc_X12_putsWord 0 [some (vR 12 0), some (vI v1), some (vI v2), none, none, none] [] μ = _ from (Rn_rc kt_X12_putsWord [10, 58, 90, 94] 82 _ _ _ _).trans rfl
set_option maxRecDepth 100000 in
set_option maxHeartbeats 2000000 in
theorem q_X12_putsWord_10 (v1 : Int) (v2 : Int) (v3 : Int) (v4 : Int) (o5 : Option AV) (μ : Mem) : e_X12_putsWord_10 v1 v2 v3 v4 o5 μ = (gi v1 (lnR 11) (if v4 < (μ 11 (v1).toNat) then gi v1 (lnR 10) (if v3 = 0 then gi (wr ((μ 10 (v1).toNat) + v4)) (lnR 14) (if (μ 14 (wr ((μ 10 (v1).toNat) + v4)).toNat) = 3 then gi (wr ((μ 10 (v1).toNat) + v4)) (lnR 15) (if (μ 15 (wr ((μ 10 (v1).toNat) + v4)).toNat) = v2 then e_X12_putsWord_90 v1 v2 (some (vI v3)) v4 (wr ((μ 10 (v1).toNat) + v4)) μ else e_X12_putsWord_58 v1 v2 (some (vI v3)) v4 (wr ((μ 10 (v1).toNat) + v4)) μ) else e_X12_putsWord_58 v1 v2 (some (vI v3)) v4 (wr ((μ 10 (v1).toNat) + v4)) μ) else e_X12_putsWord_90 v1 v2 (some (vI v3)) v4 (wr ((μ 10 (v1).toNat) + v4)) μ) else gz v3 (some (some (vI v3), μ)))) :=
  (Rn_rc kt_X12_putsWord [10, 58, 90, 94] 82 _ _ _ _).trans rfl
set_option maxRecDepth 100000 in
set_option maxHeartbeats 2000000 in
theorem q_X12_putsWord_58 (v1 : Int) (v2 : Int) (o3 : Option AV) (v4 : Int) (v5 : Int) (μ : Mem) : e_X12_putsWord_58 v1 v2 o3 v4 v5 μ = (gi v5 (lnR 14) (if (μ 14 (v5).toNat) = 2 then gi v5 (lnR 16) (gi (μ 16 (v5).toNat) (lnR 20) (gi v2 (lnR 1) (if (μ 20 (μ 16 (v5).toNat).toNat) = (μ 1 (v2).toNat) then e_X12_putsWord_90 v1 v2 o3 v4 v5 μ else e_X12_putsWord_94 v1 v2 o3 v4 v5 μ))) else e_X12_putsWord_94 v1 v2 o3 v4 v5 μ)) :=
  (Rn_rc kt_X12_putsWord [10, 58, 90, 94] 82 _ _ _ _).trans rfl
set_option maxRecDepth 100000 in
set_option maxHeartbeats 2000000 in
theorem q_X12_putsWord_90 (v1 : Int) (v2 : Int) (o3 : Option AV) (v4 : Int) (v5 : Int) (μ : Mem) : e_X12_putsWord_90 v1 v2 o3 v4 v5 μ = (gi v5 (lnR 14) (gi v5 (lnR 15) (gi v5 (lnR 16) (cI (f_X12_steps [vR 12 0, vI (μ 14 (v5).toNat), vI (μ 15 (v5).toNat), vI (μ 16 (v5).toNat)] μ) (fun x2 μ1 => cV (f_X12_goes [vR 12 0] μ1) (fun μ3 => e_X12_putsWord_10 v1 v2 1 (wr (v4 + 1)) (some (vI v5)) μ3)))))) :=
  (Rn_rc kt_X12_putsWord [10, 58, 90, 94] 82 _ _ _ _).trans rfl
set_option maxRecDepth 100000 in
set_option maxHeartbeats 2000000 in
theorem q_X12_putsWord_94 (v1 : Int) (v2 : Int) (o3 : Option AV) (v4 : Int) (v5 : Int) (μ : Mem) : e_X12_putsWord_94 v1 v2 o3 v4 v5 μ = (gi v5 (lnR 14) (gi v5 (lnR 15) (gi v5 (lnR 16) (cI (f_X12_steps [vR 12 0, vI (μ 14 (v5).toNat), vI (μ 15 (v5).toNat), vI (μ 16 (v5).toNat)] μ) (fun x2 μ1 => cV (f_X12_goes [vR 12 0] μ1) (fun μ3 => e_X12_putsWord_10 v1 v2 0 (wr (v4 + 1)) (some (vI v5)) μ3)))))) :=
  (Rn_rc kt_X12_putsWord [10, 58, 90, 94] 82 _ _ _ _).trans rfl
noncomputable def e_X12_word_51 (v1 : Int) (v2 : Int) (v3 : Int) (v4 : Int) (μ : Mem) : Option Rs := Rn kc_X12_word 51 [some (vR 12 0), some (vI v1), some (vI v2), some (vI v3), some (vI v4)] [] μ
noncomputable def e_X12_word_100 (v1 : Int) (v2 : Int) (v3 : Int) (o4 : Option AV) (μ : Mem) : Option Rs := Rn kc_X12_word 100 [some (vR 12 0), some (vI v1), some (vI v2), some (vI v3), o4] [] μ
set_option maxRecDepth 100000 in
set_option maxHeartbeats 2000000 in
theorem q_X12_word (v1 : Int) (v2 : Int) (μ : Mem) : f_X12_word [vR 12 0, vI v1, vI v2] μ = (cI (f_X12_isWord [vR 12 0, vI v1] μ) (fun x2 μ1 => if x2 = 0 then some (some (vI (-1)), μ1) else gi v1 (lnR 3) (cI (f_X12_in [vL v2, vL 10, vL (wr (9 + (μ1 3 (v1).toNat)))] μ1) (fun x4 μ3 => if x4 = 0 then e_X12_word_51 v1 v2 0 0 μ3 else gi (wr ((wr ((wr (20 * v1)) + v2)) - 10)) (lnR 4) (some (some (vI (μ3 4 (wr ((wr ((wr (20 * v1)) + v2)) - 10)).toNat)), μ3)))))) :=
  show Rn kc_X12_word 0 [some (vR 12 0), some (vI v1), some (vI v2), none, none] [] μ = _ from (Rn_rc kt_X12_word [51, 100] 94 _ _ _ _).trans rfl
set_option maxRecDepth 100000 in
set_option maxHeartbeats 2000000 in
theorem q_X12_word_51 (v1 : Int) (v2 : Int) (v3 : Int) (v4 : Int) (μ : Mem) : e_X12_word_51 v1 v2 v3 v4 μ = (if v4 < (μ 0 5) then if v2 = 3 then gi v4 (lnR 7) (if (μ 7 (v4).toNat) = 2 then cI (f_X12_putsWord [vR 12 0, vI v4, vI v1] μ) (fun x2 μ1 => if x2 = 0 then e_X12_word_51 v1 v2 (wr (v3 + 0)) (wr (v4 + 1)) μ1 else e_X12_word_51 v1 v2 (wr (v3 + 1)) (wr (v4 + 1)) μ1) else e_X12_word_51 v1 v2 (wr (v3 + 0)) (wr (v4 + 1)) μ) else e_X12_word_100 v1 v2 v3 (some (vI v4)) μ else e_X12_word_100 v1 v2 v3 (some (vI v4)) μ) :=
  (Rn_rc kt_X12_word [51, 100] 94 _ _ _ _).trans rfl
set_option maxRecDepth 100000 in
set_option maxHeartbeats 2000000 in
theorem q_X12_word_100 (v1 : Int) (v2 : Int) (v3 : Int) (o4 : Option AV) (μ : Mem) : e_X12_word_100 v1 v2 v3 o4 μ = (if v2 = 0 then gi v1 (lnR 1) (some (some (vI (μ 1 (v1).toNat)), μ)) else if v2 = 1 then gi v1 (lnR 2) (some (some (vI (μ 2 (v1).toNat)), μ)) else if v2 = 2 then gi v1 (lnR 3) (some (some (vI (μ 3 (v1).toNat)), μ)) else if v2 = 3 then some (some (vI v3), μ) else some (some (vI (-1)), μ)) :=
  (Rn_rc kt_X12_word [51, 100] 94 _ _ _ _).trans rfl
noncomputable def e_X12_as_24 (v1 : Int) (o2 : Option AV) (v3 : Int) (μ : Mem) : Option Rs := Rn kc_X12_as 24 [some (vR 12 0), some (vI v1), o2, some (vI v3)] [] μ
set_option maxRecDepth 100000 in
set_option maxHeartbeats 2000000 in
theorem q_X12_as (v1 : Int) (v2 : Int) (μ : Mem) : f_X12_as [vR 12 0, vI v1, vI v2] μ = (cI (f_X12_isSaying [vR 12 0, vI v1] μ) (fun x2 μ1 => if x2 = 0 then some (some (vI (-1)), μ1) else cI (f_X12_in [vL v2, vL 0, vL 999] μ1) (fun x4 μ3 => if x4 = 0 then some (some (vI (-1)), μ3) else e_X12_as_24 v1 (some (vI v2)) v2 μ3))) :=
  show Rn kc_X12_as 0 [some (vR 12 0), some (vI v1), some (vI v2), none] [] μ = _ from (Rn_rc kt_X12_as [24] 47 _ _ _ _).trans rfl
set_option maxRecDepth 100000 in
set_option maxHeartbeats 2000000 in
theorem q_X12_as_24 (v1 : Int) (o2 : Option AV) (v3 : Int) (μ : Mem) : e_X12_as_24 v1 o2 v3 μ = (if v3 < 0 then if v3 < 0 then some (some (vI (-4)), μ) else gi (wr ((wr (1000 * v1)) + v3)) (lnR 17) (some (some (vI (wr ((μ 17 (wr ((wr (1000 * v1)) + v3)).toNat) - 1))), μ)) else gi (wr ((wr (1000 * v1)) + v3)) (lnR 17) (if (μ 17 (wr ((wr (1000 * v1)) + v3)).toNat) = 0 then e_X12_as_24 v1 (kl o2) (wr (v3 + (-1))) μ else if v3 < 0 then some (some (vI (-4)), μ) else gi (wr ((wr (1000 * v1)) + v3)) (lnR 17) (some (some (vI (wr ((μ 17 (wr ((wr (1000 * v1)) + v3)).toNat) - 1))), μ)))) :=
  (Rn_rc kt_X12_as [24] 47 _ _ _ _).trans rfl
noncomputable def e_X12_isAtRight_25 (v1 : Int) (v2 : Int) (v3 : Int) (μ : Mem) : Option Rs := Rn kc_X12_isAtRight 25 [some (vR 12 0), some (vI v1), some (vI v2), some (vI v3)] [] μ
set_option maxRecDepth 100000 in
set_option maxHeartbeats 2000000 in
theorem q_X12_isAtRight (v1 : Int) (μ : Mem) : f_X12_isAtRight [vR 12 0, vI v1] μ = (gi (wr ((wr (2 * v1)) + 1)) (lnR 6) (if (μ 0 36) = (μ 6 (wr ((wr (2 * v1)) + 1)).toNat) then e_X12_isAtRight_25 v1 1 0 μ else e_X12_isAtRight_25 v1 0 0 μ)) :=
  show Rn kc_X12_isAtRight 0 [some (vR 12 0), some (vI v1), none, none] [] μ = _ from (Rn_rc kt_X12_isAtRight [25] 51 _ _ _ _).trans rfl
set_option maxRecDepth 100000 in
set_option maxHeartbeats 2000000 in
theorem q_X12_isAtRight_25 (v1 : Int) (v2 : Int) (v3 : Int) (μ : Mem) : e_X12_isAtRight_25 v1 v2 v3 μ = (if v3 < (μ 0 36) then if v2 = 0 then gz v2 (some (some (vI v2), μ)) else gi v3 (lnR 20) (gi (wr ((wr ((wr (40 * v1)) + 20)) + v3)) (lnR 5) (if (μ 20 (v3).toNat) = (μ 5 (wr ((wr ((wr (40 * v1)) + 20)) + v3)).toNat) then e_X12_isAtRight_25 v1 1 (wr (v3 + 1)) μ else e_X12_isAtRight_25 v1 0 (wr (v3 + 1)) μ)) else gz v2 (some (some (vI v2), μ))) :=
  (Rn_rc kt_X12_isAtRight [25] 51 _ _ _ _).trans rfl
noncomputable def e_X12_goesThrough_7 (v1 : Int) (v2 : Int) (μ : Mem) : Option Rs := Rn kc_X12_goesThrough 7 [some (vR 12 0), some (vI v1), some (vI v2)] [] μ
set_option maxRecDepth 100000 in
set_option maxHeartbeats 2000000 in
theorem q_X12_goesThrough (v1 : Int) (μ : Mem) : f_X12_goesThrough [vR 12 0, vI v1] μ = (cV (f_X12_begins [vR 12 0, vI v1] μ) (fun μ1 => e_X12_goesThrough_7 v1 0 μ1)) :=
  show Rn kc_X12_goesThrough 0 [some (vR 12 0), some (vI v1), none] [] μ = _ from (Rn_rc kt_X12_goesThrough [7] 52 _ _ _ _).trans rfl
set_option maxRecDepth 100000 in
set_option maxHeartbeats 2000000 in
theorem q_X12_goesThrough_7 (v1 : Int) (v2 : Int) (μ : Mem) : e_X12_goesThrough_7 v1 v2 μ = (gi v1 (lnR 11) (if v2 < (μ 11 (v1).toNat) then gi v1 (lnR 10) (gi (wr ((μ 10 (v1).toNat) + v2)) (lnR 14) (gi v1 (lnR 10) (gi (wr ((μ 10 (v1).toNat) + v2)) (lnR 15) (gi v1 (lnR 10) (gi (wr ((μ 10 (v1).toNat) + v2)) (lnR 16) (cI (f_X12_steps [vR 12 0, vI (μ 14 (wr ((μ 10 (v1).toNat) + v2)).toNat), vI (μ 15 (wr ((μ 10 (v1).toNat) + v2)).toNat), vI (μ 16 (wr ((μ 10 (v1).toNat) + v2)).toNat)] μ) (fun x2 μ1 => if x2 = 0 then cV (f_X12_goes [vR 12 0] μ1) (fun μ3 => e_X12_goesThrough_7 v1 (wr (v2 + 1)) μ3) else some (some (vI v2), μ1)))))))) else some (some (vI v2), μ))) :=
  (Rn_rc kt_X12_goesThrough [7] 52 _ _ _ _).trans rfl
noncomputable def e_X12_leans_44 (o1 : Option AV) (v2 : Int) (v3 : Int) (v4 : Int) (μ : Mem) : Option Rs := Rn kc_X12_leans 44 [some (vR 12 0), o1, some (vI v2), some (vI v3), some (vI v4)] [] μ
set_option maxRecDepth 100000 in
set_option maxHeartbeats 2000000 in
theorem q_X12_leans (v1 : Int) (v2 : Int) (μ : Mem) : f_X12_leans [vR 12 0, vI v1, vI v2] μ = (cI (f_X12_isSaying [vR 12 0, vI v1] μ) (fun x2 μ1 => if x2 = 0 then some (some (vI (-1)), μ1) else cI (f_X12_in [vL v2, vL 0, vL 2] μ1) (fun x4 μ3 => if x4 = 0 then some (some (vI (-1)), μ3) else if v2 = 2 then cI (f_X12_leaning [vR 12 0, vI v1] μ3) (fun x8 μ7 => e_X12_leans_44 (some (vI v1)) v2 x8 0 μ7) else cI (f_X12_leansOf [vR 12 0, vI v1] μ3) (fun x6 μ5 => e_X12_leans_44 (some (vI v1)) v2 x6 0 μ5)))) :=
  show Rn kc_X12_leans 0 [some (vR 12 0), some (vI v1), some (vI v2), none, none] [] μ = _ from (Rn_rc kt_X12_leans [44] 56 _ _ _ _).trans rfl
set_option maxRecDepth 100000 in
set_option maxHeartbeats 2000000 in
theorem q_X12_leans_44 (o1 : Option AV) (v2 : Int) (v3 : Int) (v4 : Int) (μ : Mem) : e_X12_leans_44 o1 v2 v3 v4 μ = (if v4 < (μ 0 5) then if v2 = 1 then gi v4 (lnR 7) (if (μ 7 (v4).toNat) = 0 then e_X12_leans_44 o1 v2 (bAnd v3 v3) (wr (v4 + 1)) μ else e_X12_leans_44 o1 v2 (bAnd v3 (bXor (bShl 1 v4) (-1))) (wr (v4 + 1)) μ) else some (some (vI v3), μ) else some (some (vI v3), μ)) :=
  (Rn_rc kt_X12_leans [44] 56 _ _ _ _).trans rfl
set_option maxRecDepth 100000 in
set_option maxHeartbeats 2000000 in
theorem q_X12_isOpen (v1 : Int) (μ : Mem) : f_X12_isOpen [vR 12 0, vI v1] μ = (gi v1 (lnR 7) (if (μ 7 (v1).toNat) = 1 then gz 1 (some (some (vI 1), μ)) else gi v1 (lnR 7) (if (μ 7 (v1).toNat) = 3 then gz 1 (some (some (vI 1), μ)) else gz 0 (some (some (vI 0), μ))))) :=
  show Rn kc_X12_isOpen 0 [some (vR 12 0), some (vI v1)] [] μ = _ from (Rn_rc kt_X12_isOpen [] 21 _ _ _ _).trans rfl
noncomputable def e_X12_findTerm_10 (v1 : Int) (μ : Mem) : Option Rs := Rn kc_X12_findTerm 10 [some (vR 12 0), some (vI v1)] [] μ
set_option maxRecDepth 100000 in
set_option maxHeartbeats 2000000 in
theorem q_X12_findTerm  (μ : Mem) : f_X12_findTerm [vR 12 0] μ = (cV (f_X12_begins [vR 12 0, vI (μ 0 45)] μ) (fun μ1 => e_X12_findTerm_10 0 μ1)) :=
  show Rn kc_X12_findTerm 0 [some (vR 12 0), none] [] μ = _ from (Rn_rc kt_X12_findTerm [10] 35 _ _ _ _).trans rfl
set_option maxRecDepth 100000 in
set_option maxHeartbeats 2000000 in
theorem q_X12_findTerm_10 (v1 : Int) (μ : Mem) : e_X12_findTerm_10 v1 μ = (if v1 < (μ 0 46) then gi v1 (lnR 26) (gi v1 (lnR 27) (gi v1 (lnR 28) (cI (f_X12_steps [vR 12 0, vI (μ 26 (v1).toNat), vI (μ 27 (v1).toNat), vI (μ 28 (v1).toNat)] μ) (fun x2 μ1 => cV (f_X12_goes [vR 12 0] μ1) (fun μ3 => e_X12_findTerm_10 (wr (v1 + 1)) μ3))))) else some (none, μ)) :=
  (Rn_rc kt_X12_findTerm [10] 35 _ _ _ _).trans rfl
set_option maxRecDepth 100000 in
set_option maxHeartbeats 2000000 in
theorem q_X12_prove (v1 : Int) (μ : Mem) : f_X12_prove [vR 12 0, vI v1] μ = (cI (f_X12_isSaying [vR 12 0, vI v1] μ) (fun x2 μ1 => if x2 = 0 then some (some (vI (-1)), μ1) else cI (f_X12_isOpen [vR 12 0, vI v1] μ1) (fun x4 μ3 => if x4 = 0 then some (some (vI (-2)), μ3) else gi (wr (2 * v1)) (lnR 6) (some (some (vI ((up (up μ3 0 45 v1) 0 46 0) 6 (wr (2 * v1)).toNat)), up (up μ3 0 45 v1) 0 46 0))))) :=
  show Rn kc_X12_prove 0 [some (vR 12 0), some (vI v1)] [] μ = _ from (Rn_rc kt_X12_prove [] 30 _ _ _ _).trans rfl
set_option maxRecDepth 100000 in
set_option maxHeartbeats 2000000 in
theorem q_X12_step (v1 : Int) (v2 : Int) (v3 : Int) (μ : Mem) : f_X12_step [vR 12 0, vI v1, vI v2, vI v3] μ = (cI (f_X12_in [vL v1, vL 0, vL 3] μ) (fun x2 μ1 => if x2 = 0 then some (some (vI (-1)), μ1) else if (μ1 0 45) = (-4) then some (some (vI (-2)), μ1) else if (μ1 0 46) = 20 then some (some (vI (-3)), μ1) else cV (f_X12_findTerm [vR 12 0] μ1) (fun μ3 => cI (f_X12_steps [vR 12 0, vI v1, vI v2, vI v3] μ3) (fun x5 μ4 => if x5 < 0 then some (some (vI x5), μ4) else gi (μ4 0 46) (lnR 26) (if v1 = 2 then gi ((up μ4 26 (μ4 0 46).toNat v1) 0 46) (lnR 27) (gi ((up (up μ4 26 (μ4 0 46).toNat v1) 27 ((up μ4 26 (μ4 0 46).toNat v1) 0 46).toNat (-4)) 0 46) (lnR 28) (some (some (vI ((up (up (up (up μ4 26 (μ4 0 46).toNat v1) 27 ((up μ4 26 (μ4 0 46).toNat v1) 0 46).toNat (-4)) 28 ((up (up μ4 26 (μ4 0 46).toNat v1) 27 ((up μ4 26 (μ4 0 46).toNat v1) 0 46).toNat (-4)) 0 46).toNat v3) 0 46 (wr (((up (up (up μ4 26 (μ4 0 46).toNat v1) 27 ((up μ4 26 (μ4 0 46).toNat v1) 0 46).toNat (-4)) 28 ((up (up μ4 26 (μ4 0 46).toNat v1) 27 ((up μ4 26 (μ4 0 46).toNat v1) 0 46).toNat (-4)) 0 46).toNat v3) 0 46) + 1))) 0 38)), up (up (up (up μ4 26 (μ4 0 46).toNat v1) 27 ((up μ4 26 (μ4 0 46).toNat v1) 0 46).toNat (-4)) 28 ((up (up μ4 26 (μ4 0 46).toNat v1) 27 ((up μ4 26 (μ4 0 46).toNat v1) 0 46).toNat (-4)) 0 46).toNat v3) 0 46 (wr (((up (up (up μ4 26 (μ4 0 46).toNat v1) 27 ((up μ4 26 (μ4 0 46).toNat v1) 0 46).toNat (-4)) 28 ((up (up μ4 26 (μ4 0 46).toNat v1) 27 ((up μ4 26 (μ4 0 46).toNat v1) 0 46).toNat (-4)) 0 46).toNat v3) 0 46) + 1))))) else gi ((up μ4 26 (μ4 0 46).toNat v1) 0 46) (lnR 27) (gi ((up (up μ4 26 (μ4 0 46).toNat v1) 27 ((up μ4 26 (μ4 0 46).toNat v1) 0 46).toNat v2) 0 46) (lnR 28) (some (some (vI ((up (up (up (up μ4 26 (μ4 0 46).toNat v1) 27 ((up μ4 26 (μ4 0 46).toNat v1) 0 46).toNat v2) 28 ((up (up μ4 26 (μ4 0 46).toNat v1) 27 ((up μ4 26 (μ4 0 46).toNat v1) 0 46).toNat v2) 0 46).toNat v3) 0 46 (wr (((up (up (up μ4 26 (μ4 0 46).toNat v1) 27 ((up μ4 26 (μ4 0 46).toNat v1) 0 46).toNat v2) 28 ((up (up μ4 26 (μ4 0 46).toNat v1) 27 ((up μ4 26 (μ4 0 46).toNat v1) 0 46).toNat v2) 0 46).toNat v3) 0 46) + 1))) 0 38)), up (up (up (up μ4 26 (μ4 0 46).toNat v1) 27 ((up μ4 26 (μ4 0 46).toNat v1) 0 46).toNat v2) 28 ((up (up μ4 26 (μ4 0 46).toNat v1) 27 ((up μ4 26 (μ4 0 46).toNat v1) 0 46).toNat v2) 0 46).toNat v3) 0 46 (wr (((up (up (up μ4 26 (μ4 0 46).toNat v1) 27 ((up μ4 26 (μ4 0 46).toNat v1) 0 46).toNat v2) 28 ((up (up μ4 26 (μ4 0 46).toNat v1) 27 ((up μ4 26 (μ4 0 46).toNat v1) 0 46).toNat v2) 0 46).toNat v3) 0 46) + 1)))))))))) :=
  show Rn kc_X12_step 0 [some (vR 12 0), some (vI v1), some (vI v2), some (vI v3), none] [] μ = _ from (Rn_rc kt_X12_step [] 69 _ _ _ _).trans rfl
set_option maxRecDepth 100000 in
set_option maxHeartbeats 2000000 in
theorem q_X12_undo  (μ : Mem) : f_X12_undo [vR 12 0] μ = (if (μ 0 45) = (-4) then some (some (vI (-4)), μ) else if (μ 0 46) = 0 then some (some (vI (-4)), μ) else some (some (vI ((up μ 0 46 (wr ((μ 0 46) - 1))) 0 46)), up μ 0 46 (wr ((μ 0 46) - 1)))) :=
  show Rn kc_X12_undo 0 [some (vR 12 0)] [] μ = _ from (Rn_rc kt_X12_undo [] 23 _ _ _ _).trans rfl
set_option maxRecDepth 100000 in
set_option maxHeartbeats 2000000 in
theorem q_X12_proof (v1 : Int) (μ : Mem) : f_X12_proof [vR 12 0, vI v1] μ = (if (μ 0 45) = (-4) then cI (f_X12_in [vL v1, vL 0, vL 3] μ) (fun x7 μ6 => if x7 = 0 then some (some (vI (-1)), μ6) else some (some (vI (-2)), μ6)) else cV (f_X12_findTerm [vR 12 0] μ) (fun μ1 => cI (f_X12_in [vL v1, vL 10, vL (wr (9 + (μ1 0 36)))] μ1) (fun x3 μ2 => if x3 = 0 then if v1 = 0 then some (some (vI (μ2 0 45)), μ2) else if v1 = 1 then some (some (vI (μ2 0 46)), μ2) else if v1 = 2 then some (some (vI (μ2 0 36)), μ2) else if v1 = 3 then cI (f_X12_isAtRight [vR 12 0, vI (μ2 0 45)] μ2) (fun x5 μ4 => if x5 = 0 then some (some (vI 0), μ4) else some (some (vI 1), μ4)) else some (some (vI (-1)), μ2) else gi (wr (v1 - 10)) (lnR 20) (some (some (vI (μ2 20 (wr (v1 - 10)).toNat)), μ2))))) :=
  show Rn kc_X12_proof 0 [some (vR 12 0), some (vI v1)] [] μ = _ from (Rn_rc kt_X12_proof [] 69 _ _ _ _).trans rfl
set_option maxRecDepth 100000 in
set_option maxHeartbeats 2000000 in
theorem q_X12_becomes (v1 : Int) (v2 : Int) (μ : Mem) : f_X12_becomes [vR 12 0, vI v1, vI v2] μ = (gi v1 (lnR 7) (gi (wr ((wr (1000 * v1)) + ((up μ 7 (v1).toNat v2) 0 22))) (lnR 17) (some (none, up (up μ 7 (v1).toNat v2) 17 (wr ((wr (1000 * v1)) + ((up μ 7 (v1).toNat v2) 0 22))).toNat (wr (v2 + 1)))))) :=
  show Rn kc_X12_becomes 0 [some (vR 12 0), some (vI v1), some (vI v2)] [] μ = _ from (Rn_rc kt_X12_becomes [] 23 _ _ _ _).trans rfl
noncomputable def e_X12_shows_22 (v1 : Int) (v2 : Int) (μ : Mem) : Option Rs := Rn kc_X12_shows 22 [some (vR 12 0), some (vI v1), some (vI v2)] [] μ
set_option maxRecDepth 100000 in
set_option maxHeartbeats 2000000 in
theorem q_X12_shows (v1 : Int) (μ : Mem) : f_X12_shows [vR 12 0, vI v1] μ = (gi v1 (lnR 10) (gi v1 (lnR 11) (e_X12_shows_22 v1 0 (up (up μ 10 (v1).toNat (μ 0 16)) 11 (v1).toNat ((up μ 10 (v1).toNat (μ 0 16)) 0 46))))) :=
  show Rn kc_X12_shows 0 [some (vR 12 0), some (vI v1), none] [] μ = _ from (Rn_rc kt_X12_shows [22] 80 _ _ _ _).trans rfl
set_option maxRecDepth 100000 in
set_option maxHeartbeats 2000000 in
theorem q_X12_shows_22 (v1 : Int) (v2 : Int) (μ : Mem) : e_X12_shows_22 v1 v2 μ = (if v2 < (μ 0 46) then gi v2 (lnR 26) (gi (μ 0 16) (lnR 14) (gi v2 (lnR 27) (gi ((up μ 14 (μ 0 16).toNat (μ 26 (v2).toNat)) 0 16) (lnR 15) (gi v2 (lnR 28) (gi ((up (up μ 14 (μ 0 16).toNat (μ 26 (v2).toNat)) 15 ((up μ 14 (μ 0 16).toNat (μ 26 (v2).toNat)) 0 16).toNat ((up μ 14 (μ 0 16).toNat (μ 26 (v2).toNat)) 27 (v2).toNat)) 0 16) (lnR 16) (e_X12_shows_22 v1 (wr (v2 + 1)) (up (up (up (up μ 14 (μ 0 16).toNat (μ 26 (v2).toNat)) 15 ((up μ 14 (μ 0 16).toNat (μ 26 (v2).toNat)) 0 16).toNat ((up μ 14 (μ 0 16).toNat (μ 26 (v2).toNat)) 27 (v2).toNat)) 16 ((up (up μ 14 (μ 0 16).toNat (μ 26 (v2).toNat)) 15 ((up μ 14 (μ 0 16).toNat (μ 26 (v2).toNat)) 0 16).toNat ((up μ 14 (μ 0 16).toNat (μ 26 (v2).toNat)) 27 (v2).toNat)) 0 16).toNat ((up (up μ 14 (μ 0 16).toNat (μ 26 (v2).toNat)) 15 ((up μ 14 (μ 0 16).toNat (μ 26 (v2).toNat)) 0 16).toNat ((up μ 14 (μ 0 16).toNat (μ 26 (v2).toNat)) 27 (v2).toNat)) 28 (v2).toNat)) 0 16 (wr (((up (up (up μ 14 (μ 0 16).toNat (μ 26 (v2).toNat)) 15 ((up μ 14 (μ 0 16).toNat (μ 26 (v2).toNat)) 0 16).toNat ((up μ 14 (μ 0 16).toNat (μ 26 (v2).toNat)) 27 (v2).toNat)) 16 ((up (up μ 14 (μ 0 16).toNat (μ 26 (v2).toNat)) 15 ((up μ 14 (μ 0 16).toNat (μ 26 (v2).toNat)) 0 16).toNat ((up μ 14 (μ 0 16).toNat (μ 26 (v2).toNat)) 27 (v2).toNat)) 0 16).toNat ((up (up μ 14 (μ 0 16).toNat (μ 26 (v2).toNat)) 15 ((up μ 14 (μ 0 16).toNat (μ 26 (v2).toNat)) 0 16).toNat ((up μ 14 (μ 0 16).toNat (μ 26 (v2).toNat)) 27 (v2).toNat)) 28 (v2).toNat)) 0 16) + 1))))))))) else gi v1 (lnR 13) (gi v1 (lnR 12) (cV (f_X12_becomes [vR 12 0, vI v1, vI 2] (up (up (up μ 13 (v1).toNat (μ 0 15)) 0 15 (wr (((up μ 13 (v1).toNat (μ 0 15)) 0 15) + 1))) 12 (v1).toNat (-4))) (fun μ1 => some (none, μ1))))) :=
  (Rn_rc kt_X12_shows [22] 80 _ _ _ _).trans rfl
set_option maxRecDepth 100000 in
set_option maxHeartbeats 2000000 in
theorem q_X12_show  (μ : Mem) : f_X12_show [vR 12 0] μ = (if (μ 0 45) = (-4) then some (some (vI (-2)), μ) else cV (f_X12_findTerm [vR 12 0] μ) (fun μ1 => cI (f_X12_isAtRight [vR 12 0, vI (μ1 0 45)] μ1) (fun x3 μ2 => if x3 = 0 then some (some (vI (-2)), μ2) else if (wr ((μ2 0 16) + (μ2 0 46))) ≤ 200 then cV (f_X12_shows [vR 12 0, vI (μ2 0 45)] μ2) (fun μ4 => some (some (vI ((up μ4 0 45 (-4)) 0 46)), up μ4 0 45 (-4))) else some (some (vI (-3)), μ2)))) :=
  show Rn kc_X12_show 0 [some (vR 12 0)] [] μ = _ from (Rn_rc kt_X12_show [] 39 _ _ _ _).trans rfl
set_option maxRecDepth 100000 in
set_option maxHeartbeats 2000000 in
theorem q_X12_stepOf (v1 : Int) (v2 : Int) (v3 : Int) (μ : Mem) : f_X12_stepOf [vR 12 0, vI v1, vI v2, vI v3] μ = (cI (f_X12_isSaying [vR 12 0, vI v1] μ) (fun x2 μ1 => if x2 = 0 then some (some (vI (-1)), μ1) else cI (f_X12_in [vL v3, vL 0, vL 2] μ1) (fun x4 μ3 => if x4 = 0 then some (some (vI (-1)), μ3) else if v2 < 0 then some (some (vI (-1)), μ3) else gi v1 (lnR 10) (if (μ3 10 (v1).toNat) = (-4) then some (some (vI (-4)), μ3) else gi v1 (lnR 11) (if v2 < (μ3 11 (v1).toNat) then gi v1 (lnR 10) (if v3 = 0 then gi (wr ((μ3 10 (v1).toNat) + v2)) (lnR 14) (some (some (vI (μ3 14 (wr ((μ3 10 (v1).toNat) + v2)).toNat)), μ3)) else if v3 = 1 then gi (wr ((μ3 10 (v1).toNat) + v2)) (lnR 15) (some (some (vI (μ3 15 (wr ((μ3 10 (v1).toNat) + v2)).toNat)), μ3)) else gi (wr ((μ3 10 (v1).toNat) + v2)) (lnR 16) (some (some (vI (μ3 16 (wr ((μ3 10 (v1).toNat) + v2)).toNat)), μ3))) else some (some (vI (-1)), μ3)))))) :=
  show Rn kc_X12_stepOf 0 [some (vR 12 0), some (vI v1), some (vI v2), some (vI v3), none] [] μ = _ from (Rn_rc kt_X12_stepOf [] 62 _ _ _ _).trans rfl
noncomputable def e_X12_change_42 (v1 : Int) (o2 : Option AV) (o3 : Option AV) (o4 : Option AV) (o5 : Option AV) (μ : Mem) : Option Rs := Rn kc_X12_change 42 [some (vR 12 0), some (vI v1), o2, o3, o4, o5] [] μ
noncomputable def e_X12_change_88 (v1 : Int) (v2 : Int) (o3 : Option AV) (o4 : Option AV) (o5 : Option AV) (μ : Mem) : Option Rs := Rn kc_X12_change 88 [some (vR 12 0), some (vI v1), some (vI v2), o3, o4, o5] [] μ
noncomputable def e_X12_change_152 (o1 : Option AV) (v2 : Int) (v3 : Int) (o4 : Option AV) (o5 : Option AV) (μ : Mem) : Option Rs := Rn kc_X12_change 152 [some (vR 12 0), o1, some (vI v2), some (vI v3), o4, o5] [] μ
noncomputable def e_X12_change_163 (o1 : Option AV) (v2 : Int) (v3 : Int) (v4 : Int) (o5 : Option AV) (μ : Mem) : Option Rs := Rn kc_X12_change 163 [some (vR 12 0), o1, some (vI v2), some (vI v3), some (vI v4), o5] [] μ
noncomputable def e_X12_change_215 (o1 : Option AV) (v2 : Int) (v3 : Int) (v4 : Int) (o5 : Option AV) (μ : Mem) : Option Rs := Rn kc_X12_change 215 [some (vR 12 0), o1, some (vI v2), some (vI v3), some (vI v4), o5] [] μ
set_option maxRecDepth 100000 in
set_option maxHeartbeats 2000000 in
theorem q_X12_change (v1 : Int) (μ : Mem) : f_X12_change [vR 12 0, vI v1] μ = (cI (f_X12_isWord [vR 12 0, vI v1] μ) (fun x2 μ1 => if x2 = 0 then some (some (vI (-1)), μ1) else cV (f_X12_next [vR 12 0] (up (up μ1 0 30 0) 0 26 0)) (fun μ3 => if (μ3 0 30) = 0 then gi v1 (lnR 2) (cV (f_X12_readTerm [vR 12 0, vI (μ3 2 (v1).toNat), vI v1] μ3) (fun μ4 => e_X12_change_42 v1 none none none none μ4)) else e_X12_change_42 v1 none none none none μ3))) :=
  show Rn kc_X12_change 0 [some (vR 12 0), some (vI v1), none, none, none, none] [] μ = _ from (Rn_rc kt_X12_change [42, 88, 152, 163, 215] 160 _ _ _ _).trans rfl
set_option maxRecDepth 100000 in
set_option maxHeartbeats 2000000 in
theorem q_X12_change_42 (v1 : Int) (o2 : Option AV) (o3 : Option AV) (o4 : Option AV) (o5 : Option AV) (μ : Mem) : e_X12_change_42 v1 o2 o3 o4 o5 μ = (if (μ 0 30) = 0 then if (μ 0 28) = 0 then cV (f_X12_wants [vR 12 0, vI 1, vI 2] μ) (fun μ2 => if ((up μ2 0 25 0) 0 30) ≤ 0 then e_X12_change_88 v1 0 o3 o4 o5 (up μ2 0 25 0) else some (some (vI (wr ((-10) - ((up μ2 0 25 0) 0 31)))), up μ2 0 25 0)) else cV (f_X12_wants [vR 12 0, vI 0, vI 2] μ) (fun μ1 => if ((up μ1 0 25 0) 0 30) ≤ 0 then e_X12_change_88 v1 0 o3 o4 o5 (up μ1 0 25 0) else some (some (vI (wr ((-10) - ((up μ1 0 25 0) 0 31)))), up μ1 0 25 0)) else if ((up μ 0 25 0) 0 30) ≤ 0 then e_X12_change_88 v1 0 o3 o4 o5 (up μ 0 25 0) else some (some (vI (wr ((-10) - ((up μ 0 25 0) 0 31)))), up μ 0 25 0)) :=
  (Rn_rc kt_X12_change [42, 88, 152, 163, 215] 160 _ _ _ _).trans rfl
set_option maxRecDepth 100000 in
set_option maxHeartbeats 2000000 in
theorem q_X12_change_88 (v1 : Int) (v2 : Int) (o3 : Option AV) (o4 : Option AV) (o5 : Option AV) (μ : Mem) : e_X12_change_88 v1 v2 o3 o4 o5 μ = (if v2 < (μ 0 5) then gi v2 (lnR 7) (if (μ 7 (v2).toNat) = 2 then cI (f_X12_putsWord [vR 12 0, vI v2, vI v1] μ) (fun x3 μ2 => if x3 = 0 then gi v2 (lnR 29) (e_X12_change_88 v1 (wr (v2 + 1)) o3 o4 o5 (up μ2 29 (v2).toNat (wZ 0))) else gi v2 (lnR 29) (e_X12_change_88 v1 (wr (v2 + 1)) o3 o4 o5 (up μ2 29 (v2).toNat (wZ 1)))) else gi v2 (lnR 29) (e_X12_change_88 v1 (wr (v2 + 1)) o3 o4 o5 (up μ 29 (v2).toNat (wZ 0)))) else cV (f_X12_keepsMeaning [vR 12 0, vI v1] μ) (fun μ1 => gz 0 (e_X12_change_152 (some (vI v1)) 0 0 o4 o5 (up (up μ1 0 68 0) 0 45 (-4))))) :=
  (Rn_rc kt_X12_change [42, 88, 152, 163, 215] 160 _ _ _ _).trans rfl
set_option maxRecDepth 100000 in
set_option maxHeartbeats 2000000 in
theorem q_X12_change_152 (o1 : Option AV) (v2 : Int) (v3 : Int) (o4 : Option AV) (o5 : Option AV) (μ : Mem) : e_X12_change_152 o1 v2 v3 o4 o5 μ = (if v3 < (μ 0 15) then e_X12_change_163 o1 v2 v3 0 o5 μ else cI (f_X12_bits [vI v2] μ) (fun x2 μ1 => some (some (vI x2), μ1))) :=
  (Rn_rc kt_X12_change [42, 88, 152, 163, 215] 160 _ _ _ _).trans rfl
set_option maxRecDepth 100000 in
set_option maxHeartbeats 2000000 in
theorem q_X12_change_163 (o1 : Option AV) (v2 : Int) (v3 : Int) (v4 : Int) (o5 : Option AV) (μ : Mem) : e_X12_change_163 o1 v2 v3 v4 o5 μ = (if v4 < (μ 0 5) then gi v4 (lnR 7) (if (μ 7 (v4).toNat) = 2 then gi v4 (lnR 13) (if (μ 13 (v4).toNat) = v3 then gi v4 (lnR 29) (if (μ 29 (v4).toNat) = 0 then cI (f_X12_usesOf [vR 12 0, vI v4] μ) (fun x2 μ1 => if (bAnd x2 v2) = 0 then e_X12_change_163 o1 v2 v3 (wr (v4 + 1)) o5 μ1 else e_X12_change_215 o1 v2 v3 v4 o5 μ1) else e_X12_change_215 o1 v2 v3 v4 o5 μ) else e_X12_change_163 o1 v2 v3 (wr (v4 + 1)) o5 μ) else e_X12_change_163 o1 v2 v3 (wr (v4 + 1)) o5 μ) else e_X12_change_152 o1 v2 (wr (v3 + 1)) (some (vI v4)) o5 μ) :=
  (Rn_rc kt_X12_change [42, 88, 152, 163, 215] 160 _ _ _ _).trans rfl
set_option maxRecDepth 100000 in
set_option maxHeartbeats 2000000 in
theorem q_X12_change_215 (o1 : Option AV) (v2 : Int) (v3 : Int) (v4 : Int) (o5 : Option AV) (μ : Mem) : e_X12_change_215 o1 v2 v3 v4 o5 μ = (cI (f_X12_goesThrough [vR 12 0, vI v4] μ) (fun x2 μ1 => gi v4 (lnR 11) (if x2 < (μ1 11 (v4).toNat) then gi v4 (lnR 12) (cV (f_X12_becomes [vR 12 0, vI v4, vI 3] (up μ1 12 (v4).toNat x2)) (fun μ3 => e_X12_change_163 (kl o1) (bOr v2 (bShl 1 v4)) v3 (wr (v4 + 1)) (some (vI x2)) μ3)) else cI (f_X12_isAtRight [vR 12 0, vI v4] μ1) (fun x5 μ4 => if x5 = 0 then gi v4 (lnR 12) (cV (f_X12_becomes [vR 12 0, vI v4, vI 3] (up μ4 12 (v4).toNat x2)) (fun μ6 => e_X12_change_163 (kl o1) (bOr v2 (bShl 1 v4)) v3 (wr (v4 + 1)) (some (vI x2)) μ6)) else e_X12_change_163 o1 v2 v3 (wr (v4 + 1)) (some (vI x2)) μ4)))) :=
  (Rn_rc kt_X12_change [42, 88, 152, 163, 215] 160 _ _ _ _).trans rfl
noncomputable def e_X12_hashOf_5 (o0 : Option AV) (v1 : Nat) (v2 : Int) (v3 : Int) (v4 : Int) (μ : Mem) : Option Rs := Rn kc_X12_hashOf 5 [o0, some (vR 20 v1), some (vI v2), some (vI v3), some (vI v4)] [] μ
set_option maxRecDepth 100000 in
set_option maxHeartbeats 2000000 in
theorem q_X12_hashOf (v1 : Nat) (v2 : Int) (μ : Mem) : f_X12_hashOf [vR 12 0, vR 20 v1, vI v2] μ = (e_X12_hashOf_5 (some (vR 12 0)) v1 v2 v2 0 μ) :=
  show Rn kc_X12_hashOf 0 [some (vR 12 0), some (vR 20 v1), some (vI v2), none, none] [] μ = _ from (Rn_rc kt_X12_hashOf [5] 30 _ _ _ _).trans rfl
set_option maxRecDepth 100000 in
set_option maxHeartbeats 2000000 in
theorem q_X12_hashOf_5 (o0 : Option AV) (v1 : Nat) (v2 : Int) (v3 : Int) (v4 : Int) (μ : Mem) : e_X12_hashOf_5 o0 v1 v2 v3 v4 μ = (if v4 < v2 then gi v4 (lnR v1) (e_X12_hashOf_5 o0 v1 v2 (wr ((wr (31 * v3)) + (μ v1 (v4).toNat))) (wr (v4 + 1)) μ) else some (some (vI (bAnd (bXor v3 (bUshr v3 12)) 4095)), μ)) :=
  (Rn_rc kt_X12_hashOf [5] 30 _ _ _ _).trans rfl
noncomputable def e_X12_isMet_9 (o1 : Option AV) (v2 : Int) (v3 : Int) (o4 : Option AV) (μ : Mem) : Option Rs := Rn kc_X12_isMet 9 [some (vR 12 0), o1, some (vI v2), some (vI v3), o4] [] μ
noncomputable def e_X12_isMet_39 (o1 : Option AV) (v2 : Int) (v3 : Int) (v4 : Int) (μ : Mem) : Option Rs := Rn kc_X12_isMet 39 [some (vR 12 0), o1, some (vI v2), some (vI v3), some (vI v4)] [] μ
set_option maxRecDepth 100000 in
set_option maxHeartbeats 2000000 in
theorem q_X12_isMet (v1 : Int) (μ : Mem) : f_X12_isMet [vR 12 0, vI v1] μ = (gi v1 (lnR 38) (e_X12_isMet_9 (some (vI v1)) 0 (μ 38 (v1).toNat) none μ)) :=
  show Rn kc_X12_isMet 0 [some (vR 12 0), some (vI v1), none, none, none] [] μ = _ from (Rn_rc kt_X12_isMet [9, 39] 62 _ _ _ _).trans rfl
set_option maxRecDepth 100000 in
set_option maxHeartbeats 2000000 in
theorem q_X12_isMet_9 (o1 : Option AV) (v2 : Int) (v3 : Int) (o4 : Option AV) (μ : Mem) : e_X12_isMet_9 o1 v2 v3 o4 μ = (if v3 < 0 then gz v2 (some (some (vI v2), μ)) else if v2 = 0 then gi v3 (lnR 31) (if (μ 31 (v3).toNat) = (μ 0 38) then e_X12_isMet_39 (kl o1) 1 v3 0 μ else e_X12_isMet_39 (kl o1) 0 v3 0 μ) else gz v2 (some (some (vI v2), μ))) :=
  (Rn_rc kt_X12_isMet [9, 39] 62 _ _ _ _).trans rfl
set_option maxRecDepth 100000 in
set_option maxHeartbeats 2000000 in
theorem q_X12_isMet_39 (o1 : Option AV) (v2 : Int) (v3 : Int) (v4 : Int) (μ : Mem) : e_X12_isMet_39 o1 v2 v3 v4 μ = (if v4 < (μ 0 38) then if v2 = 0 then gi v3 (lnR 37) (e_X12_isMet_9 o1 v2 (μ 37 (v3).toNat) (some (vI v4)) μ) else gi (wr ((wr (20 * v3)) + v4)) (lnR 30) (gi v4 (lnR 21) (if (μ 30 (wr ((wr (20 * v3)) + v4)).toNat) = (μ 21 (v4).toNat) then e_X12_isMet_39 (kl o1) 1 v3 (wr (v4 + 1)) μ else e_X12_isMet_39 (kl o1) 0 v3 (wr (v4 + 1)) μ)) else gi v3 (lnR 37) (e_X12_isMet_9 o1 v2 (μ 37 (v3).toNat) (some (vI v4)) μ)) :=
  (Rn_rc kt_X12_isMet [9, 39] 62 _ _ _ _).trans rfl
noncomputable def e_X12_meets_16 (v1 : Int) (v2 : Int) (v3 : Int) (v4 : Int) (v5 : Int) (v6 : Int) (μ : Mem) : Option Rs := Rn kc_X12_meets 16 [some (vR 12 0), some (vI v1), some (vI v2), some (vI v3), some (vI v4), some (vI v5), some (vI v6)] [] μ
noncomputable def e_X12_meets_89 (v1 : Int) (o2 : Option AV) (v3 : Int) (v4 : Int) (v5 : Int) (o6 : Option AV) (s0 : Nat) (s1 : Int) (s2 : Int) (μ : Mem) : Option Rs := Rn kc_X12_meets 89 [some (vR 12 0), some (vI v1), o2, some (vI v3), some (vI v4), some (vI v5), o6] [vI s2, vI s1, vR 20 s0] μ
set_option maxRecDepth 100000 in
set_option maxHeartbeats 2000000 in
theorem q_X12_meets (v1 : Int) (v2 : Int) (v3 : Int) (v4 : Int) (v5 : Int) (μ : Mem) : f_X12_meets [vR 12 0, vI v1, vI v2, vI v3, vI v4, vI v5] μ = (gi (μ 0 60) (lnR 31) (e_X12_meets_16 v1 v2 v3 v4 v5 0 (up μ 31 (μ 0 60).toNat (μ 0 38)))) :=
  show Rn kc_X12_meets 0 [some (vR 12 0), some (vI v1), some (vI v2), some (vI v3), some (vI v4), some (vI v5), none] [] μ = _ from (Rn_rc kt_X12_meets [16, 89] 95 _ _ _ _).trans rfl
set_option maxRecDepth 100000 in
set_option maxHeartbeats 2000000 in
theorem q_X12_meets_16 (v1 : Int) (v2 : Int) (v3 : Int) (v4 : Int) (v5 : Int) (v6 : Int) (μ : Mem) : e_X12_meets_16 v1 v2 v3 v4 v5 v6 μ = (if v6 < (μ 0 38) then gi v6 (lnR 21) (gi (wr ((wr (20 * (μ 0 60))) + v6)) (lnR 30) (e_X12_meets_16 v1 v2 v3 v4 v5 (wr (v6 + 1)) (up μ 30 (wr ((wr (20 * (μ 0 60))) + v6)).toNat (μ 21 (v6).toNat)))) else gi (μ 0 60) (lnR 32) (if v2 = (-4) then e_X12_meets_89 v1 (some (vI v2)) v3 v4 v5 (some (vI v6)) 33 ((up μ 32 (μ 0 60).toNat v2) 0 60) 0 (up μ 32 (μ 0 60).toNat v2) else gi v2 (lnR 33) (e_X12_meets_89 v1 (some (vI v2)) v3 v4 v5 (some (vI v6)) 33 ((up μ 32 (μ 0 60).toNat v2) 0 60) (wr (((up μ 32 (μ 0 60).toNat v2) 33 (v2).toNat) + 1)) (up μ 32 (μ 0 60).toNat v2)))) :=
  (Rn_rc kt_X12_meets [16, 89] 95 _ _ _ _).trans rfl
set_option maxRecDepth 100000 in
set_option maxHeartbeats 2000000 in
theorem q_X12_meets_89 (v1 : Int) (o2 : Option AV) (v3 : Int) (v4 : Int) (v5 : Int) (o6 : Option AV) (s0 : Nat) (s1 : Int) (s2 : Int) (μ : Mem) : e_X12_meets_89 v1 o2 v3 v4 v5 o6 s0 s1 s2 μ = (gi s1 (lnR s0) (gi ((up μ s0 (s1).toNat s2) 0 60) (lnR 34) (gi ((up (up μ s0 (s1).toNat s2) 34 ((up μ s0 (s1).toNat s2) 0 60).toNat v3) 0 60) (lnR 35) (gi ((up (up (up μ s0 (s1).toNat s2) 34 ((up μ s0 (s1).toNat s2) 0 60).toNat v3) 35 ((up (up μ s0 (s1).toNat s2) 34 ((up μ s0 (s1).toNat s2) 0 60).toNat v3) 0 60).toNat v4) 0 60) (lnR 36) (gi v1 (lnR 38) (gi ((up (up (up (up μ s0 (s1).toNat s2) 34 ((up μ s0 (s1).toNat s2) 0 60).toNat v3) 35 ((up (up μ s0 (s1).toNat s2) 34 ((up μ s0 (s1).toNat s2) 0 60).toNat v3) 0 60).toNat v4) 36 ((up (up (up μ s0 (s1).toNat s2) 34 ((up μ s0 (s1).toNat s2) 0 60).toNat v3) 35 ((up (up μ s0 (s1).toNat s2) 34 ((up μ s0 (s1).toNat s2) 0 60).toNat v3) 0 60).toNat v4) 0 60).toNat v5) 0 60) (lnR 37) (gi v1 (lnR 38) (some (none, up (up (up (up (up (up (up μ s0 (s1).toNat s2) 34 ((up μ s0 (s1).toNat s2) 0 60).toNat v3) 35 ((up (up μ s0 (s1).toNat s2) 34 ((up μ s0 (s1).toNat s2) 0 60).toNat v3) 0 60).toNat v4) 36 ((up (up (up μ s0 (s1).toNat s2) 34 ((up μ s0 (s1).toNat s2) 0 60).toNat v3) 35 ((up (up μ s0 (s1).toNat s2) 34 ((up μ s0 (s1).toNat s2) 0 60).toNat v3) 0 60).toNat v4) 0 60).toNat v5) 37 ((up (up (up (up μ s0 (s1).toNat s2) 34 ((up μ s0 (s1).toNat s2) 0 60).toNat v3) 35 ((up (up μ s0 (s1).toNat s2) 34 ((up μ s0 (s1).toNat s2) 0 60).toNat v3) 0 60).toNat v4) 36 ((up (up (up μ s0 (s1).toNat s2) 34 ((up μ s0 (s1).toNat s2) 0 60).toNat v3) 35 ((up (up μ s0 (s1).toNat s2) 34 ((up μ s0 (s1).toNat s2) 0 60).toNat v3) 0 60).toNat v4) 0 60).toNat v5) 0 60).toNat ((up (up (up (up μ s0 (s1).toNat s2) 34 ((up μ s0 (s1).toNat s2) 0 60).toNat v3) 35 ((up (up μ s0 (s1).toNat s2) 34 ((up μ s0 (s1).toNat s2) 0 60).toNat v3) 0 60).toNat v4) 36 ((up (up (up μ s0 (s1).toNat s2) 34 ((up μ s0 (s1).toNat s2) 0 60).toNat v3) 35 ((up (up μ s0 (s1).toNat s2) 34 ((up μ s0 (s1).toNat s2) 0 60).toNat v3) 0 60).toNat v4) 0 60).toNat v5) 38 (v1).toNat)) 38 (v1).toNat ((up (up (up (up (up μ s0 (s1).toNat s2) 34 ((up μ s0 (s1).toNat s2) 0 60).toNat v3) 35 ((up (up μ s0 (s1).toNat s2) 34 ((up μ s0 (s1).toNat s2) 0 60).toNat v3) 0 60).toNat v4) 36 ((up (up (up μ s0 (s1).toNat s2) 34 ((up μ s0 (s1).toNat s2) 0 60).toNat v3) 35 ((up (up μ s0 (s1).toNat s2) 34 ((up μ s0 (s1).toNat s2) 0 60).toNat v3) 0 60).toNat v4) 0 60).toNat v5) 37 ((up (up (up (up μ s0 (s1).toNat s2) 34 ((up μ s0 (s1).toNat s2) 0 60).toNat v3) 35 ((up (up μ s0 (s1).toNat s2) 34 ((up μ s0 (s1).toNat s2) 0 60).toNat v3) 0 60).toNat v4) 36 ((up (up (up μ s0 (s1).toNat s2) 34 ((up μ s0 (s1).toNat s2) 0 60).toNat v3) 35 ((up (up μ s0 (s1).toNat s2) 34 ((up μ s0 (s1).toNat s2) 0 60).toNat v3) 0 60).toNat v4) 0 60).toNat v5) 0 60).toNat ((up (up (up (up μ s0 (s1).toNat s2) 34 ((up μ s0 (s1).toNat s2) 0 60).toNat v3) 35 ((up (up μ s0 (s1).toNat s2) 34 ((up μ s0 (s1).toNat s2) 0 60).toNat v3) 0 60).toNat v4) 36 ((up (up (up μ s0 (s1).toNat s2) 34 ((up μ s0 (s1).toNat s2) 0 60).toNat v3) 35 ((up (up μ s0 (s1).toNat s2) 34 ((up μ s0 (s1).toNat s2) 0 60).toNat v3) 0 60).toNat v4) 0 60).toNat v5) 38 (v1).toNat)) 0 60)) 0 60 (wr (((up (up (up (up (up (up μ s0 (s1).toNat s2) 34 ((up μ s0 (s1).toNat s2) 0 60).toNat v3) 35 ((up (up μ s0 (s1).toNat s2) 34 ((up μ s0 (s1).toNat s2) 0 60).toNat v3) 0 60).toNat v4) 36 ((up (up (up μ s0 (s1).toNat s2) 34 ((up μ s0 (s1).toNat s2) 0 60).toNat v3) 35 ((up (up μ s0 (s1).toNat s2) 34 ((up μ s0 (s1).toNat s2) 0 60).toNat v3) 0 60).toNat v4) 0 60).toNat v5) 37 ((up (up (up (up μ s0 (s1).toNat s2) 34 ((up μ s0 (s1).toNat s2) 0 60).toNat v3) 35 ((up (up μ s0 (s1).toNat s2) 34 ((up μ s0 (s1).toNat s2) 0 60).toNat v3) 0 60).toNat v4) 36 ((up (up (up μ s0 (s1).toNat s2) 34 ((up μ s0 (s1).toNat s2) 0 60).toNat v3) 35 ((up (up μ s0 (s1).toNat s2) 34 ((up μ s0 (s1).toNat s2) 0 60).toNat v3) 0 60).toNat v4) 0 60).toNat v5) 0 60).toNat ((up (up (up (up μ s0 (s1).toNat s2) 34 ((up μ s0 (s1).toNat s2) 0 60).toNat v3) 35 ((up (up μ s0 (s1).toNat s2) 34 ((up μ s0 (s1).toNat s2) 0 60).toNat v3) 0 60).toNat v4) 36 ((up (up (up μ s0 (s1).toNat s2) 34 ((up μ s0 (s1).toNat s2) 0 60).toNat v3) 35 ((up (up μ s0 (s1).toNat s2) 34 ((up μ s0 (s1).toNat s2) 0 60).toNat v3) 0 60).toNat v4) 0 60).toNat v5) 38 (v1).toNat)) 38 (v1).toNat ((up (up (up (up (up μ s0 (s1).toNat s2) 34 ((up μ s0 (s1).toNat s2) 0 60).toNat v3) 35 ((up (up μ s0 (s1).toNat s2) 34 ((up μ s0 (s1).toNat s2) 0 60).toNat v3) 0 60).toNat v4) 36 ((up (up (up μ s0 (s1).toNat s2) 34 ((up μ s0 (s1).toNat s2) 0 60).toNat v3) 35 ((up (up μ s0 (s1).toNat s2) 34 ((up μ s0 (s1).toNat s2) 0 60).toNat v3) 0 60).toNat v4) 0 60).toNat v5) 37 ((up (up (up (up μ s0 (s1).toNat s2) 34 ((up μ s0 (s1).toNat s2) 0 60).toNat v3) 35 ((up (up μ s0 (s1).toNat s2) 34 ((up μ s0 (s1).toNat s2) 0 60).toNat v3) 0 60).toNat v4) 36 ((up (up (up μ s0 (s1).toNat s2) 34 ((up μ s0 (s1).toNat s2) 0 60).toNat v3) 35 ((up (up μ s0 (s1).toNat s2) 34 ((up μ s0 (s1).toNat s2) 0 60).toNat v3) 0 60).toNat v4) 0 60).toNat v5) 0 60).toNat ((up (up (up (up μ s0 (s1).toNat s2) 34 ((up μ s0 (s1).toNat s2) 0 60).toNat v3) 35 ((up (up μ s0 (s1).toNat s2) 34 ((up μ s0 (s1).toNat s2) 0 60).toNat v3) 0 60).toNat v4) 36 ((up (up (up μ s0 (s1).toNat s2) 34 ((up μ s0 (s1).toNat s2) 0 60).toNat v3) 35 ((up (up μ s0 (s1).toNat s2) 34 ((up μ s0 (s1).toNat s2) 0 60).toNat v3) 0 60).toNat v4) 0 60).toNat v5) 38 (v1).toNat)) 0 60)) 0 60) + 1))))))))))) :=
  (Rn_rc kt_X12_meets [16, 89] 95 _ _ _ _).trans rfl
noncomputable def e_X12_isThenRight_25 (v1 : Int) (v2 : Int) (v3 : Int) (μ : Mem) : Option Rs := Rn kc_X12_isThenRight 25 [some (vR 12 0), some (vI v1), some (vI v2), some (vI v3)] [] μ
set_option maxRecDepth 100000 in
set_option maxHeartbeats 2000000 in
theorem q_X12_isThenRight (v1 : Int) (μ : Mem) : f_X12_isThenRight [vR 12 0, vI v1] μ = (gi (wr ((wr (2 * v1)) + 1)) (lnR 6) (if (μ 0 38) = (μ 6 (wr ((wr (2 * v1)) + 1)).toNat) then e_X12_isThenRight_25 v1 1 0 μ else e_X12_isThenRight_25 v1 0 0 μ)) :=
  show Rn kc_X12_isThenRight 0 [some (vR 12 0), some (vI v1), none, none] [] μ = _ from (Rn_rc kt_X12_isThenRight [25] 51 _ _ _ _).trans rfl
set_option maxRecDepth 100000 in
set_option maxHeartbeats 2000000 in
theorem q_X12_isThenRight_25 (v1 : Int) (v2 : Int) (v3 : Int) (μ : Mem) : e_X12_isThenRight_25 v1 v2 v3 μ = (if v3 < (μ 0 38) then if v2 = 0 then gz v2 (some (some (vI v2), μ)) else gi v3 (lnR 21) (gi (wr ((wr ((wr (40 * v1)) + 20)) + v3)) (lnR 5) (if (μ 21 (v3).toNat) = (μ 5 (wr ((wr ((wr (40 * v1)) + 20)) + v3)).toNat) then e_X12_isThenRight_25 v1 1 (wr (v3 + 1)) μ else e_X12_isThenRight_25 v1 0 (wr (v3 + 1)) μ)) else gz v2 (some (some (vI v2), μ))) :=
  (Rn_rc kt_X12_isThenRight [25] 51 _ _ _ _).trans rfl
noncomputable def e_X12_seeks_3 (v1 : Int) (v2 : Int) (v3 : Int) (v4 : Int) (v5 : Int) (v6 : Int) (o7 : Option AV) (μ : Mem) : Option Rs := Rn kc_X12_seeks 3 [some (vR 12 0), some (vI v1), some (vI v2), some (vI v3), some (vI v4), some (vI v5), some (vI v6), o7] [] μ
noncomputable def e_X12_seeks_88 (v1 : Int) (v2 : Int) (v3 : Int) (v4 : Int) (v5 : Int) (v6 : Int) (v7 : Int) (s1 : Int) (μ : Mem) : Option Rs := Rn kc_X12_seeks 88 [some (vR 12 0), some (vI v1), some (vI v2), some (vI v3), some (vI v4), some (vI v5), some (vI v6), some (vI v7)] [vI s1, vR 12 0] μ
set_option maxRecDepth 100000 in
set_option maxHeartbeats 2000000 in
theorem q_X12_seeks (v1 : Int) (v2 : Int) (v3 : Int) (v4 : Int) (v5 : Int) (μ : Mem) : f_X12_seeks [vR 12 0, vI v1, vI v2, vI v3, vI v4, vI v5] μ = (e_X12_seeks_3 v1 v2 v3 v4 v5 0 none μ) :=
  show Rn kc_X12_seeks 0 [some (vR 12 0), some (vI v1), some (vI v2), some (vI v3), some (vI v4), some (vI v5), none, none] [] μ = _ from (Rn_rc kt_X12_seeks [3, 88] 79 _ _ _ _).trans rfl
set_option maxRecDepth 100000 in
set_option maxHeartbeats 2000000 in
theorem q_X12_seeks_3 (v1 : Int) (v2 : Int) (v3 : Int) (v4 : Int) (v5 : Int) (v6 : Int) (o7 : Option AV) (μ : Mem) : e_X12_seeks_3 v1 v2 v3 v4 v5 v6 o7 μ = (if v6 < (μ 0 36) then if (μ 0 61) = (-4) then if (μ 0 62) = 0 then cI (f_X12_steps [vR 12 0, vI v4, vI v5, vI v6] μ) (fun x2 μ1 => if x2 = 0 then if (μ1 0 38) ≤ v3 then cI (f_X12_hashOf [vR 12 0, vR 20 21, vI (μ1 0 38)] μ1) (fun x4 μ3 => cI (f_X12_isMet [vR 12 0, vI x4] μ3) (fun x6 μ5 => if x6 = 0 then if (μ5 0 60) = 250 then e_X12_seeks_88 v1 v2 v3 v4 v5 v6 x4 1 μ5 else e_X12_seeks_88 v1 v2 v3 v4 v5 v6 x4 0 μ5 else e_X12_seeks_3 v1 v2 v3 v4 v5 (wr (v6 + 1)) (some (vI x4)) μ5)) else e_X12_seeks_3 v1 v2 v3 v4 v5 (wr (v6 + 1)) o7 μ1 else e_X12_seeks_3 v1 v2 v3 v4 v5 (wr (v6 + 1)) o7 μ1) else some (none, μ) else some (none, μ) else some (none, μ)) :=
  (Rn_rc kt_X12_seeks [3, 88] 79 _ _ _ _).trans rfl
set_option maxRecDepth 100000 in
set_option maxHeartbeats 2000000 in
theorem q_X12_seeks_88 (v1 : Int) (v2 : Int) (v3 : Int) (v4 : Int) (v5 : Int) (v6 : Int) (v7 : Int) (s1 : Int) (μ : Mem) : e_X12_seeks_88 v1 v2 v3 v4 v5 v6 v7 s1 μ = (gz s1 (if ((up μ 0 62 s1) 0 62) = 0 then if v4 = 2 then cV (f_X12_meets [vR 12 0, vI v7, vI v2, vI v4, vI (-4), vI v6] (up μ 0 62 s1)) (fun μ4 => cI (f_X12_isThenRight [vR 12 0, vI v1] μ4) (fun x6 μ5 => if x6 = 0 then e_X12_seeks_3 v1 v2 v3 v4 v5 (wr (v6 + 1)) (some (vI v7)) (up μ5 0 61 (μ5 0 61)) else e_X12_seeks_3 v1 v2 v3 v4 v5 (wr (v6 + 1)) (some (vI v7)) (up μ5 0 61 (wr ((μ5 0 60) - 1))))) else cV (f_X12_meets [vR 12 0, vI v7, vI v2, vI v4, vI v5, vI v6] (up μ 0 62 s1)) (fun μ1 => cI (f_X12_isThenRight [vR 12 0, vI v1] μ1) (fun x3 μ2 => if x3 = 0 then e_X12_seeks_3 v1 v2 v3 v4 v5 (wr (v6 + 1)) (some (vI v7)) (up μ2 0 61 (μ2 0 61)) else e_X12_seeks_3 v1 v2 v3 v4 v5 (wr (v6 + 1)) (some (vI v7)) (up μ2 0 61 (wr ((μ2 0 60) - 1))))) else e_X12_seeks_3 v1 v2 v3 v4 v5 (wr (v6 + 1)) (some (vI v7)) (up μ 0 62 s1))) :=
  (Rn_rc kt_X12_seeks [3, 88] 79 _ _ _ _).trans rfl
noncomputable def e_X12_findWay_3 (v1 : Int) (v2 : Int) (v3 : Int) (v4 : Int) (o5 : Option AV) (μ : Mem) : Option Rs := Rn kc_X12_findWay 3 [some (vR 12 0), some (vI v1), some (vI v2), some (vI v3), some (vI v4), o5] [] μ
noncomputable def e_X12_findWay_56 (v1 : Int) (v2 : Int) (v3 : Int) (v4 : Int) (o5 : Option AV) (μ : Mem) : Option Rs := Rn kc_X12_findWay 56 [some (vR 12 0), some (vI v1), some (vI v2), some (vI v3), some (vI v4), o5] [] μ
noncomputable def e_X12_findWay_132 (v1 : Int) (v2 : Int) (v3 : Int) (v4 : Int) (o5 : Option AV) (μ : Mem) : Option Rs := Rn kc_X12_findWay 132 [some (vR 12 0), some (vI v1), some (vI v2), some (vI v3), some (vI v4), o5] [] μ
noncomputable def e_X12_findWay_182 (v1 : Int) (v2 : Int) (v3 : Int) (v4 : Int) (v5 : Int) (μ : Mem) : Option Rs := Rn kc_X12_findWay 182 [some (vR 12 0), some (vI v1), some (vI v2), some (vI v3), some (vI v4), some (vI v5)] [] μ
noncomputable def e_X12_findWay_220 (v1 : Int) (v2 : Int) (v3 : Int) (v4 : Int) (v5 : Int) (μ : Mem) : Option Rs := Rn kc_X12_findWay 220 [some (vR 12 0), some (vI v1), some (vI v2), some (vI v3), some (vI v4), some (vI v5)] [] μ
noncomputable def e_X12_findWay_270 (v1 : Int) (v2 : Int) (v3 : Int) (v4 : Int) (v5 : Int) (μ : Mem) : Option Rs := Rn kc_X12_findWay 270 [some (vR 12 0), some (vI v1), some (vI v2), some (vI v3), some (vI v4), some (vI v5)] [] μ
set_option maxRecDepth 100000 in
set_option maxHeartbeats 2000000 in
theorem q_X12_findWay (v1 : Int) (v2 : Int) (v3 : Int) (μ : Mem) : f_X12_findWay [vR 12 0, vI v1, vI v2, vI v3] μ = (e_X12_findWay_3 v1 v2 v3 0 none μ) :=
  show Rn kc_X12_findWay 0 [some (vR 12 0), some (vI v1), some (vI v2), some (vI v3), none, none] [] μ = _ from (Rn_rc kt_X12_findWay [3, 56, 132, 182, 220, 270] 167 _ _ _ _).trans rfl
set_option maxRecDepth 100000 in
set_option maxHeartbeats 2000000 in
theorem q_X12_findWay_3 (v1 : Int) (v2 : Int) (v3 : Int) (v4 : Int) (o5 : Option AV) (μ : Mem) : e_X12_findWay_3 v1 v2 v3 v4 o5 μ = (if v4 < 4096 then gi v4 (lnR 38) (e_X12_findWay_3 v1 v2 v3 (wr (v4 + 1)) o5 (up μ 38 (v4).toNat (-1))) else gz 0 (gi (wr (2 * v1)) (lnR 6) (e_X12_findWay_56 v1 v2 v3 0 o5 (up (up (up (up μ 0 60 0) 0 61 (-4)) 0 62 0) 0 38 ((up (up (up μ 0 60 0) 0 61 (-4)) 0 62 0) 6 (wr (2 * v1)).toNat))))) :=
  (Rn_rc kt_X12_findWay [3, 56, 132, 182, 220, 270] 167 _ _ _ _).trans rfl
set_option maxRecDepth 100000 in
set_option maxHeartbeats 2000000 in
theorem q_X12_findWay_56 (v1 : Int) (v2 : Int) (v3 : Int) (v4 : Int) (o5 : Option AV) (μ : Mem) : e_X12_findWay_56 v1 v2 v3 v4 o5 μ = (if v4 < (μ 0 38) then gi (wr ((wr (40 * v1)) + v4)) (lnR 5) (gi v4 (lnR 21) (e_X12_findWay_56 v1 v2 v3 (wr (v4 + 1)) o5 (up μ 21 (v4).toNat (μ 5 (wr ((wr (40 * v1)) + v4)).toNat)))) else cI (f_X12_hashOf [vR 12 0, vR 20 21, vI (μ 0 38)] μ) (fun x2 μ1 => cV (f_X12_meets [vR 12 0, vI x2, vI (-4), vI 0, vI 0, vI 0] μ1) (fun μ3 => cI (f_X12_isThenRight [vR 12 0, vI v1] μ3) (fun x5 μ4 => if x5 = 0 then e_X12_findWay_132 v1 v2 v3 0 o5 (up μ4 0 61 (-4)) else e_X12_findWay_132 v1 v2 v3 0 o5 (up μ4 0 61 0))))) :=
  (Rn_rc kt_X12_findWay [3, 56, 132, 182, 220, 270] 167 _ _ _ _).trans rfl
set_option maxRecDepth 100000 in
set_option maxHeartbeats 2000000 in
theorem q_X12_findWay_132 (v1 : Int) (v2 : Int) (v3 : Int) (v4 : Int) (o5 : Option AV) (μ : Mem) : e_X12_findWay_132 v1 v2 v3 v4 o5 μ = (if v4 < (μ 0 60) then if (μ 0 61) = (-4) then if (μ 0 62) = 0 then gi v4 (lnR 33) (if (μ 33 (v4).toNat) < v2 then gi v4 (lnR 31) (e_X12_findWay_182 v1 v2 v3 v4 0 (up μ 0 36 (μ 31 (v4).toNat))) else e_X12_findWay_132 v1 v2 v3 (wr (v4 + 1)) o5 μ) else some (none, μ) else some (none, μ) else some (none, μ)) :=
  (Rn_rc kt_X12_findWay [3, 56, 132, 182, 220, 270] 167 _ _ _ _).trans rfl
set_option maxRecDepth 100000 in
set_option maxHeartbeats 2000000 in
theorem q_X12_findWay_182 (v1 : Int) (v2 : Int) (v3 : Int) (v4 : Int) (v5 : Int) (μ : Mem) : e_X12_findWay_182 v1 v2 v3 v4 v5 μ = (if v5 < (μ 0 36) then gi (wr ((wr (20 * v4)) + v5)) (lnR 30) (gi v5 (lnR 20) (e_X12_findWay_182 v1 v2 v3 v4 (wr (v5 + 1)) (up μ 20 (v5).toNat (μ 30 (wr ((wr (20 * v4)) + v5)).toNat)))) else e_X12_findWay_220 v1 v2 v3 v4 0 μ) :=
  (Rn_rc kt_X12_findWay [3, 56, 132, 182, 220, 270] 167 _ _ _ _).trans rfl
set_option maxRecDepth 100000 in
set_option maxHeartbeats 2000000 in
theorem q_X12_findWay_220 (v1 : Int) (v2 : Int) (v3 : Int) (v4 : Int) (v5 : Int) (μ : Mem) : e_X12_findWay_220 v1 v2 v3 v4 v5 μ = (if v5 < (μ 0 5) then cV (f_X12_seeks [vR 12 0, vI v1, vI v4, vI v3, vI 0, vI v5] μ) (fun μ2 => cV (f_X12_seeks [vR 12 0, vI v1, vI v4, vI v3, vI 1, vI v5] μ2) (fun μ3 => e_X12_findWay_220 v1 v2 v3 v4 (wr (v5 + 1)) μ3)) else cV (f_X12_seeks [vR 12 0, vI v1, vI v4, vI v3, vI 2, vI 0] μ) (fun μ1 => e_X12_findWay_270 v1 v2 v3 v4 0 μ1)) :=
  (Rn_rc kt_X12_findWay [3, 56, 132, 182, 220, 270] 167 _ _ _ _).trans rfl
set_option maxRecDepth 100000 in
set_option maxHeartbeats 2000000 in
theorem q_X12_findWay_270 (v1 : Int) (v2 : Int) (v3 : Int) (v4 : Int) (v5 : Int) (μ : Mem) : e_X12_findWay_270 v1 v2 v3 v4 v5 μ = (if v5 < (μ 0 0) then cV (f_X12_seeks [vR 12 0, vI v1, vI v4, vI v3, vI 3, vI v5] μ) (fun μ1 => e_X12_findWay_270 v1 v2 v3 v4 (wr (v5 + 1)) μ1) else e_X12_findWay_132 v1 v2 v3 (wr (v4 + 1)) (some (vI v5)) μ) :=
  (Rn_rc kt_X12_findWay [3, 56, 132, 182, 220, 270] 167 _ _ _ _).trans rfl
set_option maxRecDepth 100000 in
set_option maxHeartbeats 2000000 in
theorem q_X12_seek (v1 : Int) (v2 : Int) (v3 : Int) (v4 : Int) (μ : Mem) : f_X12_seek [vR 12 0, vI v1, vI v2, vI v3, vI v4] μ = (cI (f_X12_isSaying [vR 12 0, vI v1] μ) (fun x2 μ1 => if x2 = 0 then some (some (vI (-1)), μ1) else cI (f_X12_in [vL v2, vL 0, vL 8] μ1) (fun x4 μ3 => if x4 = 0 then some (some (vI (-1)), μ3) else cI (f_X12_in [vL v3, vL 1, vL 20] μ3) (fun x6 μ5 => if x6 = 0 then some (some (vI (-1)), μ5) else cI (f_X12_in [vL v4, vL 0, vL 1] μ5) (fun x8 μ7 => if x8 = 0 then some (some (vI (-1)), μ7) else cI (f_X12_isOpen [vR 12 0, vI v1] μ7) (fun x10 μ9 => if x10 = 0 then some (some (vI (-2)), μ9) else cV (f_X12_findWay [vR 12 0, vI v1, vI v2, vI v3] μ9) (fun μ11 => if (μ11 0 62) = 0 then if v4 = 1 then some (some (vI (μ11 0 60)), μ11) else if (μ11 0 61) = (-4) then some (some (vI (-4)), μ11) else gi (μ11 0 61) (lnR 33) (some (some (vI (μ11 33 (μ11 0 61).toNat)), μ11)) else some (some (vI (-6)), μ11)))))))) :=
  show Rn kc_X12_seek 0 [some (vR 12 0), some (vI v1), some (vI v2), some (vI v3), some (vI v4)] [] μ = _ from (Rn_rc kt_X12_seek [] 63 _ _ _ _).trans rfl
noncomputable def e_X12_take_140 (v1 : Int) (o2 : Option AV) (o3 : Option AV) (v4 : Int) (v5 : Int) (v6 : Int) (μ : Mem) : Option Rs := Rn kc_X12_take 140 [some (vR 12 0), some (vI v1), o2, o3, some (vI v4), some (vI v5), some (vI v6)] [] μ
set_option maxRecDepth 100000 in
set_option maxHeartbeats 2000000 in
theorem q_X12_take (v1 : Int) (v2 : Int) (v3 : Int) (μ : Mem) : f_X12_take [vR 12 0, vI v1, vI v2, vI v3] μ = (cI (f_X12_isSaying [vR 12 0, vI v1] μ) (fun x2 μ1 => if x2 = 0 then some (some (vI (-1)), μ1) else cI (f_X12_in [vL v2, vL 0, vL 8] μ1) (fun x4 μ3 => if x4 = 0 then some (some (vI (-1)), μ3) else cI (f_X12_in [vL v3, vL 1, vL 20] μ3) (fun x6 μ5 => if x6 = 0 then some (some (vI (-1)), μ5) else cI (f_X12_isOpen [vR 12 0, vI v1] μ5) (fun x8 μ7 => if x8 = 0 then some (some (vI (-2)), μ7) else cV (f_X12_findWay [vR 12 0, vI v1, vI v2, vI v3] μ7) (fun μ9 => if (μ9 0 62) = 0 then if (μ9 0 61) = (-4) then if (μ9 0 62) = 0 then some (some (vI (-4)), μ9) else some (some (vI (-6)), μ9) else gi (μ9 0 61) (lnR 33) (if (wr ((μ9 0 16) + (μ9 33 (μ9 0 61).toNat))) ≤ 200 then gi v1 (lnR 10) (gi v1 (lnR 11) (e_X12_take_140 v1 (some (vI v2)) (some (vI v3)) (μ9 33 (μ9 0 61).toNat) ((up (up μ9 10 (v1).toNat (μ9 0 16)) 11 (v1).toNat (μ9 33 (μ9 0 61).toNat)) 0 61) (wr ((μ9 33 (μ9 0 61).toNat) - 1)) (up (up μ9 10 (v1).toNat (μ9 0 16)) 11 (v1).toNat (μ9 33 (μ9 0 61).toNat)))) else some (some (vI (-3)), μ9)) else if (μ9 0 62) = 0 then some (some (vI (-4)), μ9) else some (some (vI (-6)), μ9))))))) :=
  show Rn kc_X12_take 0 [some (vR 12 0), some (vI v1), some (vI v2), some (vI v3), none, none, none] [] μ = _ from (Rn_rc kt_X12_take [140] 161 _ _ _ _).trans rfl
set_option maxRecDepth 100000 in
set_option maxHeartbeats 2000000 in
theorem q_X12_take_140 (v1 : Int) (o2 : Option AV) (o3 : Option AV) (v4 : Int) (v5 : Int) (v6 : Int) (μ : Mem) : e_X12_take_140 v1 o2 o3 v4 v5 v6 μ = (if v6 < 0 then gi v1 (lnR 13) (gi v1 (lnR 12) (cV (f_X12_becomes [vR 12 0, vI v1, vI 2] (up (up (up (up μ 0 16 (wr ((μ 0 16) + v4))) 13 (v1).toNat ((up μ 0 16 (wr ((μ 0 16) + v4))) 0 15)) 0 15 (wr (((up (up μ 0 16 (wr ((μ 0 16) + v4))) 13 (v1).toNat ((up μ 0 16 (wr ((μ 0 16) + v4))) 0 15)) 0 15) + 1))) 12 (v1).toNat (-4))) (fun μ1 => if (μ1 0 45) = v1 then some (some (vI v4), up μ1 0 45 (-4)) else some (some (vI v4), up μ1 0 45 (μ1 0 45))))) else gi v5 (lnR 34) (gi (wr ((μ 0 16) + v6)) (lnR 14) (gi v5 (lnR 35) (gi (wr (((up μ 14 (wr ((μ 0 16) + v6)).toNat (μ 34 (v5).toNat)) 0 16) + v6)) (lnR 15) (gi v5 (lnR 36) (gi (wr (((up (up μ 14 (wr ((μ 0 16) + v6)).toNat (μ 34 (v5).toNat)) 15 (wr (((up μ 14 (wr ((μ 0 16) + v6)).toNat (μ 34 (v5).toNat)) 0 16) + v6)).toNat ((up μ 14 (wr ((μ 0 16) + v6)).toNat (μ 34 (v5).toNat)) 35 (v5).toNat)) 0 16) + v6)) (lnR 16) (gi v5 (lnR 32) (e_X12_take_140 v1 o2 o3 v4 ((up (up (up μ 14 (wr ((μ 0 16) + v6)).toNat (μ 34 (v5).toNat)) 15 (wr (((up μ 14 (wr ((μ 0 16) + v6)).toNat (μ 34 (v5).toNat)) 0 16) + v6)).toNat ((up μ 14 (wr ((μ 0 16) + v6)).toNat (μ 34 (v5).toNat)) 35 (v5).toNat)) 16 (wr (((up (up μ 14 (wr ((μ 0 16) + v6)).toNat (μ 34 (v5).toNat)) 15 (wr (((up μ 14 (wr ((μ 0 16) + v6)).toNat (μ 34 (v5).toNat)) 0 16) + v6)).toNat ((up μ 14 (wr ((μ 0 16) + v6)).toNat (μ 34 (v5).toNat)) 35 (v5).toNat)) 0 16) + v6)).toNat ((up (up μ 14 (wr ((μ 0 16) + v6)).toNat (μ 34 (v5).toNat)) 15 (wr (((up μ 14 (wr ((μ 0 16) + v6)).toNat (μ 34 (v5).toNat)) 0 16) + v6)).toNat ((up μ 14 (wr ((μ 0 16) + v6)).toNat (μ 34 (v5).toNat)) 35 (v5).toNat)) 36 (v5).toNat)) 32 (v5).toNat) (wr (v6 + (-1))) (up (up (up μ 14 (wr ((μ 0 16) + v6)).toNat (μ 34 (v5).toNat)) 15 (wr (((up μ 14 (wr ((μ 0 16) + v6)).toNat (μ 34 (v5).toNat)) 0 16) + v6)).toNat ((up μ 14 (wr ((μ 0 16) + v6)).toNat (μ 34 (v5).toNat)) 35 (v5).toNat)) 16 (wr (((up (up μ 14 (wr ((μ 0 16) + v6)).toNat (μ 34 (v5).toNat)) 15 (wr (((up μ 14 (wr ((μ 0 16) + v6)).toNat (μ 34 (v5).toNat)) 0 16) + v6)).toNat ((up μ 14 (wr ((μ 0 16) + v6)).toNat (μ 34 (v5).toNat)) 35 (v5).toNat)) 0 16) + v6)).toNat ((up (up μ 14 (wr ((μ 0 16) + v6)).toNat (μ 34 (v5).toNat)) 15 (wr (((up μ 14 (wr ((μ 0 16) + v6)).toNat (μ 34 (v5).toNat)) 0 16) + v6)).toNat ((up μ 14 (wr ((μ 0 16) + v6)).toNat (μ 34 (v5).toNat)) 35 (v5).toNat)) 36 (v5).toNat)))))))))) :=
  (Rn_rc kt_X12_take [140] 161 _ _ _ _).trans rfl
noncomputable def e_X12_power_4 (v0 : Int) (v1 : Int) (v2 : Int) (v3 : Int) (μ : Mem) : Option Rs := Rn kc_X12_power 4 [some (vI v0), some (vI v1), some (vI v2), some (vI v3)] [] μ
set_option maxRecDepth 100000 in
set_option maxHeartbeats 2000000 in
theorem q_X12_power (v0 : Int) (v1 : Int) (μ : Mem) : f_X12_power [vI v0, vI v1] μ = (e_X12_power_4 v0 v1 1 0 μ) :=
  show Rn kc_X12_power 0 [some (vI v0), some (vI v1), none, none] [] μ = _ from (Rn_rc kt_X12_power [4] 20 _ _ _ _).trans rfl
set_option maxRecDepth 100000 in
set_option maxHeartbeats 2000000 in
theorem q_X12_power_4 (v0 : Int) (v1 : Int) (v2 : Int) (v3 : Int) (μ : Mem) : e_X12_power_4 v0 v1 v2 v3 μ = (if v3 < v1 then e_X12_power_4 v0 v1 (wr (v2 * v0)) (wr (v3 + 1)) μ else some (some (vI v2), μ)) :=
  (Rn_rc kt_X12_power [4] 20 _ _ _ _).trans rfl
set_option maxRecDepth 100000 in
set_option maxHeartbeats 2000000 in
theorem q_X12_worldsOf (v0 : Int) (μ : Mem) : f_X12_worldsOf [vI v0] μ = (cI (f_X12_power [vI v0, vI (wr (v0 * v0))] μ) (fun x2 μ1 => some (some (vI (wr (v0 * x2))), μ1))) :=
  show Rn kc_X12_worldsOf 0 [some (vI v0)] [] μ = _ from (Rn_rc kt_X12_worldsOf [] 13 _ _ _ _).trans rfl
noncomputable def e_X12_valueOf_10 (v1 : Nat) (v2 : Int) (o3 : Option AV) (v4 : Int) (v5 : Int) (v6 : Int) (v7 : Int) (v8 : Int) (o9 : Option AV) (o10 : Option AV) (o11 : Option AV) (o12 : Option AV) (μ : Mem) : Option Rs := Rn kc_X12_valueOf 10 [some (vR 12 0), some (vR 20 v1), some (vI v2), o3, some (vI v4), some (vI v5), some (vI v6), some (vI v7), some (vI v8), o9, o10, o11, o12] [] μ
noncomputable def e_X12_valueOf_183 (v1 : Nat) (v2 : Int) (o3 : Option AV) (v4 : Int) (v5 : Int) (v6 : Int) (v7 : Int) (v8 : Int) (o9 : Option AV) (v10 : Int) (v11 : Int) (o12 : Option AV) (s0 : Int) (μ : Mem) : Option Rs := Rn kc_X12_valueOf 183 [some (vR 12 0), some (vR 20 v1), some (vI v2), o3, some (vI v4), some (vI v5), some (vI v6), some (vI v7), some (vI v8), o9, some (vI v10), some (vI v11), o12] [vI s0] μ
set_option maxRecDepth 100000 in
set_option maxHeartbeats 2000000 in
theorem q_X12_valueOf (v1 : Nat) (v2 : Int) (v3 : Int) (v4 : Int) (v5 : Int) (v6 : Int) (μ : Mem) : f_X12_valueOf [vR 12 0, vR 20 v1, vI v2, vI v3, vI v4, vI v5, vI v6] μ = (e_X12_valueOf_10 v1 v2 (some (vI v3)) v4 v5 v6 0 (wr ((wr (v2 + v3)) - 1)) none none none none μ) :=
  show Rn kc_X12_valueOf 0 [some (vR 12 0), some (vR 20 v1), some (vI v2), some (vI v3), some (vI v4), some (vI v5), some (vI v6), none, none, none, none, none, none] [] μ = _ from (Rn_rc kt_X12_valueOf [10, 183] 139 _ _ _ _).trans rfl
set_option maxRecDepth 100000 in
set_option maxHeartbeats 2000000 in
theorem q_X12_valueOf_10 (v1 : Nat) (v2 : Int) (o3 : Option AV) (v4 : Int) (v5 : Int) (v6 : Int) (v7 : Int) (v8 : Int) (o9 : Option AV) (o10 : Option AV) (o11 : Option AV) (o12 : Option AV) (μ : Mem) : e_X12_valueOf_10 v1 v2 o3 v4 v5 v6 v7 v8 o9 o10 o11 o12 μ = (if v8 < v2 then gi 0 (lnR 41) (some (some (vI (μ 41 (0 : Int).toNat)), μ)) else gi v8 (lnR v1) (if (μ v1 (v8).toNat) = 12 then gi (wr (v7 - 1)) (lnR 41) (gi (wr (v7 - 2)) (lnR 41) (gi (wr ((wr ((μ 0 63) * (μ 41 (wr (v7 - 1)).toNat))) + (μ 41 (wr (v7 - 2)).toNat))) (lnR 39) (gi (wr (v7 - 2)) (lnR 41) (e_X12_valueOf_10 v1 v2 o3 v4 v5 v6 (wr (v7 + (-1))) (wr (v8 + (-1))) (some (vI (μ v1 (v8).toNat))) o10 o11 o12 (up μ 41 (wr (v7 - 2)).toNat (μ 39 (wr ((wr ((μ 0 63) * (μ 41 (wr (v7 - 1)).toNat))) + (μ 41 (wr (v7 - 2)).toNat))).toNat)))))) else if (μ v1 (v8).toNat) = 14 then if (μ v1 (v8).toNat) = 14 then gi v7 (lnR 41) (e_X12_valueOf_10 v1 v2 o3 v4 v5 v6 (wr (v7 + 1)) (wr (v8 + (-1))) (some (vI (μ v1 (v8).toNat))) o10 o11 o12 (up μ 41 (v7).toNat (μ 0 64))) else if (μ v1 (v8).toNat) = 23 then gi v7 (lnR 41) (e_X12_valueOf_10 v1 v2 o3 v4 v5 v6 (wr (v7 + 1)) (wr (v8 + (-1))) (some (vI (μ v1 (v8).toNat))) o10 o11 o12 (up μ 41 (v7).toNat v4)) else if (μ v1 (v8).toNat) = 24 then gi v7 (lnR 41) (e_X12_valueOf_10 v1 v2 o3 v4 v5 v6 (wr (v7 + 1)) (wr (v8 + (-1))) (some (vI (μ v1 (v8).toNat))) o10 o11 o12 (up μ 41 (v7).toNat v5)) else gi v7 (lnR 41) (e_X12_valueOf_10 v1 v2 o3 v4 v5 v6 (wr (v7 + 1)) (wr (v8 + (-1))) (some (vI (μ v1 (v8).toNat))) o10 o11 o12 (up μ 41 (v7).toNat v6)) else if (μ v1 (v8).toNat) < 23 then cI (f_X12_wordBy [vR 12 0, vI (μ v1 (v8).toNat)] μ) (fun x2 μ1 => gi (wr (v7 - 1)) (lnR 41) (gi x2 (lnR 2) (if (μ1 2 (x2).toNat) = 2 then gi (wr (v7 - 2)) (lnR 41) (e_X12_valueOf_183 v1 v2 o3 v4 v5 v6 v7 v8 (some (vI (μ v1 (v8).toNat))) x2 (μ1 41 (wr (v7 - 1)).toNat) o12 (μ1 41 (wr (v7 - 2)).toNat) μ1) else e_X12_valueOf_183 v1 v2 o3 v4 v5 v6 v7 v8 (some (vI (μ v1 (v8).toNat))) x2 (μ1 41 (wr (v7 - 1)).toNat) o12 0 μ1))) else if (μ v1 (v8).toNat) = 14 then gi v7 (lnR 41) (e_X12_valueOf_10 v1 v2 o3 v4 v5 v6 (wr (v7 + 1)) (wr (v8 + (-1))) (some (vI (μ v1 (v8).toNat))) o10 o11 o12 (up μ 41 (v7).toNat (μ 0 64))) else if (μ v1 (v8).toNat) = 23 then gi v7 (lnR 41) (e_X12_valueOf_10 v1 v2 o3 v4 v5 v6 (wr (v7 + 1)) (wr (v8 + (-1))) (some (vI (μ v1 (v8).toNat))) o10 o11 o12 (up μ 41 (v7).toNat v4)) else if (μ v1 (v8).toNat) = 24 then gi v7 (lnR 41) (e_X12_valueOf_10 v1 v2 o3 v4 v5 v6 (wr (v7 + 1)) (wr (v8 + (-1))) (some (vI (μ v1 (v8).toNat))) o10 o11 o12 (up μ 41 (v7).toNat v5)) else gi v7 (lnR 41) (e_X12_valueOf_10 v1 v2 o3 v4 v5 v6 (wr (v7 + 1)) (wr (v8 + (-1))) (some (vI (μ v1 (v8).toNat))) o10 o11 o12 (up μ 41 (v7).toNat v6)))) :=
  (Rn_rc kt_X12_valueOf [10, 183] 139 _ _ _ _).trans rfl
set_option maxRecDepth 100000 in
set_option maxHeartbeats 2000000 in
theorem q_X12_valueOf_183 (v1 : Nat) (v2 : Int) (o3 : Option AV) (v4 : Int) (v5 : Int) (v6 : Int) (v7 : Int) (v8 : Int) (o9 : Option AV) (v10 : Int) (v11 : Int) (o12 : Option AV) (s0 : Int) (μ : Mem) : e_X12_valueOf_183 v1 v2 o3 v4 v5 v6 v7 v8 o9 v10 v11 o12 s0 μ = (gi v10 (lnR 2) (gi (wr ((wr ((wr (9 * v10)) + (wr (3 * v11)))) + s0)) (lnR 40) (gi (wr ((wr (v7 - (wr ((μ 2 (v10).toNat) - 1)))) - 1)) (lnR 41) (e_X12_valueOf_10 v1 v2 o3 v4 v5 v6 (wr (v7 - (wr ((μ 2 (v10).toNat) - 1)))) (wr (v8 + (-1))) o9 (some (vI v10)) (some (vI v11)) (some (vI s0)) (up μ 41 (wr ((wr (v7 - (wr ((μ 2 (v10).toNat) - 1)))) - 1)).toNat (μ 40 (wr ((wr ((wr (9 * v10)) + (wr (3 * v11)))) + s0)).toNat)))))) :=
  (Rn_rc kt_X12_valueOf [10, 183] 139 _ _ _ _).trans rfl
noncomputable def e_X12_world_19 (v1 : Int) (o2 : Option AV) (v3 : Int) (v4 : Int) (o5 : Option AV) (o6 : Option AV) (μ : Mem) : Option Rs := Rn kc_X12_world 19 [some (vR 12 0), some (vI v1), o2, some (vI v3), some (vI v4), o5, o6] [] μ
noncomputable def e_X12_world_50 (v1 : Int) (o2 : Option AV) (o3 : Option AV) (v4 : Int) (o5 : Option AV) (o6 : Option AV) (μ : Mem) : Option Rs := Rn kc_X12_world 50 [some (vR 12 0), some (vI v1), o2, o3, some (vI v4), o5, o6] [] μ
noncomputable def e_X12_world_62 (v1 : Int) (o2 : Option AV) (o3 : Option AV) (v4 : Int) (v5 : Int) (o6 : Option AV) (μ : Mem) : Option Rs := Rn kc_X12_world 62 [some (vR 12 0), some (vI v1), o2, o3, some (vI v4), some (vI v5), o6] [] μ
noncomputable def e_X12_world_71 (v1 : Int) (o2 : Option AV) (o3 : Option AV) (v4 : Int) (v5 : Int) (v6 : Int) (μ : Mem) : Option Rs := Rn kc_X12_world 71 [some (vR 12 0), some (vI v1), o2, o3, some (vI v4), some (vI v5), some (vI v6)] [] μ
set_option maxRecDepth 100000 in
set_option maxHeartbeats 2000000 in
theorem q_X12_world (v1 : Int) (v2 : Int) (μ : Mem) : f_X12_world [vR 12 0, vI v1, vI v2] μ = (gn v1 (gn v1 (e_X12_world_19 v1 (some (vI v2)) (bDiv v2 v1) 0 none none (up (up μ 0 63 v1) 0 64 (bRem v2 v1))))) :=
  show Rn kc_X12_world 0 [some (vR 12 0), some (vI v1), some (vI v2), none, none, none, none] [] μ = _ from (Rn_rc kt_X12_world [19, 50, 62, 71] 86 _ _ _ _).trans rfl
set_option maxRecDepth 100000 in
set_option maxHeartbeats 2000000 in
theorem q_X12_world_19 (v1 : Int) (o2 : Option AV) (v3 : Int) (v4 : Int) (o5 : Option AV) (o6 : Option AV) (μ : Mem) : e_X12_world_19 v1 o2 v3 v4 o5 o6 μ = (if v4 < (wr (v1 * v1)) then gn v1 (gi v4 (lnR 39) (gn v1 (e_X12_world_19 v1 (kl o2) (bDiv v3 v1) (wr (v4 + 1)) o5 o6 (up μ 39 (v4).toNat (bRem v3 v1))))) else e_X12_world_50 v1 o2 (some (vI v3)) 0 o5 o6 μ) :=
  (Rn_rc kt_X12_world [19, 50, 62, 71] 86 _ _ _ _).trans rfl
set_option maxRecDepth 100000 in
set_option maxHeartbeats 2000000 in
theorem q_X12_world_50 (v1 : Int) (o2 : Option AV) (o3 : Option AV) (v4 : Int) (o5 : Option AV) (o6 : Option AV) (μ : Mem) : e_X12_world_50 v1 o2 o3 v4 o5 o6 μ = (if v4 < (μ 0 0) then e_X12_world_62 v1 o2 o3 v4 0 o6 μ else some (none, μ)) :=
  (Rn_rc kt_X12_world [19, 50, 62, 71] 86 _ _ _ _).trans rfl
set_option maxRecDepth 100000 in
set_option maxHeartbeats 2000000 in
theorem q_X12_world_62 (v1 : Int) (o2 : Option AV) (o3 : Option AV) (v4 : Int) (v5 : Int) (o6 : Option AV) (μ : Mem) : e_X12_world_62 v1 o2 o3 v4 v5 o6 μ = (if v5 < v1 then e_X12_world_71 v1 o2 o3 v4 v5 0 μ else e_X12_world_50 v1 o2 (kl o3) (wr (v4 + 1)) (some (vI v5)) o6 μ) :=
  (Rn_rc kt_X12_world [19, 50, 62, 71] 86 _ _ _ _).trans rfl
set_option maxRecDepth 100000 in
set_option maxHeartbeats 2000000 in
theorem q_X12_world_71 (v1 : Int) (o2 : Option AV) (o3 : Option AV) (v4 : Int) (v5 : Int) (v6 : Int) (μ : Mem) : e_X12_world_71 v1 o2 o3 v4 v5 v6 μ = (if v6 < v1 then gi v4 (lnR 3) (cI (f_X12_valueOf [vR 12 0, vR 20 4, vI (wr (20 * v4)), vI (μ 3 (v4).toNat), vI v5, vI v6, vI 0] μ) (fun x2 μ1 => gi (wr ((wr ((wr (9 * v4)) + (wr (3 * v5)))) + v6)) (lnR 40) (e_X12_world_71 v1 o2 o3 v4 v5 (wr (v6 + 1)) (up μ1 40 (wr ((wr ((wr (9 * v4)) + (wr (3 * v5)))) + v6)).toNat x2)))) else e_X12_world_62 v1 o2 o3 v4 (wr (v5 + 1)) (some (vI v6)) μ) :=
  (Rn_rc kt_X12_world [19, 50, 62, 71] 86 _ _ _ _).trans rfl
noncomputable def e_X12_holdsNow_4 (v1 : Int) (v2 : Int) (v3 : Int) (o4 : Option AV) (o5 : Option AV) (o6 : Option AV) (o7 : Option AV) (μ : Mem) : Option Rs := Rn kc_X12_holdsNow 4 [some (vR 12 0), some (vI v1), some (vI v2), some (vI v3), o4, o5, o6, o7] [] μ
set_option maxRecDepth 100000 in
set_option maxHeartbeats 2000000 in
theorem q_X12_holdsNow (v1 : Int) (μ : Mem) : f_X12_holdsNow [vR 12 0, vI v1] μ = (e_X12_holdsNow_4 v1 1 0 none none none none μ) :=
  show Rn kc_X12_holdsNow 0 [some (vR 12 0), some (vI v1), none, none, none, none, none, none] [] μ = _ from (Rn_rc kt_X12_holdsNow [4] 89 _ _ _ _).trans rfl
set_option maxRecDepth 100000 in
set_option maxHeartbeats 2000000 in
theorem q_X12_holdsNow_4 (v1 : Int) (v2 : Int) (v3 : Int) (o4 : Option AV) (o5 : Option AV) (o6 : Option AV) (o7 : Option AV) (μ : Mem) : e_X12_holdsNow_4 v1 v2 v3 o4 o5 o6 o7 μ = (if v3 < (wr ((wr ((μ 0 63) * (μ 0 63))) * (μ 0 63))) then if v2 = 0 then gz v2 (some (some (vI v2), μ)) else gn (μ 0 63) (gn (μ 0 63) (gn (μ 0 63) (gn (μ 0 63) (gn (μ 0 63) (gi (wr (2 * v1)) (lnR 6) (cI (f_X12_valueOf [vR 12 0, vR 20 5, vI (wr (40 * v1)), vI (μ 6 (wr (2 * v1)).toNat), vI (bRem v3 (μ 0 63)), vI (bRem (bDiv v3 (μ 0 63)) (μ 0 63)), vI (bDiv (bDiv v3 (μ 0 63)) (μ 0 63))] μ) (fun x2 μ1 => gi (wr ((wr (2 * v1)) + 1)) (lnR 6) (cI (f_X12_valueOf [vR 12 0, vR 20 5, vI (wr ((wr (40 * v1)) + 20)), vI (μ1 6 (wr ((wr (2 * v1)) + 1)).toNat), vI (bRem v3 (μ 0 63)), vI (bRem (bDiv v3 (μ 0 63)) (μ 0 63)), vI (bDiv (bDiv v3 (μ 0 63)) (μ 0 63))] μ1) (fun x4 μ3 => if x2 = x4 then e_X12_holdsNow_4 v1 1 (wr (v3 + 1)) (some (vI (bRem v3 (μ 0 63)))) (some (vI (bRem (bDiv v3 (μ 0 63)) (μ 0 63)))) (some (vI (bDiv (bDiv v3 (μ 0 63)) (μ 0 63)))) (some (vI x2)) μ3 else e_X12_holdsNow_4 v1 0 (wr (v3 + 1)) (some (vI (bRem v3 (μ 0 63)))) (some (vI (bRem (bDiv v3 (μ 0 63)) (μ 0 63)))) (some (vI (bDiv (bDiv v3 (μ 0 63)) (μ 0 63)))) (some (vI x2)) μ3))))))))) else gz v2 (some (some (vI v2), μ))) :=
  (Rn_rc kt_X12_holdsNow [4] 89 _ _ _ _).trans rfl
set_option maxRecDepth 100000 in
set_option maxHeartbeats 2000000 in
theorem q_X12_holds (v1 : Int) (v2 : Int) (v3 : Int) (μ : Mem) : f_X12_holds [vR 12 0, vI v1, vI v2, vI v3] μ = (cI (f_X12_isSaying [vR 12 0, vI v1] μ) (fun x2 μ1 => if x2 = 0 then some (some (vI (-1)), μ1) else cI (f_X12_in [vL v2, vL 1, vL 3] μ1) (fun x4 μ3 => if x4 = 0 then some (some (vI (-1)), μ3) else cI (f_X12_worldsOf [vI v2] μ3) (fun x6 μ5 => cI (f_X12_in [vL v3, vL 0, vL (wr (x6 - 1))] μ5) (fun x8 μ7 => if x8 = 0 then some (some (vI (-1)), μ7) else cV (f_X12_world [vR 12 0, vI v2, vI v3] μ7) (fun μ9 => cI (f_X12_holdsNow [vR 12 0, vI v1] μ9) (fun x11 μ10 => if x11 = 0 then some (some (vI 0), μ10) else some (some (vI 1), μ10)))))))) :=
  show Rn kc_X12_holds 0 [some (vR 12 0), some (vI v1), some (vI v2), some (vI v3)] [] μ = _ from (Rn_rc kt_X12_holds [] 39 _ _ _ _).trans rfl
noncomputable def e_X12_allHold_11 (o1 : Option AV) (o2 : Option AV) (v3 : Int) (v4 : Int) (μ : Mem) : Option Rs := Rn kc_X12_allHold 11 [some (vR 12 0), o1, o2, some (vI v3), some (vI v4)] [] μ
set_option maxRecDepth 100000 in
set_option maxHeartbeats 2000000 in
theorem q_X12_allHold (v1 : Int) (v2 : Int) (μ : Mem) : f_X12_allHold [vR 12 0, vI v1, vI v2] μ = (cV (f_X12_world [vR 12 0, vI v1, vI v2] μ) (fun μ1 => e_X12_allHold_11 (some (vI v1)) (some (vI v2)) 1 0 μ1)) :=
  show Rn kc_X12_allHold 0 [some (vR 12 0), some (vI v1), some (vI v2), none, none] [] μ = _ from (Rn_rc kt_X12_allHold [11] 36 _ _ _ _).trans rfl
set_option maxRecDepth 100000 in
set_option maxHeartbeats 2000000 in
theorem q_X12_allHold_11 (o1 : Option AV) (o2 : Option AV) (v3 : Int) (v4 : Int) (μ : Mem) : e_X12_allHold_11 o1 o2 v3 v4 μ = (if v4 < (μ 0 5) then if v3 = 0 then gz v3 (some (some (vI v3), μ)) else gi v4 (lnR 7) (if (μ 7 (v4).toNat) = 0 then cI (f_X12_holdsNow [vR 12 0, vI v4] μ) (fun x2 μ1 => if x2 = 0 then e_X12_allHold_11 o1 (kl o2) 0 (wr (v4 + 1)) μ1 else e_X12_allHold_11 o1 (kl o2) 1 (wr (v4 + 1)) μ1) else e_X12_allHold_11 o1 (kl o2) 1 (wr (v4 + 1)) μ) else gz v3 (some (some (vI v3), μ))) :=
  (Rn_rc kt_X12_allHold [11] 36 _ _ _ _).trans rfl
set_option maxRecDepth 100000 in
set_option maxHeartbeats 2000000 in
theorem q_X12_isGood (v1 : Int) (v2 : Int) (μ : Mem) : f_X12_isGood [vR 12 0, vI v1, vI v2] μ = (if v1 = 1 then gi v2 (lnR 42) (gz (μ 42 (v2).toNat) (some (some (vI (μ 42 (v2).toNat)), μ))) else gi v2 (lnR 43) (gz (μ 43 (v2).toNat) (some (some (vI (μ 43 (v2).toNat)), μ)))) :=
  show Rn kc_X12_isGood 0 [some (vR 12 0), some (vI v1), some (vI v2)] [] μ = _ from (Rn_rc kt_X12_isGood [] 18 _ _ _ _).trans rfl
noncomputable def e_X12_weighs_27 (v1 : Int) (μ : Mem) : Option Rs := Rn kc_X12_weighs 27 [some (vR 12 0), some (vI v1)] [] μ
set_option maxRecDepth 100000 in
set_option maxHeartbeats 2000000 in
theorem q_X12_weighs  (μ : Mem) : f_X12_weighs [vR 12 0] μ = (if (μ 0 68) = 0 then gz 1 (cI (f_X12_allHold [vR 12 0, vI 1, vI 0] (up μ 0 68 1)) (fun x2 μ1 => gi 0 (lnR 42) (e_X12_weighs_27 0 (up μ1 42 (0 : Int).toNat (wZ x2))))) else some (none, μ)) :=
  show Rn kc_X12_weighs 0 [some (vR 12 0), none] [] μ = _ from (Rn_rc kt_X12_weighs [27] 36 _ _ _ _).trans rfl
set_option maxRecDepth 100000 in
set_option maxHeartbeats 2000000 in
theorem q_X12_weighs_27 (v1 : Int) (μ : Mem) : e_X12_weighs_27 v1 μ = (if v1 < 32 then cI (f_X12_allHold [vR 12 0, vI 2, vI v1] μ) (fun x2 μ1 => gi v1 (lnR 43) (e_X12_weighs_27 (wr (v1 + 1)) (up μ1 43 (v1).toNat (wZ x2)))) else some (none, μ)) :=
  (Rn_rc kt_X12_weighs [27] 36 _ _ _ _).trans rfl
noncomputable def e_X12_worlds_37 (v1 : Int) (v2 : Int) (v3 : Int) (v4 : Int) (v5 : Int) (μ : Mem) : Option Rs := Rn kc_X12_worlds 37 [some (vR 12 0), some (vI v1), some (vI v2), some (vI v3), some (vI v4), some (vI v5)] [] μ
set_option maxRecDepth 100000 in
set_option maxHeartbeats 2000000 in
theorem q_X12_worlds (v1 : Int) (v2 : Int) (μ : Mem) : f_X12_worlds [vR 12 0, vI v1, vI v2] μ = (cI (f_X12_in [vL v1, vL 1, vL 2] μ) (fun x2 μ1 => if x2 = 0 then some (some (vI (-1)), μ1) else cI (f_X12_in [vL v2, vL 0, vL 1] μ1) (fun x4 μ3 => if x4 = 0 then some (some (vI (-1)), μ3) else cV (f_X12_weighs [vR 12 0] μ3) (fun μ5 => e_X12_worlds_37 v1 v2 0 (-4) 0 μ5)))) :=
  show Rn kc_X12_worlds 0 [some (vR 12 0), some (vI v1), some (vI v2), none, none, none] [] μ = _ from (Rn_rc kt_X12_worlds [37] 62 _ _ _ _).trans rfl
set_option maxRecDepth 100000 in
set_option maxHeartbeats 2000000 in
theorem q_X12_worlds_37 (v1 : Int) (v2 : Int) (v3 : Int) (v4 : Int) (v5 : Int) (μ : Mem) : e_X12_worlds_37 v1 v2 v3 v4 v5 μ = (cI (f_X12_worldsOf [vI v1] μ) (fun x2 μ1 => if v5 < x2 then cI (f_X12_isGood [vR 12 0, vI v1, vI v5] μ1) (fun x4 μ3 => if x4 = 0 then cI (f_X12_isGood [vR 12 0, vI v1, vI v5] μ3) (fun x6 μ5 => if x6 = 0 then e_X12_worlds_37 v1 v2 (wr (v3 + 0)) v4 (wr (v5 + 1)) μ5 else if v4 = (-4) then e_X12_worlds_37 v1 v2 (wr (v3 + 0)) v5 (wr (v5 + 1)) μ5 else e_X12_worlds_37 v1 v2 (wr (v3 + 0)) v4 (wr (v5 + 1)) μ5) else cI (f_X12_isGood [vR 12 0, vI v1, vI v5] μ3) (fun x8 μ7 => if x8 = 0 then e_X12_worlds_37 v1 v2 (wr (v3 + 1)) v4 (wr (v5 + 1)) μ7 else if v4 = (-4) then e_X12_worlds_37 v1 v2 (wr (v3 + 1)) v5 (wr (v5 + 1)) μ7 else e_X12_worlds_37 v1 v2 (wr (v3 + 1)) v4 (wr (v5 + 1)) μ7)) else if v2 = 0 then some (some (vI v3), μ1) else some (some (vI v4), μ1))) :=
  (Rn_rc kt_X12_worlds [37] 62 _ _ _ _).trans rfl
noncomputable def e_X12_denied_28 (v1 : Int) (v2 : Int) (v3 : Int) (μ : Mem) : Option Rs := Rn kc_X12_denied 28 [some (vR 12 0), some (vI v1), some (vI v2), some (vI v3)] [] μ
set_option maxRecDepth 100000 in
set_option maxHeartbeats 2000000 in
theorem q_X12_denied (v1 : Int) (v2 : Int) (μ : Mem) : f_X12_denied [vR 12 0, vI v1, vI v2] μ = (cI (f_X12_isSaying [vR 12 0, vI v1] μ) (fun x2 μ1 => if x2 = 0 then some (some (vI (-1)), μ1) else cI (f_X12_in [vL v2, vL 1, vL 2] μ1) (fun x4 μ3 => if x4 = 0 then some (some (vI (-1)), μ3) else cV (f_X12_weighs [vR 12 0] μ3) (fun μ5 => e_X12_denied_28 v1 v2 0 μ5)))) :=
  show Rn kc_X12_denied 0 [some (vR 12 0), some (vI v1), some (vI v2), none] [] μ = _ from (Rn_rc kt_X12_denied [28] 44 _ _ _ _).trans rfl
set_option maxRecDepth 100000 in
set_option maxHeartbeats 2000000 in
theorem q_X12_denied_28 (v1 : Int) (v2 : Int) (v3 : Int) (μ : Mem) : e_X12_denied_28 v1 v2 v3 μ = (cI (f_X12_worldsOf [vI v2] μ) (fun x2 μ1 => if v3 < x2 then cI (f_X12_isGood [vR 12 0, vI v2, vI v3] μ1) (fun x4 μ3 => if x4 = 0 then e_X12_denied_28 v1 v2 (wr (v3 + 1)) μ3 else cV (f_X12_world [vR 12 0, vI v2, vI v3] μ3) (fun μ5 => cI (f_X12_holdsNow [vR 12 0, vI v1] μ5) (fun x7 μ6 => if x7 = 0 then some (some (vI v3), μ6) else e_X12_denied_28 v1 v2 (wr (v3 + 1)) μ6))) else some (some (vI (-4)), μ1))) :=
  (Rn_rc kt_X12_denied [28] 44 _ _ _ _).trans rfl
set_option maxRecDepth 100000 in
set_option maxHeartbeats 2000000 in
theorem q_X12_builds (v1 : Int) (μ : Mem) : f_X12_builds [vR 12 0, vI v1] μ = (if (μ 0 76) < 200 then gi (μ 0 76) (lnR 47) (some (none, up (up μ 47 (μ 0 76).toNat v1) 0 76 (wr (((up μ 47 (μ 0 76).toNat v1) 0 76) + 1)))) else some (none, up μ 0 76 (wr ((μ 0 76) + 1)))) :=
  show Rn kc_X12_builds 0 [some (vR 12 0), some (vI v1)] [] μ = _ from (Rn_rc kt_X12_builds [] 22 _ _ _ _).trans rfl
noncomputable def e_X12_firstWord_2 (v1 : Int) (μ : Mem) : Option Rs := Rn kc_X12_firstWord 2 [some (vR 12 0), some (vI v1)] [] μ
set_option maxRecDepth 100000 in
set_option maxHeartbeats 2000000 in
theorem q_X12_firstWord  (μ : Mem) : f_X12_firstWord [vR 12 0] μ = (e_X12_firstWord_2 0 μ) :=
  show Rn kc_X12_firstWord 0 [some (vR 12 0), none] [] μ = _ from (Rn_rc kt_X12_firstWord [2] 28 _ _ _ _).trans rfl
set_option maxRecDepth 100000 in
set_option maxHeartbeats 2000000 in
theorem q_X12_firstWord_2 (v1 : Int) (μ : Mem) : e_X12_firstWord_2 v1 μ = (if v1 < (μ 0 74) then gi v1 (lnR 46) (if (μ 46 (v1).toNat) = 12 then e_X12_firstWord_2 (wr (v1 + 1)) μ else gi v1 (lnR 46) (cI (f_X12_has [vR 12 0, vI (μ 46 (v1).toNat)] μ) (fun x2 μ1 => if x2 = 0 then e_X12_firstWord_2 (wr (v1 + 1)) μ1 else some (some (vI v1), μ1)))) else some (some (vI v1), μ)) :=
  (Rn_rc kt_X12_firstWord [2] 28 _ _ _ _).trans rfl
noncomputable def e_X12_putsIn_69 (v1 : Int) (v2 : Int) (v3 : Int) (v4 : Int) (v5 : Int) (v6 : Int) (o7 : Option AV) (o8 : Option AV) (μ : Mem) : Option Rs := Rn kc_X12_putsIn 69 [some (vR 12 0), some (vI v1), some (vI v2), some (vI v3), some (vI v4), some (vI v5), some (vI v6), o7, o8] [] μ
noncomputable def e_X12_putsIn_95 (o1 : Option AV) (v2 : Int) (v3 : Int) (v4 : Int) (v5 : Int) (v6 : Int) (o7 : Option AV) (o8 : Option AV) (μ : Mem) : Option Rs := Rn kc_X12_putsIn 95 [some (vR 12 0), o1, some (vI v2), some (vI v3), some (vI v4), some (vI v5), some (vI v6), o7, o8] [] μ
noncomputable def e_X12_putsIn_148 (o1 : Option AV) (v2 : Int) (v3 : Int) (v4 : Int) (v5 : Int) (v6 : Int) (v7 : Int) (v8 : Int) (μ : Mem) : Option Rs := Rn kc_X12_putsIn 148 [some (vR 12 0), o1, some (vI v2), some (vI v3), some (vI v4), some (vI v5), some (vI v6), some (vI v7), some (vI v8)] [] μ
noncomputable def e_X12_putsIn_201 (o1 : Option AV) (o2 : Option AV) (o3 : Option AV) (o4 : Option AV) (o5 : Option AV) (v6 : Int) (o7 : Option AV) (o8 : Option AV) (μ : Mem) : Option Rs := Rn kc_X12_putsIn 201 [some (vR 12 0), o1, o2, o3, o4, o5, some (vI v6), o7, o8] [] μ
noncomputable def e_X12_putsIn_238 (o1 : Option AV) (o2 : Option AV) (o3 : Option AV) (o4 : Option AV) (o5 : Option AV) (v6 : Int) (o7 : Option AV) (o8 : Option AV) (μ : Mem) : Option Rs := Rn kc_X12_putsIn 238 [some (vR 12 0), o1, o2, o3, o4, o5, some (vI v6), o7, o8] [] μ
set_option maxRecDepth 100000 in
set_option maxHeartbeats 2000000 in
theorem q_X12_putsIn (v1 : Int) (μ : Mem) : f_X12_putsIn [vR 12 0, vI v1] μ = (gi v1 (lnR 46) (cI (f_X12_wordBy [vR 12 0, vI (μ 46 (v1).toNat)] μ) (fun x2 μ1 => cI (f_X12_endAt [vR 12 0, vR 20 46, vI (wr (v1 + 1)), vI (μ1 0 74)] μ1) (fun x4 μ3 => gi x2 (lnR 2) (if (μ3 2 (x2).toNat) = 2 then cI (f_X12_endAt [vR 12 0, vR 20 46, vI x4, vI (μ3 0 74)] μ3) (fun x6 μ5 => e_X12_putsIn_69 v1 x2 (wr (v1 + 1)) x4 x6 0 none none (up μ5 0 76 0)) else e_X12_putsIn_69 v1 x2 (wr (v1 + 1)) x4 x4 0 none none (up μ3 0 76 0)))))) :=
  show Rn kc_X12_putsIn 0 [some (vR 12 0), some (vI v1), none, none, none, none, none, none, none] [] μ = _ from (Rn_rc kt_X12_putsIn [69, 95, 148, 201, 238] 145 _ _ _ _).trans rfl
set_option maxRecDepth 100000 in
set_option maxHeartbeats 2000000 in
theorem q_X12_putsIn_69 (v1 : Int) (v2 : Int) (v3 : Int) (v4 : Int) (v5 : Int) (v6 : Int) (o7 : Option AV) (o8 : Option AV) (μ : Mem) : e_X12_putsIn_69 v1 v2 v3 v4 v5 v6 o7 o8 μ = (if v6 < v1 then gi v6 (lnR 46) (cV (f_X12_builds [vR 12 0, vI (μ 46 (v6).toNat)] μ) (fun μ1 => e_X12_putsIn_69 v1 v2 v3 v4 v5 (wr (v6 + 1)) o7 o8 μ1)) else e_X12_putsIn_95 (some (vI v1)) v2 v3 v4 v5 0 o7 o8 μ) :=
  (Rn_rc kt_X12_putsIn [69, 95, 148, 201, 238] 145 _ _ _ _).trans rfl
set_option maxRecDepth 100000 in
set_option maxHeartbeats 2000000 in
theorem q_X12_putsIn_95 (o1 : Option AV) (v2 : Int) (v3 : Int) (v4 : Int) (v5 : Int) (v6 : Int) (o7 : Option AV) (o8 : Option AV) (μ : Mem) : e_X12_putsIn_95 o1 v2 v3 v4 v5 v6 o7 o8 μ = (gi v2 (lnR 3) (if v6 < (μ 3 (v2).toNat) then gi (wr ((wr (20 * v2)) + v6)) (lnR 4) (if (μ 4 (wr ((wr (20 * v2)) + v6)).toNat) < 23 then cV (f_X12_builds [vR 12 0, vI (μ 4 (wr ((wr (20 * v2)) + v6)).toNat)] μ) (fun μ1 => if (μ 4 (wr ((wr (20 * v2)) + v6)).toNat) = 23 then e_X12_putsIn_148 o1 v2 v3 v4 v5 v6 (μ 4 (wr ((wr (20 * v2)) + v6)).toNat) v3 μ1 else e_X12_putsIn_148 o1 v2 v3 v4 v5 v6 (μ 4 (wr ((wr (20 * v2)) + v6)).toNat) v4 μ1) else if (μ 4 (wr ((wr (20 * v2)) + v6)).toNat) = 23 then e_X12_putsIn_148 o1 v2 v3 v4 v5 v6 (μ 4 (wr ((wr (20 * v2)) + v6)).toNat) v3 μ else e_X12_putsIn_148 o1 v2 v3 v4 v5 v6 (μ 4 (wr ((wr (20 * v2)) + v6)).toNat) v4 μ) else e_X12_putsIn_201 o1 (some (vI v2)) (some (vI v3)) (some (vI v4)) (some (vI v5)) v5 o7 o8 μ)) :=
  (Rn_rc kt_X12_putsIn [69, 95, 148, 201, 238] 145 _ _ _ _).trans rfl
set_option maxRecDepth 100000 in
set_option maxHeartbeats 2000000 in
theorem q_X12_putsIn_148 (o1 : Option AV) (v2 : Int) (v3 : Int) (v4 : Int) (v5 : Int) (v6 : Int) (v7 : Int) (v8 : Int) (μ : Mem) : e_X12_putsIn_148 o1 v2 v3 v4 v5 v6 v7 v8 μ = (if v7 < 23 then e_X12_putsIn_95 o1 v2 v3 v4 v5 (wr (v6 + 1)) (some (vI v7)) (some (vI v8)) μ else if v7 = 23 then if v8 < v4 then gi v8 (lnR 46) (cV (f_X12_builds [vR 12 0, vI (μ 46 (v8).toNat)] μ) (fun μ2 => e_X12_putsIn_148 o1 v2 v3 v4 v5 v6 v7 (wr (v8 + 1)) μ2)) else e_X12_putsIn_95 o1 v2 v3 v4 v5 (wr (v6 + 1)) (some (vI v7)) (some (vI v8)) μ else if v8 < v5 then gi v8 (lnR 46) (cV (f_X12_builds [vR 12 0, vI (μ 46 (v8).toNat)] μ) (fun μ1 => e_X12_putsIn_148 o1 v2 v3 v4 v5 v6 v7 (wr (v8 + 1)) μ1)) else e_X12_putsIn_95 o1 v2 v3 v4 v5 (wr (v6 + 1)) (some (vI v7)) (some (vI v8)) μ) :=
  (Rn_rc kt_X12_putsIn [69, 95, 148, 201, 238] 145 _ _ _ _).trans rfl
set_option maxRecDepth 100000 in
set_option maxHeartbeats 2000000 in
theorem q_X12_putsIn_201 (o1 : Option AV) (o2 : Option AV) (o3 : Option AV) (o4 : Option AV) (o5 : Option AV) (v6 : Int) (o7 : Option AV) (o8 : Option AV) (μ : Mem) : e_X12_putsIn_201 o1 o2 o3 o4 o5 v6 o7 o8 μ = (if v6 < (μ 0 74) then gi v6 (lnR 46) (cV (f_X12_builds [vR 12 0, vI (μ 46 (v6).toNat)] μ) (fun μ1 => e_X12_putsIn_201 o1 o2 o3 o4 (kl o5) (wr (v6 + 1)) o7 o8 μ1)) else e_X12_putsIn_238 o1 o2 o3 o4 (kl o5) 0 o7 o8 (up μ 0 74 (μ 0 76))) :=
  (Rn_rc kt_X12_putsIn [69, 95, 148, 201, 238] 145 _ _ _ _).trans rfl
set_option maxRecDepth 100000 in
set_option maxHeartbeats 2000000 in
theorem q_X12_putsIn_238 (o1 : Option AV) (o2 : Option AV) (o3 : Option AV) (o4 : Option AV) (o5 : Option AV) (v6 : Int) (o7 : Option AV) (o8 : Option AV) (μ : Mem) : e_X12_putsIn_238 o1 o2 o3 o4 o5 v6 o7 o8 μ = (if v6 < (μ 0 76) then if v6 < 200 then gi v6 (lnR 47) (gi v6 (lnR 46) (e_X12_putsIn_238 o1 o2 o3 o4 (kl o5) (wr (v6 + 1)) o7 o8 (up μ 46 (v6).toNat (μ 47 (v6).toNat)))) else some (none, μ) else some (none, μ)) :=
  (Rn_rc kt_X12_putsIn [69, 95, 148, 201, 238] 145 _ _ _ _).trans rfl
noncomputable def e_X12_widens_17 (v1 : Int) (v2 : Int) (v3 : Int) (v4 : Int) (v5 : Int) (o6 : Option AV) (μ : Mem) : Option Rs := Rn kc_X12_widens 17 [some (vR 12 0), some (vI v1), some (vI v2), some (vI v3), some (vI v4), some (vI v5), o6] [] μ
noncomputable def e_X12_widens_77 (v1 : Int) (o2 : Option AV) (o3 : Option AV) (o4 : Option AV) (v5 : Int) (v6 : Int) (μ : Mem) : Option Rs := Rn kc_X12_widens 77 [some (vR 12 0), some (vI v1), o2, o3, o4, some (vI v5), some (vI v6)] [] μ
noncomputable def e_X12_widens_157 (v1 : Int) (o2 : Option AV) (o3 : Option AV) (o4 : Option AV) (o5 : Option AV) (v6 : Int) (μ : Mem) : Option Rs := Rn kc_X12_widens 157 [some (vR 12 0), some (vI v1), o2, o3, o4, o5, some (vI v6)] [] μ
set_option maxRecDepth 100000 in
set_option maxHeartbeats 2000000 in
theorem q_X12_widens (v1 : Int) (v2 : Int) (v3 : Int) (v4 : Int) (μ : Mem) : f_X12_widens [vR 12 0, vI v1, vI v2, vI v3, vI v4] μ = (gi (wr ((wr (2 * v2)) + v3)) (lnR 6) (e_X12_widens_17 v1 v2 v3 v4 0 none (up μ 0 74 (μ 6 (wr ((wr (2 * v2)) + v3)).toNat)))) :=
  show Rn kc_X12_widens 0 [some (vR 12 0), some (vI v1), some (vI v2), some (vI v3), some (vI v4), none, none] [] μ = _ from (Rn_rc kt_X12_widens [17, 77, 157] 107 _ _ _ _).trans rfl
set_option maxRecDepth 100000 in
set_option maxHeartbeats 2000000 in
theorem q_X12_widens_17 (v1 : Int) (v2 : Int) (v3 : Int) (v4 : Int) (v5 : Int) (o6 : Option AV) (μ : Mem) : e_X12_widens_17 v1 v2 v3 v4 v5 o6 μ = (if v5 < (μ 0 74) then gi (wr ((wr ((wr (40 * v2)) + (wr (20 * v3)))) + v5)) (lnR 5) (gi v5 (lnR 46) (e_X12_widens_17 v1 v2 v3 v4 (wr (v5 + 1)) o6 (up μ 46 (v5).toNat (μ 5 (wr ((wr ((wr (40 * v2)) + (wr (20 * v3)))) + v5)).toNat)))) else if v4 = 0 then e_X12_widens_77 v1 (some (vI v2)) (some (vI v3)) (some (vI v4)) (μ 0 74) 0 μ else cI (f_X12_firstWord [vR 12 0] μ) (fun x2 μ1 => e_X12_widens_77 v1 (some (vI v2)) (some (vI v3)) (some (vI v4)) x2 0 μ1)) :=
  (Rn_rc kt_X12_widens [17, 77, 157] 107 _ _ _ _).trans rfl
set_option maxRecDepth 100000 in
set_option maxHeartbeats 2000000 in
theorem q_X12_widens_77 (v1 : Int) (o2 : Option AV) (o3 : Option AV) (o4 : Option AV) (v5 : Int) (v6 : Int) (μ : Mem) : e_X12_widens_77 v1 o2 o3 o4 v5 v6 μ = (if v6 < 400 then if v5 < (μ 0 74) then cV (f_X12_putsIn [vR 12 0, vI v5] μ) (fun μ1 => if (μ1 0 74) ≤ 200 then cI (f_X12_firstWord [vR 12 0] μ1) (fun x3 μ2 => e_X12_widens_77 v1 o2 o3 (kl o4) x3 (wr (v6 + 1)) μ2) else e_X12_widens_77 v1 o2 o3 (kl o4) (μ1 0 74) (wr (v6 + 1)) μ1) else if v5 < (μ 0 74) then gi v1 (lnR 45) (e_X12_widens_157 v1 o2 o3 o4 (some (vI v5)) 0 (up μ 45 (v1).toNat 201)) else gi v1 (lnR 45) (e_X12_widens_157 v1 o2 o3 o4 (some (vI v5)) 0 (up μ 45 (v1).toNat (μ 0 74))) else if v5 < (μ 0 74) then gi v1 (lnR 45) (e_X12_widens_157 v1 o2 o3 o4 (some (vI v5)) 0 (up μ 45 (v1).toNat 201)) else gi v1 (lnR 45) (e_X12_widens_157 v1 o2 o3 o4 (some (vI v5)) 0 (up μ 45 (v1).toNat (μ 0 74)))) :=
  (Rn_rc kt_X12_widens [17, 77, 157] 107 _ _ _ _).trans rfl
set_option maxRecDepth 100000 in
set_option maxHeartbeats 2000000 in
theorem q_X12_widens_157 (v1 : Int) (o2 : Option AV) (o3 : Option AV) (o4 : Option AV) (o5 : Option AV) (v6 : Int) (μ : Mem) : e_X12_widens_157 v1 o2 o3 o4 o5 v6 μ = (if v6 < (μ 0 74) then if v6 < 200 then gi v6 (lnR 46) (gi (wr ((wr (200 * v1)) + v6)) (lnR 44) (e_X12_widens_157 v1 o2 o3 o4 (kl o5) (wr (v6 + 1)) (up μ 44 (wr ((wr (200 * v1)) + v6)).toNat (μ 46 (v6).toNat)))) else some (none, μ) else some (none, μ)) :=
  (Rn_rc kt_X12_widens [17, 77, 157] 107 _ _ _ _).trans rfl
noncomputable def e_X12_isLess_3 (v1 : Int) (v2 : Int) (v3 : Int) (v4 : Int) (v5 : Int) (μ : Mem) : Option Rs := Rn kc_X12_isLess 3 [some (vR 12 0), some (vI v1), some (vI v2), some (vI v3), some (vI v4), some (vI v5)] [] μ
set_option maxRecDepth 100000 in
set_option maxHeartbeats 2000000 in
theorem q_X12_isLess (v1 : Int) (v2 : Int) (v3 : Int) (v4 : Int) (μ : Mem) : f_X12_isLess [vR 12 0, vI v1, vI v2, vI v3, vI v4] μ = (e_X12_isLess_3 v1 v2 v3 v4 0 μ) :=
  show Rn kc_X12_isLess 0 [some (vR 12 0), some (vI v1), some (vI v2), some (vI v3), some (vI v4), none] [] μ = _ from (Rn_rc kt_X12_isLess [3] 51 _ _ _ _).trans rfl
set_option maxRecDepth 100000 in
set_option maxHeartbeats 2000000 in
theorem q_X12_isLess_3 (v1 : Int) (v2 : Int) (v3 : Int) (v4 : Int) (v5 : Int) (μ : Mem) : e_X12_isLess_3 v1 v2 v3 v4 v5 μ = (if v5 < v3 then if v5 < v4 then gi (wr (v1 + v5)) (lnR 48) (gi (wr (v2 + v5)) (lnR 48) (if (μ 48 (wr (v1 + v5)).toNat) = (μ 48 (wr (v2 + v5)).toNat) then e_X12_isLess_3 v1 v2 v3 v4 (wr (v5 + 1)) μ else if v5 < v3 then if v5 < v4 then gi (wr (v2 + v5)) (lnR 48) (gi (wr (v1 + v5)) (lnR 48) (if (μ 48 (wr (v2 + v5)).toNat) < (μ 48 (wr (v1 + v5)).toNat) then gz 1 (some (some (vI 1), μ)) else gz 0 (some (some (vI 0), μ)))) else gz 0 (some (some (vI 0), μ)) else gz 0 (some (some (vI 0), μ)))) else if v5 < v3 then if v5 < v4 then gi (wr (v2 + v5)) (lnR 48) (gi (wr (v1 + v5)) (lnR 48) (if (μ 48 (wr (v2 + v5)).toNat) < (μ 48 (wr (v1 + v5)).toNat) then gz 1 (some (some (vI 1), μ)) else gz 0 (some (some (vI 0), μ)))) else gz 0 (some (some (vI 0), μ)) else gz 0 (some (some (vI 0), μ)) else if v5 < v3 then if v5 < v4 then gi (wr (v2 + v5)) (lnR 48) (gi (wr (v1 + v5)) (lnR 48) (if (μ 48 (wr (v2 + v5)).toNat) < (μ 48 (wr (v1 + v5)).toNat) then gz 1 (some (some (vI 1), μ)) else gz 0 (some (some (vI 0), μ)))) else gz 0 (some (some (vI 0), μ)) else gz 0 (some (some (vI 0), μ))) :=
  (Rn_rc kt_X12_isLess [3] 51 _ _ _ _).trans rfl
set_option maxRecDepth 100000 in
set_option maxHeartbeats 2000000 in
theorem q_X12_renamed (v0 : Int) (v1 : Int) (μ : Mem) : f_X12_renamed [vI v0, vI v1] μ = (gn 2 (gn 2 (if (bRem v1 2) = 0 then gn 3 (if v0 = 0 then some (some (vI (wr (23 + (bDiv v1 2)))), μ) else if v0 = 1 then some (some (vI (wr (23 + (bRem (wr ((bDiv v1 2) + 1)) 3)))), μ) else some (some (vI (wr (23 + (wr ((wr (3 - (bDiv v1 2))) - (bRem (wr ((bDiv v1 2) + 1)) 3)))))), μ)) else gn 3 (if v0 = 0 then some (some (vI (wr (23 + (bDiv v1 2)))), μ) else if v0 = 1 then some (some (vI (wr (23 + (bRem (wr ((bDiv v1 2) + 2)) 3)))), μ) else some (some (vI (wr (23 + (wr ((wr (3 - (bDiv v1 2))) - (bRem (wr ((bDiv v1 2) + 2)) 3)))))), μ))))) :=
  show Rn kc_X12_renamed 0 [some (vI v0), some (vI v1), none, none] [] μ = _ from (Rn_rc kt_X12_renamed [] 42 _ _ _ _).trans rfl
noncomputable def e_X12_tidies_11 (v1 : Int) (v2 : Int) (v3 : Int) (v4 : Int) (v5 : Int) (o6 : Option AV) (o7 : Option AV) (o8 : Option AV) (o9 : Option AV) (μ : Mem) : Option Rs := Rn kc_X12_tidies 11 [some (vR 12 0), some (vI v1), some (vI v2), some (vI v3), some (vI v4), some (vI v5), o6, o7, o8, o9] [] μ
noncomputable def e_X12_tidies_73 (o1 : Option AV) (o2 : Option AV) (v3 : Int) (v4 : Int) (v5 : Int) (o6 : Option AV) (o7 : Option AV) (o8 : Option AV) (o9 : Option AV) (μ : Mem) : Option Rs := Rn kc_X12_tidies 73 [some (vR 12 0), o1, o2, some (vI v3), some (vI v4), some (vI v5), o6, o7, o8, o9] [] μ
noncomputable def e_X12_tidies_153 (o1 : Option AV) (o2 : Option AV) (v3 : Int) (v4 : Int) (v5 : Int) (v6 : Int) (v7 : Int) (v8 : Int) (v9 : Int) (μ : Mem) : Option Rs := Rn kc_X12_tidies 153 [some (vR 12 0), o1, o2, some (vI v3), some (vI v4), some (vI v5), some (vI v6), some (vI v7), some (vI v8), some (vI v9)] [] μ
noncomputable def e_X12_tidies_183 (o1 : Option AV) (o2 : Option AV) (v3 : Int) (v4 : Int) (v5 : Int) (v6 : Int) (v7 : Int) (v8 : Int) (v9 : Int) (μ : Mem) : Option Rs := Rn kc_X12_tidies 183 [some (vR 12 0), o1, o2, some (vI v3), some (vI v4), some (vI v5), some (vI v6), some (vI v7), some (vI v8), some (vI v9)] [] μ
noncomputable def e_X12_tidies_222 (o1 : Option AV) (o2 : Option AV) (v3 : Int) (v4 : Int) (v5 : Int) (v6 : Int) (v7 : Int) (v8 : Int) (v9 : Int) (μ : Mem) : Option Rs := Rn kc_X12_tidies 222 [some (vR 12 0), o1, o2, some (vI v3), some (vI v4), some (vI v5), some (vI v6), some (vI v7), some (vI v8), some (vI v9)] [] μ
set_option maxRecDepth 100000 in
set_option maxHeartbeats 2000000 in
theorem q_X12_tidies (v1 : Int) (v2 : Int) (v3 : Int) (μ : Mem) : f_X12_tidies [vR 12 0, vI v1, vI v2, vI v3] μ = (gi v1 (lnR 45) (e_X12_tidies_11 v1 v2 v3 (μ 45 (v1).toNat) 0 none none none none μ)) :=
  show Rn kc_X12_tidies 0 [some (vR 12 0), some (vI v1), some (vI v2), some (vI v3), none, none, none, none, none, none] [] μ = _ from (Rn_rc kt_X12_tidies [11, 73, 153, 183, 222] 147 _ _ _ _).trans rfl
set_option maxRecDepth 100000 in
set_option maxHeartbeats 2000000 in
theorem q_X12_tidies_11 (v1 : Int) (v2 : Int) (v3 : Int) (v4 : Int) (v5 : Int) (o6 : Option AV) (o7 : Option AV) (o8 : Option AV) (o9 : Option AV) (μ : Mem) : e_X12_tidies_11 v1 v2 v3 v4 v5 o6 o7 o8 o9 μ = (if v5 < v4 then gi (wr ((wr (200 * v1)) + v5)) (lnR 44) (if (μ 44 (wr ((wr (200 * v1)) + v5)).toNat) < 23 then gi v5 (lnR 48) (e_X12_tidies_11 v1 v2 v3 v4 (wr (v5 + 1)) (some (vI (μ 44 (wr ((wr (200 * v1)) + v5)).toNat))) o7 o8 o9 (up μ 48 (v5).toNat (μ 44 (wr ((wr (200 * v1)) + v5)).toNat))) else cI (f_X12_renamed [vI (wr ((μ 44 (wr ((wr (200 * v1)) + v5)).toNat) - 23)), vI v2] μ) (fun x2 μ1 => gi v5 (lnR 48) (e_X12_tidies_11 v1 v2 v3 v4 (wr (v5 + 1)) (some (vI (μ 44 (wr ((wr (200 * v1)) + v5)).toNat))) o7 o8 o9 (up μ1 48 (v5).toNat x2)))) else e_X12_tidies_73 (some (vI v1)) (some (vI v2)) v3 v4 (wr (v4 - 1)) o6 o7 o8 o9 μ) :=
  (Rn_rc kt_X12_tidies [11, 73, 153, 183, 222] 147 _ _ _ _).trans rfl
set_option maxRecDepth 100000 in
set_option maxHeartbeats 2000000 in
theorem q_X12_tidies_73 (o1 : Option AV) (o2 : Option AV) (v3 : Int) (v4 : Int) (v5 : Int) (o6 : Option AV) (o7 : Option AV) (o8 : Option AV) (o9 : Option AV) (μ : Mem) : e_X12_tidies_73 o1 o2 v3 v4 v5 o6 o7 o8 o9 μ = (if v5 < 0 then some (none, μ) else if v3 = 0 then some (none, μ) else gi v5 (lnR 48) (if (μ 48 (v5).toNat) = 12 then cI (f_X12_endAt [vR 12 0, vR 20 48, vI (wr (v5 + 1)), vI v4] μ) (fun x2 μ1 => cI (f_X12_endAt [vR 12 0, vR 20 48, vI x2, vI v4] μ1) (fun x4 μ3 => cI (f_X12_isLess [vR 12 0, vI (wr (v5 + 1)), vI x2, vI (wr (x2 - (wr (v5 + 1)))), vI (wr (x4 - x2))] μ3) (fun x6 μ5 => if x6 = 0 then e_X12_tidies_73 o1 o2 v3 v4 (wr (v5 + (-1))) (some (vI (wr (v5 + 1)))) (some (vI x2)) (some (vI x4)) o9 μ5 else e_X12_tidies_153 o1 o2 v3 v4 v5 (wr (v5 + 1)) x2 x4 (wr (v5 + 1)) μ5))) else e_X12_tidies_73 o1 o2 v3 v4 (wr (v5 + (-1))) o6 o7 o8 o9 μ)) :=
  (Rn_rc kt_X12_tidies [11, 73, 153, 183, 222] 147 _ _ _ _).trans rfl
set_option maxRecDepth 100000 in
set_option maxHeartbeats 2000000 in
theorem q_X12_tidies_153 (o1 : Option AV) (o2 : Option AV) (v3 : Int) (v4 : Int) (v5 : Int) (v6 : Int) (v7 : Int) (v8 : Int) (v9 : Int) (μ : Mem) : e_X12_tidies_153 o1 o2 v3 v4 v5 v6 v7 v8 v9 μ = (if v9 < v8 then gi v9 (lnR 48) (gi v9 (lnR 49) (e_X12_tidies_153 o1 o2 v3 v4 v5 v6 v7 v8 (wr (v9 + 1)) (up μ 49 (v9).toNat (μ 48 (v9).toNat)))) else e_X12_tidies_183 o1 o2 v3 v4 v5 v6 v7 v8 0 μ) :=
  (Rn_rc kt_X12_tidies [11, 73, 153, 183, 222] 147 _ _ _ _).trans rfl
set_option maxRecDepth 100000 in
set_option maxHeartbeats 2000000 in
theorem q_X12_tidies_183 (o1 : Option AV) (o2 : Option AV) (v3 : Int) (v4 : Int) (v5 : Int) (v6 : Int) (v7 : Int) (v8 : Int) (v9 : Int) (μ : Mem) : e_X12_tidies_183 o1 o2 v3 v4 v5 v6 v7 v8 v9 μ = (if v9 < (wr (v8 - v7)) then gi (wr (v7 + v9)) (lnR 49) (gi (wr (v6 + v9)) (lnR 48) (e_X12_tidies_183 o1 o2 v3 v4 v5 v6 v7 v8 (wr (v9 + 1)) (up μ 48 (wr (v6 + v9)).toNat (μ 49 (wr (v7 + v9)).toNat)))) else e_X12_tidies_222 o1 o2 v3 v4 v5 v6 v7 v8 0 μ) :=
  (Rn_rc kt_X12_tidies [11, 73, 153, 183, 222] 147 _ _ _ _).trans rfl
set_option maxRecDepth 100000 in
set_option maxHeartbeats 2000000 in
theorem q_X12_tidies_222 (o1 : Option AV) (o2 : Option AV) (v3 : Int) (v4 : Int) (v5 : Int) (v6 : Int) (v7 : Int) (v8 : Int) (v9 : Int) (μ : Mem) : e_X12_tidies_222 o1 o2 v3 v4 v5 v6 v7 v8 v9 μ = (if v9 < (wr (v7 - v6)) then gi (wr (v6 + v9)) (lnR 49) (gi (wr ((wr ((wr (v6 + v8)) - v7)) + v9)) (lnR 48) (e_X12_tidies_222 o1 o2 v3 v4 v5 v6 v7 v8 (wr (v9 + 1)) (up μ 48 (wr ((wr ((wr (v6 + v8)) - v7)) + v9)).toNat (μ 49 (wr (v6 + v9)).toNat)))) else e_X12_tidies_73 o1 o2 v3 v4 (wr (v5 + (-1))) (some (vI v6)) (some (vI v7)) (some (vI v8)) (some (vI v9)) μ) :=
  (Rn_rc kt_X12_tidies [11, 73, 153, 183, 222] 147 _ _ _ _).trans rfl
noncomputable def e_X12_isKept_5 (v1 : Int) (v2 : Int) (v3 : Int) (v4 : Int) (μ : Mem) : Option Rs := Rn kc_X12_isKept 5 [some (vR 12 0), some (vI v1), some (vI v2), some (vI v3), some (vI v4)] [] μ
set_option maxRecDepth 100000 in
set_option maxHeartbeats 2000000 in
theorem q_X12_isKept (v1 : Int) (v2 : Int) (μ : Mem) : f_X12_isKept [vR 12 0, vI v1, vI v2] μ = (e_X12_isKept_5 v1 v2 1 0 μ) :=
  show Rn kc_X12_isKept 0 [some (vR 12 0), some (vI v1), some (vI v2), none, none] [] μ = _ from (Rn_rc kt_X12_isKept [5] 38 _ _ _ _).trans rfl
set_option maxRecDepth 100000 in
set_option maxHeartbeats 2000000 in
theorem q_X12_isKept_5 (v1 : Int) (v2 : Int) (v3 : Int) (v4 : Int) (μ : Mem) : e_X12_isKept_5 v1 v2 v3 v4 μ = (gi v1 (lnR 45) (if v4 < (μ 45 (v1).toNat) then if v3 = 0 then gz v3 (some (some (vI v3), μ)) else gi v4 (lnR 48) (gi (wr ((wr (200 * v2)) + v4)) (lnR 50) (if (μ 48 (v4).toNat) = (μ 50 (wr ((wr (200 * v2)) + v4)).toNat) then e_X12_isKept_5 v1 v2 1 (wr (v4 + 1)) μ else e_X12_isKept_5 v1 v2 0 (wr (v4 + 1)) μ)) else gz v3 (some (some (vI v3), μ)))) :=
  (Rn_rc kt_X12_isKept [5] 38 _ _ _ _).trans rfl
set_option maxRecDepth 100000 in
set_option maxHeartbeats 2000000 in
theorem q_X12_isSide (v1 : Int) (v2 : Int) (v3 : Int) (v4 : Int) (μ : Mem) : f_X12_isSide [vR 12 0, vI v1, vI v2, vI v3, vI v4] μ = (gi v1 (lnR 45) (gi (wr (2 + v4)) (lnR 45) (if (μ 45 (v1).toNat) = (μ 45 (wr (2 + v4)).toNat) then cV (f_X12_tidies [vR 12 0, vI v1, vI v2, vI v3] μ) (fun μ1 => cI (f_X12_isKept [vR 12 0, vI v1, vI v4] μ1) (fun x3 μ2 => gz x3 (some (some (vI x3), μ2)))) else gz 0 (some (some (vI 0), μ))))) :=
  show Rn kc_X12_isSide 0 [some (vR 12 0), some (vI v1), some (vI v2), some (vI v3), some (vI v4)] [] μ = _ from (Rn_rc kt_X12_isSide [] 28 _ _ _ _).trans rfl
noncomputable def e_X12_areLike_29 (v1 : Int) (v2 : Int) (v3 : Int) (v4 : Int) (v5 : Int) (v6 : Int) (o7 : Option AV) (o8 : Option AV) (μ : Mem) : Option Rs := Rn kc_X12_areLike 29 [some (vR 12 0), some (vI v1), some (vI v2), some (vI v3), some (vI v4), some (vI v5), some (vI v6), o7, o8] [] μ
noncomputable def e_X12_areLike_71 (o1 : Option AV) (o2 : Option AV) (v3 : Int) (o4 : Option AV) (v5 : Int) (v6 : Int) (v7 : Int) (o8 : Option AV) (μ : Mem) : Option Rs := Rn kc_X12_areLike 71 [some (vR 12 0), o1, o2, some (vI v3), o4, some (vI v5), some (vI v6), some (vI v7), o8] [] μ
noncomputable def e_X12_areLike_118 (o1 : Option AV) (o2 : Option AV) (v3 : Int) (o4 : Option AV) (v5 : Int) (o6 : Option AV) (v7 : Int) (o8 : Option AV) (μ : Mem) : Option Rs := Rn kc_X12_areLike 118 [some (vR 12 0), o1, o2, some (vI v3), o4, some (vI v5), o6, some (vI v7), o8] [] μ
noncomputable def e_X12_areLike_138 (o1 : Option AV) (o2 : Option AV) (v3 : Int) (o4 : Option AV) (v5 : Int) (o6 : Option AV) (v7 : Int) (v8 : Int) (μ : Mem) : Option Rs := Rn kc_X12_areLike 138 [some (vR 12 0), o1, o2, some (vI v3), o4, some (vI v5), o6, some (vI v7), some (vI v8)] [] μ
noncomputable def e_X12_areLike_191 (o1 : Option AV) (o2 : Option AV) (v3 : Int) (o4 : Option AV) (v5 : Int) (o6 : Option AV) (v7 : Int) (v8 : Int) (μ : Mem) : Option Rs := Rn kc_X12_areLike 191 [some (vR 12 0), o1, o2, some (vI v3), o4, some (vI v5), o6, some (vI v7), some (vI v8)] [] μ
noncomputable def e_X12_areLike_233 (o1 : Option AV) (o2 : Option AV) (v3 : Int) (o4 : Option AV) (v5 : Int) (o6 : Option AV) (o7 : Option AV) (v8 : Int) (μ : Mem) : Option Rs := Rn kc_X12_areLike 233 [some (vR 12 0), o1, o2, some (vI v3), o4, some (vI v5), o6, o7, some (vI v8)] [] μ
noncomputable def e_X12_areLike_234 (o1 : Option AV) (o2 : Option AV) (v3 : Int) (o4 : Option AV) (v5 : Int) (o6 : Option AV) (o7 : Option AV) (v8 : Int) (s0 : Int) (μ : Mem) : Option Rs := Rn kc_X12_areLike 234 [some (vR 12 0), o1, o2, some (vI v3), o4, some (vI v5), o6, o7, some (vI v8)] [vI s0] μ
set_option maxRecDepth 100000 in
set_option maxHeartbeats 2000000 in
theorem q_X12_areLike (v1 : Int) (v2 : Int) (v3 : Int) (μ : Mem) : f_X12_areLike [vR 12 0, vI v1, vI v2, vI v3] μ = (if v3 ≤ 3 then if (bAnd v3 2) = 2 then e_X12_areLike_29 v1 v2 v3 0 1 0 none none μ else e_X12_areLike_29 v1 v2 v3 0 0 0 none none μ else if (bAnd v3 2) = 2 then e_X12_areLike_29 v1 v2 v3 1 1 0 none none μ else e_X12_areLike_29 v1 v2 v3 1 0 0 none none μ) :=
  show Rn kc_X12_areLike 0 [some (vR 12 0), some (vI v1), some (vI v2), some (vI v3), none, none, none, none, none] [] μ = _ from (Rn_rc kt_X12_areLike [29, 71, 118, 138, 191, 233, 234] 161 _ _ _ _).trans rfl
set_option maxRecDepth 100000 in
set_option maxHeartbeats 2000000 in
theorem q_X12_areLike_29 (v1 : Int) (v2 : Int) (v3 : Int) (v4 : Int) (v5 : Int) (v6 : Int) (o7 : Option AV) (o8 : Option AV) (μ : Mem) : e_X12_areLike_29 v1 v2 v3 v4 v5 v6 o7 o8 μ = (if v6 < 2 then cV (f_X12_widens [vR 12 0, vI v6, vI v1, vI v6, vI v4] μ) (fun μ1 => cV (f_X12_widens [vR 12 0, vI (wr (2 + v6)), vI v2, vI v6, vI v4] μ1) (fun μ2 => e_X12_areLike_29 v1 v2 v3 v4 v5 (wr (v6 + 1)) o7 o8 μ2)) else e_X12_areLike_71 (some (vI v1)) (some (vI v2)) v3 (some (vI v4)) v5 1 0 o8 μ) :=
  (Rn_rc kt_X12_areLike [29, 71, 118, 138, 191, 233, 234] 161 _ _ _ _).trans rfl
set_option maxRecDepth 100000 in
set_option maxHeartbeats 2000000 in
theorem q_X12_areLike_71 (o1 : Option AV) (o2 : Option AV) (v3 : Int) (o4 : Option AV) (v5 : Int) (v6 : Int) (v7 : Int) (o8 : Option AV) (μ : Mem) : e_X12_areLike_71 o1 o2 v3 o4 v5 v6 v7 o8 μ = (if v7 < 4 then if v6 = 0 then e_X12_areLike_71 o1 o2 v3 o4 v5 0 (wr (v7 + 1)) o8 μ else gi v7 (lnR 45) (if (μ 45 (v7).toNat) ≤ 200 then e_X12_areLike_71 o1 o2 v3 o4 v5 1 (wr (v7 + 1)) o8 μ else e_X12_areLike_71 o1 o2 v3 o4 v5 0 (wr (v7 + 1)) o8 μ) else if v6 = 0 then gz 0 (some (some (vI 0), μ)) else e_X12_areLike_118 o1 o2 v3 o4 v5 (some (vI v6)) 0 o8 μ) :=
  (Rn_rc kt_X12_areLike [29, 71, 118, 138, 191, 233, 234] 161 _ _ _ _).trans rfl
set_option maxRecDepth 100000 in
set_option maxHeartbeats 2000000 in
theorem q_X12_areLike_118 (o1 : Option AV) (o2 : Option AV) (v3 : Int) (o4 : Option AV) (v5 : Int) (o6 : Option AV) (v7 : Int) (o8 : Option AV) (μ : Mem) : e_X12_areLike_118 o1 o2 v3 o4 v5 o6 v7 o8 μ = (if v7 < 2 then cV (f_X12_tidies [vR 12 0, vI (wr (2 + v7)), vI 0, vI v5] μ) (fun μ1 => e_X12_areLike_138 o1 o2 v3 o4 v5 o6 v7 0 μ1) else e_X12_areLike_191 o1 o2 v3 o4 v5 (kl o6) 0 0 μ) :=
  (Rn_rc kt_X12_areLike [29, 71, 118, 138, 191, 233, 234] 161 _ _ _ _).trans rfl
set_option maxRecDepth 100000 in
set_option maxHeartbeats 2000000 in
theorem q_X12_areLike_138 (o1 : Option AV) (o2 : Option AV) (v3 : Int) (o4 : Option AV) (v5 : Int) (o6 : Option AV) (v7 : Int) (v8 : Int) (μ : Mem) : e_X12_areLike_138 o1 o2 v3 o4 v5 o6 v7 v8 μ = (gi (wr (2 + v7)) (lnR 45) (if v8 < (μ 45 (wr (2 + v7)).toNat) then gi v8 (lnR 48) (gi (wr ((wr (200 * v7)) + v8)) (lnR 50) (e_X12_areLike_138 o1 o2 v3 o4 v5 o6 v7 (wr (v8 + 1)) (up μ 50 (wr ((wr (200 * v7)) + v8)).toNat (μ 48 (v8).toNat)))) else e_X12_areLike_118 o1 o2 v3 o4 v5 (kl o6) (wr (v7 + 1)) (some (vI v8)) μ)) :=
  (Rn_rc kt_X12_areLike [29, 71, 118, 138, 191, 233, 234] 161 _ _ _ _).trans rfl
set_option maxRecDepth 100000 in
set_option maxHeartbeats 2000000 in
theorem q_X12_areLike_191 (o1 : Option AV) (o2 : Option AV) (v3 : Int) (o4 : Option AV) (v5 : Int) (o6 : Option AV) (v7 : Int) (v8 : Int) (μ : Mem) : e_X12_areLike_191 o1 o2 v3 o4 v5 o6 v7 v8 μ = (if v8 < 6 then if v7 = 0 then cI (f_X12_isSide [vR 12 0, vI 0, vI v8, vI v5, vI 0] μ) (fun x2 μ1 => if x2 = 0 then e_X12_areLike_233 o1 o2 v3 o4 v5 o6 (some (vI v7)) v8 μ1 else cI (f_X12_isSide [vR 12 0, vI 1, vI v8, vI v5, vI 1] μ1) (fun x4 μ3 => if x4 = 0 then e_X12_areLike_233 o1 o2 v3 o4 v5 o6 (some (vI v7)) v8 μ3 else e_X12_areLike_234 o1 o2 v3 o4 v5 o6 (some (vI v7)) v8 1 μ3)) else gz v7 (some (some (vI v7), μ)) else gz v7 (some (some (vI v7), μ))) :=
  (Rn_rc kt_X12_areLike [29, 71, 118, 138, 191, 233, 234] 161 _ _ _ _).trans rfl
set_option maxRecDepth 100000 in
set_option maxHeartbeats 2000000 in
theorem q_X12_areLike_233 (o1 : Option AV) (o2 : Option AV) (v3 : Int) (o4 : Option AV) (v5 : Int) (o6 : Option AV) (o7 : Option AV) (v8 : Int) (μ : Mem) : e_X12_areLike_233 o1 o2 v3 o4 v5 o6 o7 v8 μ = (e_X12_areLike_234 o1 o2 v3 o4 v5 o6 o7 v8 0 μ) :=
  (Rn_rc kt_X12_areLike [29, 71, 118, 138, 191, 233, 234] 161 _ _ _ _).trans rfl
set_option maxRecDepth 100000 in
set_option maxHeartbeats 2000000 in
theorem q_X12_areLike_234 (o1 : Option AV) (o2 : Option AV) (v3 : Int) (o4 : Option AV) (v5 : Int) (o6 : Option AV) (o7 : Option AV) (v8 : Int) (s0 : Int) (μ : Mem) : e_X12_areLike_234 o1 o2 v3 o4 v5 o6 o7 v8 s0 μ = (if s0 = 0 then gn 2 (if (bRem v3 2) = 1 then cI (f_X12_isSide [vR 12 0, vI 0, vI v8, vI v5, vI 1] μ) (fun x2 μ1 => if x2 = 0 then e_X12_areLike_191 o1 o2 v3 o4 v5 (kl (kl o6)) 0 (wr (v8 + 1)) μ1 else cI (f_X12_isSide [vR 12 0, vI 1, vI v8, vI v5, vI 0] μ1) (fun x4 μ3 => if x4 = 0 then e_X12_areLike_191 o1 o2 v3 o4 v5 (kl (kl o6)) 0 (wr (v8 + 1)) μ3 else e_X12_areLike_191 o1 o2 v3 o4 v5 (kl (kl o6)) 1 (wr (v8 + 1)) μ3)) else e_X12_areLike_191 o1 o2 v3 o4 v5 (kl (kl o6)) 0 (wr (v8 + 1)) μ) else e_X12_areLike_191 o1 o2 v3 o4 v5 (kl (kl o6)) 1 (wr (v8 + 1)) μ) :=
  (Rn_rc kt_X12_areLike [29, 71, 118, 138, 191, 233, 234] 161 _ _ _ _).trans rfl
set_option maxRecDepth 100000 in
set_option maxHeartbeats 2000000 in
theorem q_X12_like (v1 : Int) (v2 : Int) (v3 : Int) (μ : Mem) : f_X12_like [vR 12 0, vI v1, vI v2, vI v3] μ = (cI (f_X12_isSaying [vR 12 0, vI v1] μ) (fun x2 μ1 => if x2 = 0 then some (some (vI (-1)), μ1) else cI (f_X12_isSaying [vR 12 0, vI v2] μ1) (fun x4 μ3 => if x4 = 0 then some (some (vI (-1)), μ3) else cI (f_X12_in [vL v3, vL 0, vL 7] μ3) (fun x6 μ5 => if x6 = 0 then some (some (vI (-1)), μ5) else cI (f_X12_areLike [vR 12 0, vI v1, vI v2, vI v3] μ5) (fun x8 μ7 => if x8 = 0 then some (some (vI 0), μ7) else some (some (vI 1), μ7)))))) :=
  show Rn kc_X12_like 0 [some (vR 12 0), some (vI v1), some (vI v2), some (vI v3)] [] μ = _ from (Rn_rc kt_X12_like [] 31 _ _ _ _).trans rfl
noncomputable def e_X12_find_42 (v1 : Int) (v2 : Int) (v3 : Int) (v4 : Int) (v5 : Int) (v6 : Int) (o7 : Option AV) (μ : Mem) : Option Rs := Rn kc_X12_find 42 [some (vR 12 0), some (vI v1), some (vI v2), some (vI v3), some (vI v4), some (vI v5), some (vI v6), o7] [] μ
set_option maxRecDepth 100000 in
set_option maxHeartbeats 2000000 in
theorem q_X12_find (v1 : Int) (v2 : Int) (v3 : Int) (μ : Mem) : f_X12_find [vR 12 0, vI v1, vI v2, vI v3] μ = (cI (f_X12_isSaying [vR 12 0, vI v1] μ) (fun x2 μ1 => if x2 = 0 then some (some (vI (-1)), μ1) else cI (f_X12_in [vL v2, vL 0, vL 7] μ1) (fun x4 μ3 => if x4 = 0 then some (some (vI (-1)), μ3) else cI (f_X12_in [vL v3, vL 0, vL 1] μ3) (fun x6 μ5 => if x6 = 0 then some (some (vI (-1)), μ5) else e_X12_find_42 v1 v2 v3 0 (-4) 0 none μ5)))) :=
  show Rn kc_X12_find 0 [some (vR 12 0), some (vI v1), some (vI v2), some (vI v3), none, none, none, none] [] μ = _ from (Rn_rc kt_X12_find [42] 71 _ _ _ _).trans rfl
set_option maxRecDepth 100000 in
set_option maxHeartbeats 2000000 in
theorem q_X12_find_42 (v1 : Int) (v2 : Int) (v3 : Int) (v4 : Int) (v5 : Int) (v6 : Int) (o7 : Option AV) (μ : Mem) : e_X12_find_42 v1 v2 v3 v4 v5 v6 o7 μ = (if v6 < (μ 0 5) then if v6 = v1 then e_X12_find_42 v1 v2 v3 (wr (v4 + 0)) v5 (wr (v6 + 1)) (some (vI 0)) μ else cI (f_X12_areLike [vR 12 0, vI v1, vI v6, vI v2] μ) (fun x2 μ1 => if x2 = 0 then e_X12_find_42 v1 v2 v3 (wr (v4 + 0)) v5 (wr (v6 + 1)) (some (vI 0)) μ1 else if v5 = (-4) then e_X12_find_42 v1 v2 v3 (wr (v4 + 1)) v6 (wr (v6 + 1)) (some (vI 1)) μ1 else e_X12_find_42 v1 v2 v3 (wr (v4 + 1)) v5 (wr (v6 + 1)) (some (vI 1)) μ1) else if v3 = 0 then some (some (vI v4), μ) else some (some (vI v5), μ)) :=
  (Rn_rc kt_X12_find [42] 71 _ _ _ _).trans rfl
noncomputable def e_X12_teach_46 (v1 : Int) (v2 : Int) (v3 : Int) (o4 : Option AV) (o5 : Option AV) (o6 : Option AV) (o7 : Option AV) (μ : Mem) : Option Rs := Rn kc_X12_teach 46 [some (vR 12 0), some (vI v1), some (vI v2), some (vI v3), o4, o5, o6, o7] [] μ
noncomputable def e_X12_teach_78 (o1 : Option AV) (o2 : Option AV) (v3 : Int) (v4 : Int) (v5 : Int) (v6 : Int) (o7 : Option AV) (μ : Mem) : Option Rs := Rn kc_X12_teach 78 [some (vR 12 0), o1, o2, some (vI v3), some (vI v4), some (vI v5), some (vI v6), o7] [] μ
noncomputable def e_X12_teach_94 (o1 : Option AV) (o2 : Option AV) (v3 : Int) (v4 : Int) (v5 : Int) (v6 : Int) (v7 : Int) (μ : Mem) : Option Rs := Rn kc_X12_teach 94 [some (vR 12 0), o1, o2, some (vI v3), some (vI v4), some (vI v5), some (vI v6), some (vI v7)] [] μ
set_option maxRecDepth 100000 in
set_option maxHeartbeats 2000000 in
theorem q_X12_teach (v1 : Int) (v2 : Int) (v3 : Int) (μ : Mem) : f_X12_teach [vR 12 0, vI v1, vI v2, vI v3] μ = (cI (f_X12_isSaying [vR 12 0, vI v1] μ) (fun x2 μ1 => if x2 = 0 then some (some (vI (-1)), μ1) else cI (f_X12_in [vL v2, vL 0, vL (wr ((bShl 1 (μ1 0 5)) - 1))] μ1) (fun x4 μ3 => if x4 = 0 then some (some (vI (-1)), μ3) else if v3 = 0 then e_X12_teach_46 v1 v2 v3 none none none none μ3 else cI (f_X12_in [vL v3, vL 10, vL 33] μ3) (fun x6 μ5 => if x6 = 0 then some (some (vI (-1)), μ5) else e_X12_teach_46 v1 v2 v3 none none none none μ5)))) :=
  show Rn kc_X12_teach 0 [some (vR 12 0), some (vI v1), some (vI v2), some (vI v3), none, none, none, none] [] μ = _ from (Rn_rc kt_X12_teach [46, 78, 94] 110 _ _ _ _).trans rfl
set_option maxRecDepth 100000 in
set_option maxHeartbeats 2000000 in
theorem q_X12_teach_46 (v1 : Int) (v2 : Int) (v3 : Int) (o4 : Option AV) (o5 : Option AV) (o6 : Option AV) (o7 : Option AV) (μ : Mem) : e_X12_teach_46 v1 v2 v3 o4 o5 o6 o7 μ = (cI (f_X12_leansOf [vR 12 0, vI v1] μ) (fun x2 μ1 => if v3 = 0 then cI (f_X12_bits [vI (bAnd (bOr x2 (bShl 1 v1)) (bXor v2 (-1)))] μ1) (fun x4 μ3 => some (some (vI x4), μ3)) else e_X12_teach_78 (some (vI v1)) (some (vI v2)) v3 (bAnd (bOr x2 (bShl 1 v1)) (bXor v2 (-1))) (-4) 0 o7 μ1)) :=
  (Rn_rc kt_X12_teach [46, 78, 94] 110 _ _ _ _).trans rfl
set_option maxRecDepth 100000 in
set_option maxHeartbeats 2000000 in
theorem q_X12_teach_78 (o1 : Option AV) (o2 : Option AV) (v3 : Int) (v4 : Int) (v5 : Int) (v6 : Int) (o7 : Option AV) (μ : Mem) : e_X12_teach_78 o1 o2 v3 v4 v5 v6 o7 μ = (if v6 ≤ (wr (v3 - 10)) then e_X12_teach_94 o1 o2 v3 v4 (-4) v6 0 μ else some (some (vI v5), μ)) :=
  (Rn_rc kt_X12_teach [46, 78, 94] 110 _ _ _ _).trans rfl
set_option maxRecDepth 100000 in
set_option maxHeartbeats 2000000 in
theorem q_X12_teach_94 (o1 : Option AV) (o2 : Option AV) (v3 : Int) (v4 : Int) (v5 : Int) (v6 : Int) (v7 : Int) (μ : Mem) : e_X12_teach_94 o1 o2 v3 v4 v5 v6 v7 μ = (if v7 < (μ 0 5) then if v5 = (-4) then if (bAnd (bShr v4 v7) 1) = 1 then cI (f_X12_leansOf [vR 12 0, vI v7] μ) (fun x2 μ1 => if (bAnd (bAnd x2 v4) (bXor (bShl 1 v7) (-1))) = 0 then e_X12_teach_94 o1 o2 v3 v4 v7 v6 (wr (v7 + 1)) μ1 else e_X12_teach_94 o1 o2 v3 v4 v5 v6 (wr (v7 + 1)) μ1) else e_X12_teach_94 o1 o2 v3 v4 v5 v6 (wr (v7 + 1)) μ else e_X12_teach_94 o1 o2 v3 v4 v5 v6 (wr (v7 + 1)) μ else if v5 = (-4) then e_X12_teach_78 o1 o2 v3 (bAnd v4 v4) v5 (wr (v6 + 1)) (some (vI v7)) μ else e_X12_teach_78 o1 o2 v3 (bAnd v4 (bXor (bShl 1 v5) (-1))) v5 (wr (v6 + 1)) (some (vI v7)) μ) :=
  (Rn_rc kt_X12_teach [46, 78, 94] 110 _ _ _ _).trans rfl
set_option maxRecDepth 100000 in
set_option maxHeartbeats 2000000 in
theorem q_X12_isSheet (v0 : Int) (v1 : Int) (μ : Mem) : f_X12_isSheet [vI v0, vI v1] μ = (cI (f_X12_in [vL v0, vL 0, vL 3] μ) (fun x2 μ1 => if x2 = 0 then gz 0 (some (some (vI 0), μ1)) else cI (f_X12_in [vL v1, vL 0, vL 2] μ1) (fun x4 μ3 => if x4 = 0 then gz 0 (some (some (vI 0), μ3)) else gz 1 (some (some (vI 1), μ3))))) :=
  show Rn kc_X12_isSheet 0 [some (vI v0), some (vI v1)] [] μ = _ from (Rn_rc kt_X12_isSheet [] 21 _ _ _ _).trans rfl
noncomputable def e_X12_sheet_40 (v1 : Int) (o2 : Option AV) (o3 : Option AV) (v4 : Int) (μ : Mem) : Option Rs := Rn kc_X12_sheet 40 [some (vR 12 0), some (vI v1), o2, o3, some (vI v4)] [] μ
set_option maxRecDepth 100000 in
set_option maxHeartbeats 2000000 in
theorem q_X12_sheet (v1 : Int) (v2 : Int) (v3 : Int) (μ : Mem) : f_X12_sheet [vR 12 0, vI v1, vI v2, vI v3] μ = (cI (f_X12_isSheet [vI v1, vI v2] μ) (fun x2 μ1 => if x2 = 0 then some (some (vI (-1)), μ1) else if v3 ≤ 90 then if v3 < 0 then some (some (vI (-14)), μ1) else gi v1 (lnR 51) (gi v1 (lnR 52) (e_X12_sheet_40 v1 (some (vI v2)) (some (vI v3)) 0 (up (up μ1 51 (v1).toNat v2) 52 (v1).toNat v3))) else some (some (vI (-1)), μ1))) :=
  show Rn kc_X12_sheet 0 [some (vR 12 0), some (vI v1), some (vI v2), some (vI v3), none] [] μ = _ from (Rn_rc kt_X12_sheet [40] 46 _ _ _ _).trans rfl
set_option maxRecDepth 100000 in
set_option maxHeartbeats 2000000 in
theorem q_X12_sheet_40 (v1 : Int) (o2 : Option AV) (o3 : Option AV) (v4 : Int) (μ : Mem) : e_X12_sheet_40 v1 o2 o3 v4 μ = (if v4 < 90 then gi (wr ((wr (90 * v1)) + v4)) (lnR 53) (e_X12_sheet_40 v1 o2 (kl o3) (wr (v4 + 1)) (up μ 53 (wr ((wr (90 * v1)) + v4)).toNat 0)) else some (some (vI 1), μ)) :=
  (Rn_rc kt_X12_sheet [40] 46 _ _ _ _).trans rfl
set_option maxRecDepth 100000 in
set_option maxHeartbeats 2000000 in
theorem q_X12_lay (v1 : Int) (v2 : Int) (v3 : Int) (μ : Mem) : f_X12_lay [vR 12 0, vI v1, vI v2, vI v3] μ = (cI (f_X12_isSheet [vI v1, vI 0] μ) (fun x2 μ1 => if x2 = 0 then some (some (vI (-1)), μ1) else gi v1 (lnR 51) (if (μ1 51 (v1).toNat) = (-4) then some (some (vI (-11)), μ1) else gi v1 (lnR 52) (cI (f_X12_in [vL v2, vL 0, vL (wr ((μ1 52 (v1).toNat) - 1))] μ1) (fun x4 μ3 => if x4 = 0 then some (some (vI (-12)), μ3) else gi v1 (lnR 51) (if (μ3 51 (v1).toNat) = 0 then gi (wr ((wr (90 * v1)) + v2)) (lnR 53) (some (some (vI 1), up μ3 53 (wr ((wr (90 * v1)) + v2)).toNat (wrB v3))) else gi v1 (lnR 51) (if (μ3 51 (v1).toNat) = 1 then gi (wr ((wr (90 * v1)) + v2)) (lnR 53) (some (some (vI 1), up μ3 53 (wr ((wr (90 * v1)) + v2)).toNat (wrS v3))) else gi (wr ((wr (90 * v1)) + v2)) (lnR 53) (some (some (vI 1), up μ3 53 (wr ((wr (90 * v1)) + v2)).toNat v3))))))))) :=
  show Rn kc_X12_lay 0 [some (vR 12 0), some (vI v1), some (vI v2), some (vI v3)] [] μ = _ from (Rn_rc kt_X12_lay [] 61 _ _ _ _).trans rfl
noncomputable def e_X12_read_112 (v1 : Int) (v2 : Int) (o3 : Option AV) (v4 : Int) (v5 : Int) (v6 : Int) (o7 : Option AV) (μ : Mem) : Option Rs := Rn kc_X12_read 112 [some (vR 12 0), some (vI v1), some (vI v2), o3, some (vI v4), some (vI v5), some (vI v6), o7] [] μ
noncomputable def e_X12_read_261 (v1 : Int) (v2 : Int) (o3 : Option AV) (v4 : Int) (v5 : Int) (v6 : Int) (o7 : Option AV) (μ : Mem) : Option Rs := Rn kc_X12_read 261 [some (vR 12 0), some (vI v1), some (vI v2), o3, some (vI v4), some (vI v5), some (vI v6), o7] [] μ
noncomputable def e_X12_read_339 (v1 : Int) (v2 : Int) (o3 : Option AV) (v4 : Int) (v5 : Int) (v6 : Int) (o7 : Option AV) (s0 : Nat) (s1 : Int) (s2 : Int) (μ : Mem) : Option Rs := Rn kc_X12_read 339 [some (vR 12 0), some (vI v1), some (vI v2), o3, some (vI v4), some (vI v5), some (vI v6), o7] [vI s2, vI s1, vR 20 s0] μ
set_option maxRecDepth 100000 in
set_option maxHeartbeats 2000000 in
theorem q_X12_read (v1 : Int) (v2 : Int) (v3 : Int) (v4 : Int) (v5 : Int) (μ : Mem) : f_X12_read [vR 12 0, vI v1, vI v2, vI v3, vI v4, vI v5] μ = (cI (f_X12_isSaying [vR 12 0, vI v1] μ) (fun x2 μ1 => if x2 = 0 then some (some (vI (-1)), μ1) else cI (f_X12_isSheet [vI v2, vI v3] μ1) (fun x4 μ3 => if x4 = 0 then some (some (vI (-1)), μ3) else cI (f_X12_in [vL v5, vL 0, vL 20] μ3) (fun x6 μ5 => if x6 = 0 then some (some (vI (-1)), μ5) else cI (f_X12_isOpen [vR 12 0, vI v1] μ5) (fun x8 μ7 => if x8 = 0 then some (some (vI (-2)), μ7) else gi v2 (lnR 51) (if (μ7 51 (v2).toNat) = v3 then if v5 ≤ 0 then cV (f_X12_begins [vR 12 0, vI v1] μ7) (fun μ9 => e_X12_read_112 v1 v2 (some (vI v3)) v4 v5 0 none μ9) else if v4 < 0 then some (some (vI (-12)), μ7) else gi v2 (lnR 52) (if (if lAdd v4 (wr (3 * v5)) < (μ7 52 (v2).toNat) then -1 else if lAdd v4 (wr (3 * v5)) = (μ7 52 (v2).toNat) then 0 else 1) ≤ 0 then cV (f_X12_begins [vR 12 0, vI v1] μ7) (fun μ10 => e_X12_read_112 v1 v2 (some (vI v3)) v4 v5 0 none μ10) else some (some (vI (-12)), μ7)) else gi v2 (lnR 51) (if (μ7 51 (v2).toNat) = (-4) then some (some (vI (-11)), μ7) else some (some (vI (-13)), μ7)))))))) :=
  show Rn kc_X12_read 0 [some (vR 12 0), some (vI v1), some (vI v2), some (vI v3), some (vI v4), some (vI v5), none, none] [] μ = _ from (Rn_rc kt_X12_read [112, 261, 339] 265 _ _ _ _).trans rfl
set_option maxRecDepth 100000 in
set_option maxHeartbeats 2000000 in
theorem q_X12_read_112 (v1 : Int) (v2 : Int) (o3 : Option AV) (v4 : Int) (v5 : Int) (v6 : Int) (o7 : Option AV) (μ : Mem) : e_X12_read_112 v1 v2 o3 v4 v5 v6 o7 μ = (if v6 < v5 then gi (wr ((wr ((wr (90 * v2)) + v4)) + (wr (3 * v6)))) (lnR 53) (cI (f_X12_in [vL (μ 53 (wr ((wr ((wr (90 * v2)) + v4)) + (wr (3 * v6)))).toNat), vL 0, vL 3] μ) (fun x4 μ3 => if x4 = 0 then some (some (vI (wr ((-100) - v6))), μ3) else gi (wr ((wr ((wr ((wr (90 * v2)) + v4)) + (wr (3 * v6)))) + 1)) (lnR 53) (gi (wr ((wr ((wr ((wr (90 * v2)) + v4)) + (wr (3 * v6)))) + 2)) (lnR 53) (cI (f_X12_steps [vR 12 0, vI (μ 53 (wr ((wr ((wr (90 * v2)) + v4)) + (wr (3 * v6)))).toNat), vI (μ3 53 (wr ((wr ((wr ((wr (90 * v2)) + v4)) + (wr (3 * v6)))) + 1)).toNat), vI (μ3 53 (wr ((wr ((wr ((wr (90 * v2)) + v4)) + (wr (3 * v6)))) + 2)).toNat)] μ3) (fun x6 μ5 => if x6 < 0 then some (some (vI (wr ((-100) - v6))), μ5) else cV (f_X12_goes [vR 12 0] μ5) (fun μ7 => e_X12_read_112 v1 v2 o3 v4 v5 (wr (v6 + 1)) (some (vI (μ 53 (wr ((wr ((wr (90 * v2)) + v4)) + (wr (3 * v6)))).toNat))) μ7)))))) else cI (f_X12_isAtRight [vR 12 0, vI v1] μ) (fun x2 μ1 => if x2 = 0 then some (some (vI 0), μ1) else if (wr ((μ1 0 16) + v5)) ≤ 200 then gi v1 (lnR 10) (gi v1 (lnR 11) (e_X12_read_261 v1 v2 o3 v4 v5 0 o7 (up (up μ1 10 (v1).toNat (μ1 0 16)) 11 (v1).toNat v5))) else some (some (vI (-3)), μ1))) :=
  (Rn_rc kt_X12_read [112, 261, 339] 265 _ _ _ _).trans rfl
set_option maxRecDepth 100000 in
set_option maxHeartbeats 2000000 in
theorem q_X12_read_261 (v1 : Int) (v2 : Int) (o3 : Option AV) (v4 : Int) (v5 : Int) (v6 : Int) (o7 : Option AV) (μ : Mem) : e_X12_read_261 v1 v2 o3 v4 v5 v6 o7 μ = (if v6 < v5 then gi (wr ((wr ((wr (90 * v2)) + v4)) + (wr (3 * v6)))) (lnR 53) (gi (μ 0 16) (lnR 14) (gi ((up μ 14 (μ 0 16).toNat (μ 53 (wr ((wr ((wr (90 * v2)) + v4)) + (wr (3 * v6)))).toNat)) 0 16) (lnR 14) (if ((up μ 14 (μ 0 16).toNat (μ 53 (wr ((wr ((wr (90 * v2)) + v4)) + (wr (3 * v6)))).toNat)) 14 ((up μ 14 (μ 0 16).toNat (μ 53 (wr ((wr ((wr (90 * v2)) + v4)) + (wr (3 * v6)))).toNat)) 0 16).toNat) = 2 then e_X12_read_339 v1 v2 o3 v4 v5 v6 o7 15 ((up μ 14 (μ 0 16).toNat (μ 53 (wr ((wr ((wr (90 * v2)) + v4)) + (wr (3 * v6)))).toNat)) 0 16) (-4) (up μ 14 (μ 0 16).toNat (μ 53 (wr ((wr ((wr (90 * v2)) + v4)) + (wr (3 * v6)))).toNat)) else gi (wr ((wr ((wr ((wr (90 * v2)) + v4)) + (wr (3 * v6)))) + 1)) (lnR 53) (e_X12_read_339 v1 v2 o3 v4 v5 v6 o7 15 ((up μ 14 (μ 0 16).toNat (μ 53 (wr ((wr ((wr (90 * v2)) + v4)) + (wr (3 * v6)))).toNat)) 0 16) ((up μ 14 (μ 0 16).toNat (μ 53 (wr ((wr ((wr (90 * v2)) + v4)) + (wr (3 * v6)))).toNat)) 53 (wr ((wr ((wr ((wr (90 * v2)) + v4)) + (wr (3 * v6)))) + 1)).toNat) (up μ 14 (μ 0 16).toNat (μ 53 (wr ((wr ((wr (90 * v2)) + v4)) + (wr (3 * v6)))).toNat)))))) else gi v1 (lnR 13) (gi v1 (lnR 12) (cV (f_X12_becomes [vR 12 0, vI v1, vI 2] (up (up (up μ 13 (v1).toNat (μ 0 15)) 0 15 (wr (((up μ 13 (v1).toNat (μ 0 15)) 0 15) + 1))) 12 (v1).toNat (-4))) (fun μ1 => if (μ1 0 45) = v1 then some (some (vI 1), up μ1 0 45 (-4)) else some (some (vI 1), up μ1 0 45 (μ1 0 45)))))) :=
  (Rn_rc kt_X12_read [112, 261, 339] 265 _ _ _ _).trans rfl
set_option maxRecDepth 100000 in
set_option maxHeartbeats 2000000 in
theorem q_X12_read_339 (v1 : Int) (v2 : Int) (o3 : Option AV) (v4 : Int) (v5 : Int) (v6 : Int) (o7 : Option AV) (s0 : Nat) (s1 : Int) (s2 : Int) (μ : Mem) : e_X12_read_339 v1 v2 o3 v4 v5 v6 o7 s0 s1 s2 μ = (gi s1 (lnR s0) (gi (wr ((wr ((wr ((wr (90 * v2)) + v4)) + (wr (3 * v6)))) + 2)) (lnR 53) (gi ((up μ s0 (s1).toNat s2) 0 16) (lnR 16) (e_X12_read_261 v1 v2 o3 v4 v5 (wr (v6 + 1)) o7 (up (up (up μ s0 (s1).toNat s2) 16 ((up μ s0 (s1).toNat s2) 0 16).toNat ((up μ s0 (s1).toNat s2) 53 (wr ((wr ((wr ((wr (90 * v2)) + v4)) + (wr (3 * v6)))) + 2)).toNat)) 0 16 (wr (((up (up μ s0 (s1).toNat s2) 16 ((up μ s0 (s1).toNat s2) 0 16).toNat ((up μ s0 (s1).toNat s2) 53 (wr ((wr ((wr ((wr (90 * v2)) + v4)) + (wr (3 * v6)))) + 2)).toNat)) 0 16) + 1))))))) :=
  (Rn_rc kt_X12_read [112, 261, 339] 265 _ _ _ _).trans rfl
noncomputable def e_X12_inState_4 (v1 : Int) (v2 : Int) (v3 : Int) (μ : Mem) : Option Rs := Rn kc_X12_inState 4 [some (vR 12 0), some (vI v1), some (vI v2), some (vI v3)] [] μ
set_option maxRecDepth 100000 in
set_option maxHeartbeats 2000000 in
theorem q_X12_inState (v1 : Int) (μ : Mem) : f_X12_inState [vR 12 0, vI v1] μ = (e_X12_inState_4 v1 0 0 μ) :=
  show Rn kc_X12_inState 0 [some (vR 12 0), some (vI v1), none, none] [] μ = _ from (Rn_rc kt_X12_inState [4] 29 _ _ _ _).trans rfl
set_option maxRecDepth 100000 in
set_option maxHeartbeats 2000000 in
theorem q_X12_inState_4 (v1 : Int) (v2 : Int) (v3 : Int) (μ : Mem) : e_X12_inState_4 v1 v2 v3 μ = (if v3 < (μ 0 5) then gi v3 (lnR 7) (if (μ 7 (v3).toNat) = v1 then e_X12_inState_4 v1 (wr (v2 + 1)) (wr (v3 + 1)) μ else e_X12_inState_4 v1 (wr (v2 + 0)) (wr (v3 + 1)) μ) else some (some (vI v2), μ)) :=
  (Rn_rc kt_X12_inState [4] 29 _ _ _ _).trans rfl
set_option maxRecDepth 100000 in
set_option maxHeartbeats 2000000 in
theorem q_X12_count (v1 : Int) (μ : Mem) : f_X12_count [vR 12 0, vI v1] μ = (if v1 = 0 then some (some (vI (μ 0 5)), μ) else if v1 = 1 then cI (f_X12_inState [vR 12 0, vI (wr (v1 - 1))] μ) (fun x2 μ1 => some (some (vI x2), μ1)) else if v1 = 2 then cI (f_X12_inState [vR 12 0, vI (wr (v1 - 1))] μ) (fun x4 μ3 => some (some (vI x4), μ3)) else if v1 = 3 then cI (f_X12_inState [vR 12 0, vI (wr (v1 - 1))] μ) (fun x6 μ5 => some (some (vI x6), μ5)) else if v1 = 4 then cI (f_X12_inState [vR 12 0, vI (wr (v1 - 1))] μ) (fun x8 μ7 => some (some (vI x8), μ7)) else if v1 = 5 then some (some (vI (μ 0 0)), μ) else if v1 = 6 then some (some (vI (μ 0 16)), μ) else if v1 = 7 then some (some (vI (μ 0 21)), μ) else if v1 = 8 then some (some (vI (μ 0 22)), μ) else if v1 = 9 then some (some (vI (μ 0 25)), μ) else if v1 = 10 then gi 0 (lnR 51) (if (μ 51 (0 : Int).toNat) = (-4) then some (some (vI (-4)), μ) else gi 0 (lnR 52) (some (some (vI (μ 52 (0 : Int).toNat)), μ))) else some (some (vI (-1)), μ)) :=
  show Rn kc_X12_count 0 [some (vR 12 0), some (vI v1)] [] μ = _ from (Rn_rc kt_X12_count [] 46 _ _ _ _).trans rfl
