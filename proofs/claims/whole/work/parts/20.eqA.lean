set_option maxRecDepth 100000 in
set_option maxHeartbeats 2000000 in
theorem q_J6_bitCount_0f7a4 (v0 : Int) (μ : Mem) : f_J6_bitCount_0f7a4 [vI v0] μ = (some (some (vI (bAnd (wr ((wr ((bAnd (wr ((wr ((bAnd (wr (v0 - (bAnd (bUshr v0 1) 1431655765))) 858993459) + (bAnd (bUshr (wr (v0 - (bAnd (bUshr v0 1) 1431655765))) 2) 858993459))) + (bUshr (wr ((bAnd (wr (v0 - (bAnd (bUshr v0 1) 1431655765))) 858993459) + (bAnd (bUshr (wr (v0 - (bAnd (bUshr v0 1) 1431655765))) 2) 858993459))) 4))) 252645135) + (bUshr (bAnd (wr ((wr ((bAnd (wr (v0 - (bAnd (bUshr v0 1) 1431655765))) 858993459) + (bAnd (bUshr (wr (v0 - (bAnd (bUshr v0 1) 1431655765))) 2) 858993459))) + (bUshr (wr ((bAnd (wr (v0 - (bAnd (bUshr v0 1) 1431655765))) 858993459) + (bAnd (bUshr (wr (v0 - (bAnd (bUshr v0 1) 1431655765))) 2) 858993459))) 4))) 252645135) 8))) + (bUshr (wr ((bAnd (wr ((wr ((bAnd (wr (v0 - (bAnd (bUshr v0 1) 1431655765))) 858993459) + (bAnd (bUshr (wr (v0 - (bAnd (bUshr v0 1) 1431655765))) 2) 858993459))) + (bUshr (wr ((bAnd (wr (v0 - (bAnd (bUshr v0 1) 1431655765))) 858993459) + (bAnd (bUshr (wr (v0 - (bAnd (bUshr v0 1) 1431655765))) 2) 858993459))) 4))) 252645135) + (bUshr (bAnd (wr ((wr ((bAnd (wr (v0 - (bAnd (bUshr v0 1) 1431655765))) 858993459) + (bAnd (bUshr (wr (v0 - (bAnd (bUshr v0 1) 1431655765))) 2) 858993459))) + (bUshr (wr ((bAnd (wr (v0 - (bAnd (bUshr v0 1) 1431655765))) 858993459) + (bAnd (bUshr (wr (v0 - (bAnd (bUshr v0 1) 1431655765))) 2) 858993459))) 4))) 252645135) 8))) 16))) 63)), μ)) :=
  show Rn kc_J6_bitCount_0f7a4 0 [some (vI v0)] [] μ = _ from (Rn_rc kt_J6_bitCount_0f7a4 [] 47 _ _ _ _).trans rfl
noncomputable def e_J6_numberOfTrailingZeros_0f7a4_34 (v0 : Int) (v1 : Int) (μ : Mem) : Option Rs := Rn kc_J6_numberOfTrailingZeros_0f7a4 34 [some (vI v0), some (vI v1)] [] μ
set_option maxRecDepth 100000 in
set_option maxHeartbeats 2000000 in
theorem q_J6_numberOfTrailingZeros_0f7a4 (v0 : Int) (μ : Mem) : f_J6_numberOfTrailingZeros_0f7a4 [vI v0] μ = (if (bAnd (bXor v0 (-1)) (wr (v0 - 1))) ≤ 0 then some (some (vI (bAnd (bAnd (bXor v0 (-1)) (wr (v0 - 1))) 32)), μ) else if (bAnd (bXor v0 (-1)) (wr (v0 - 1))) ≤ 65536 then e_J6_numberOfTrailingZeros_0f7a4_34 (bAnd (bXor v0 (-1)) (wr (v0 - 1))) 1 μ else e_J6_numberOfTrailingZeros_0f7a4_34 (bUshr (bAnd (bXor v0 (-1)) (wr (v0 - 1))) 16) (wr (1 + 16)) μ) :=
  show Rn kc_J6_numberOfTrailingZeros_0f7a4 0 [some (vI v0), none] [] μ = _ from (Rn_rc kt_J6_numberOfTrailingZeros_0f7a4 [34] 59 _ _ _ _).trans rfl
set_option maxRecDepth 100000 in
set_option maxHeartbeats 2000000 in
theorem q_J6_numberOfTrailingZeros_0f7a4_34 (v0 : Int) (v1 : Int) (μ : Mem) : e_J6_numberOfTrailingZeros_0f7a4_34 v0 v1 μ = (if v0 ≤ 256 then if v0 ≤ 16 then if v0 ≤ 4 then some (some (vI (wr (v1 + (bUshr v0 1)))), μ) else some (some (vI (wr ((wr (v1 + 2)) + (bUshr (bUshr v0 2) 1)))), μ) else if (bUshr v0 4) ≤ 4 then some (some (vI (wr ((wr (v1 + 4)) + (bUshr (bUshr v0 4) 1)))), μ) else some (some (vI (wr ((wr (wr (v1 + 4) + 2)) + (bUshr (bUshr (bUshr v0 4) 2) 1)))), μ) else if (bUshr v0 8) ≤ 16 then if (bUshr v0 8) ≤ 4 then some (some (vI (wr ((wr (v1 + 8)) + (bUshr (bUshr v0 8) 1)))), μ) else some (some (vI (wr ((wr (wr (v1 + 8) + 2)) + (bUshr (bUshr (bUshr v0 8) 2) 1)))), μ) else if (bUshr (bUshr v0 8) 4) ≤ 4 then some (some (vI (wr ((wr (wr (v1 + 8) + 4)) + (bUshr (bUshr (bUshr v0 8) 4) 1)))), μ) else some (some (vI (wr ((wr (wr (wr (v1 + 8) + 4) + 2)) + (bUshr (bUshr (bUshr (bUshr v0 8) 4) 2) 1)))), μ)) :=
  (Rn_rc kt_J6_numberOfTrailingZeros_0f7a4 [34] 59 _ _ _ _).trans rfl
set_option maxRecDepth 100000 in
set_option maxHeartbeats 2000000 in
theorem q_X8_at (v0 : Nat) (v1 : Int) (μ : Mem) : f_X8_at [vR 8 v0, vI v1] μ = (if v1 < 0 then some (some (vI (-4)), μ) else if v1 < (μ v0 1) then gi v1 (lnC (v0 + 1)) (some (some (vI (μ (v0 + 1) (v1).toNat)), μ)) else some (some (vI (-4)), μ)) :=
  show Rn kc_X8_at 0 [some (vR 8 v0), some (vI v1)] [] μ = _ from (Rn_rc kt_X8_at [] 18 _ _ _ _).trans rfl
set_option maxRecDepth 100000 in
set_option maxHeartbeats 2000000 in
theorem q_X8_add (v0 : Nat) (v1 : Int) (μ : Mem) : f_X8_add [vR 8 v0, vI v1] μ = (if (μ v0 1) < ((lnC (v0 + 1) : Nat) : Int) then gi (μ v0 1) (lnC (v0 + 1)) (gz 1 (some (some (vI 1), up (up μ (v0 + 1) (μ v0 1).toNat (wrB (wrB v1))) v0 1 (wr (((up μ (v0 + 1) (μ v0 1).toNat (wrB (wrB v1))) v0 1) + 1))))) else gz 0 (some (some (vI 0), μ))) :=
  show Rn kc_X8_add 0 [some (vR 8 v0), some (vI v1)] [] μ = _ from (Rn_rc kt_X8_add [] 28 _ _ _ _).trans rfl
noncomputable def e_X8_addPart_38 (v0 : Nat) (v1 : Nat) (o2 : Option AV) (v3 : Int) (v4 : Int) (μ : Mem) : Option Rs := Rn kc_X8_addPart 38 [some (vR 8 v0), some (vR 8 v1), o2, some (vI v3), some (vI v4)] [] μ
set_option maxRecDepth 100000 in
set_option maxHeartbeats 2000000 in
theorem q_X8_addPart (v0 : Nat) (v1 : Nat) (v2 : Int) (v3 : Int) (μ : Mem) : f_X8_addPart [vR 8 v0, vR 8 v1, vI v2, vI v3] μ = (if v2 < 0 then gz 0 (some (some (vI 0), μ)) else if v2 ≤ v3 then if v3 ≤ (μ v1 1) then if (wr (v3 - v2)) ≤ (wr (((lnC (v0 + 1) : Nat) : Int) - (μ v0 1))) then e_X8_addPart_38 v0 v1 (some (vI v2)) v3 v2 μ else gz 0 (some (some (vI 0), μ)) else gz 0 (some (some (vI 0), μ)) else gz 0 (some (some (vI 0), μ))) :=
  show Rn kc_X8_addPart 0 [some (vR 8 v0), some (vR 8 v1), some (vI v2), some (vI v3), none] [] μ = _ from (Rn_rc kt_X8_addPart [38] 50 _ _ _ _).trans rfl
set_option maxRecDepth 100000 in
set_option maxHeartbeats 2000000 in
theorem q_X8_addPart_38 (v0 : Nat) (v1 : Nat) (o2 : Option AV) (v3 : Int) (v4 : Int) (μ : Mem) : e_X8_addPart_38 v0 v1 o2 v3 v4 μ = (if v4 < v3 then gi v4 (lnC (v1 + 1)) (gi (μ v0 1) (lnC (v0 + 1)) (e_X8_addPart_38 v0 v1 o2 v3 (wr (v4 + 1)) (up (up μ (v0 + 1) (μ v0 1).toNat (wrB (μ (v1 + 1) (v4).toNat))) v0 1 (wr (((up μ (v0 + 1) (μ v0 1).toNat (wrB (μ (v1 + 1) (v4).toNat))) v0 1) + 1))))) else gz 1 (some (some (vI 1), μ))) :=
  (Rn_rc kt_X8_addPart [38] 50 _ _ _ _).trans rfl
set_option maxRecDepth 100000 in
set_option maxHeartbeats 2000000 in
theorem q_X8_copy (v0 : Nat) (v1 : Nat) (μ : Mem) : f_X8_copy [vR 8 v0, vR 8 v1] μ = (cI (f_X8_addPart [vR 8 v0, vR 8 v1, vI 0, vI ((up μ v0 1 0) v1 1)] (up μ v0 1 0)) (fun x2 μ1 => some (none, μ1))) :=
  show Rn kc_X8_copy 0 [some (vR 8 v0), some (vR 8 v1)] [] μ = _ from (Rn_rc kt_X8_copy [] 16 _ _ _ _).trans rfl
set_option maxRecDepth 100000 in
set_option maxHeartbeats 2000000 in
theorem q_X8_set (v0 : Nat) (v1 : Int) (v2 : Int) (μ : Mem) : f_X8_set [vR 8 v0, vI v1, vI v2] μ = (if v1 < 0 then some (none, μ) else if v1 < (μ v0 1) then gi v1 (lnC (v0 + 1)) (some (none, up μ (v0 + 1) (v1).toNat (wrB (wrB v2)))) else some (none, μ)) :=
  show Rn kc_X8_set 0 [some (vR 8 v0), some (vI v1), some (vI v2)] [] μ = _ from (Rn_rc kt_X8_set [] 18 _ _ _ _).trans rfl
noncomputable def e_X8_samePart_35 (v0 : Nat) (v1 : Int) (v2 : Int) (v3 : Nat) (v4 : Int) (v5 : Int) (μ : Mem) : Option Rs := Rn kc_X8_samePart 35 [some (vR 8 v0), some (vI v1), some (vI v2), some (vR 8 v3), some (vI v4), some (vI v5)] [] μ
set_option maxRecDepth 100000 in
set_option maxHeartbeats 2000000 in
theorem q_X8_samePart (v0 : Nat) (v1 : Int) (v2 : Int) (v3 : Nat) (v4 : Int) (μ : Mem) : f_X8_samePart [vR 8 v0, vI v1, vI v2, vR 8 v3, vI v4] μ = (if v1 < 0 then gz 0 (some (some (vI 0), μ)) else if v4 < 0 then gz 0 (some (some (vI 0), μ)) else if v2 ≤ (μ v0 1) then if (wr (v2 - v1)) ≤ (wr ((μ v3 1) - v4)) then e_X8_samePart_35 v0 v1 v2 v3 v4 v1 μ else gz 0 (some (some (vI 0), μ)) else gz 0 (some (some (vI 0), μ))) :=
  show Rn kc_X8_samePart 0 [some (vR 8 v0), some (vI v1), some (vI v2), some (vR 8 v3), some (vI v4), none] [] μ = _ from (Rn_rc kt_X8_samePart [35] 47 _ _ _ _).trans rfl
set_option maxRecDepth 100000 in
set_option maxHeartbeats 2000000 in
theorem q_X8_samePart_35 (v0 : Nat) (v1 : Int) (v2 : Int) (v3 : Nat) (v4 : Int) (v5 : Int) (μ : Mem) : e_X8_samePart_35 v0 v1 v2 v3 v4 v5 μ = (if v5 < v2 then gi v5 (lnC (v0 + 1)) (gi (wr ((wr (v4 + v5)) - v1)) (lnC (v3 + 1)) (if (μ (v0 + 1) (v5).toNat) = (μ (v3 + 1) (wr ((wr (v4 + v5)) - v1)).toNat) then e_X8_samePart_35 v0 v1 v2 v3 v4 (wr (v5 + 1)) μ else gz 0 (some (some (vI 0), μ)))) else gz 1 (some (some (vI 1), μ))) :=
  (Rn_rc kt_X8_samePart [35] 47 _ _ _ _).trans rfl
set_option maxRecDepth 100000 in
set_option maxHeartbeats 2000000 in
theorem q_X8_same (v0 : Nat) (v1 : Nat) (μ : Mem) : f_X8_same [vR 8 v0, vR 8 v1] μ = (if (μ v0 1) = (μ v1 1) then cI (f_X8_samePart [vR 8 v0, vI 0, vI (μ v0 1), vR 8 v1, vI 0] μ) (fun x2 μ1 => if x2 = 0 then gz 0 (some (some (vI 0), μ1)) else gz 1 (some (some (vI 1), μ1))) else gz 0 (some (some (vI 0), μ))) :=
  show Rn kc_X8_same 0 [some (vR 8 v0), some (vR 8 v1)] [] μ = _ from (Rn_rc kt_X8_same [] 22 _ _ _ _).trans rfl
noncomputable def e_X8_mark_7 (v0 : Nat) (v1 : Int) (v2 : Int) (μ : Mem) : Option Rs := Rn kc_X8_mark 7 [some (vR 8 v0), some (vI v1), some (vI v2)] [] μ
set_option maxRecDepth 100000 in
set_option maxHeartbeats 2000000 in
theorem q_X8_mark (v0 : Nat) (μ : Mem) : f_X8_mark [vR 8 v0] μ = (e_X8_mark_7 v0 (μ v0 1) 0 μ) :=
  show Rn kc_X8_mark 0 [some (vR 8 v0), none, none] [] μ = _ from (Rn_rc kt_X8_mark [7] 27 _ _ _ _).trans rfl
set_option maxRecDepth 100000 in
set_option maxHeartbeats 2000000 in
theorem q_X8_mark_7 (v0 : Nat) (v1 : Int) (v2 : Int) (μ : Mem) : e_X8_mark_7 v0 v1 v2 μ = (if v2 < (μ v0 1) then gi v2 (lnC (v0 + 1)) (e_X8_mark_7 v0 (wr ((wr (31 * v1)) + (μ (v0 + 1) (v2).toNat))) (wr (v2 + 1)) μ) else some (some (vI v1), μ)) :=
  (Rn_rc kt_X8_mark [7] 27 _ _ _ _).trans rfl
set_option maxRecDepth 100000 in
set_option maxHeartbeats 2000000 in
theorem q_X2_isUsable (v0 : Nat) (μ : Mem) : f_X2_isUsable [vR 2 v0] μ = (if (μ v0 2) = 0 then gz 1 (some (some (vI 1), μ)) else if (μ v0 2) = 2 then gz 1 (some (some (vI 1), μ)) else gz 0 (some (some (vI 0), μ))) :=
  show Rn kc_X2_isUsable 0 [some (vR 2 v0)] [] μ = _ from (Rn_rc kt_X2_isUsable [] 16 _ _ _ _).trans rfl
set_option maxRecDepth 100000 in
set_option maxHeartbeats 2000000 in
theorem q_X2_isOpen (v0 : Nat) (μ : Mem) : f_X2_isOpen [vR 2 v0] μ = (if (μ v0 2) = 1 then gz 1 (some (some (vI 1), μ)) else if (μ v0 2) = 3 then gz 1 (some (some (vI 1), μ)) else gz 0 (some (some (vI 0), μ))) :=
  show Rn kc_X2_isOpen 0 [some (vR 2 v0)] [] μ = _ from (Rn_rc kt_X2_isOpen [] 17 _ _ _ _).trans rfl
set_option maxRecDepth 100000 in
set_option maxHeartbeats 2000000 in
theorem q_X9_numberOf (v1 : Int) (μ : Mem) : f_X9_numberOf [vR 9 1, vI v1] μ = (if v1 < 0 then some (some (vI (-4)), μ) else if v1 < 4 then gi v1 (lnC 4) (some (some (vI (μ 4 (v1).toNat)), μ)) else some (some (vI (-4)), μ)) :=
  show Rn kc_X9_numberOf 0 [some (vR 9 1), some (vI v1)] [] μ = _ from (Rn_rc kt_X9_numberOf [] 17 _ _ _ _).trans rfl
set_option maxRecDepth 100000 in
set_option maxHeartbeats 2000000 in
theorem q_X9_behind (v1 : Int) (μ : Mem) : f_X9_behind [vR 9 1, vI v1] μ = (if v1 = 12 then some (some (vI 2), μ) else if v1 < 0 then some (some (vI 0), μ) else if v1 < 4 then gi v1 (lnC 4) (if (μ 4 (v1).toNat) < 0 then some (some (vI 0), μ) else if (μ 4 (v1).toNat) < (μ 1 5) then gi (μ 4 (v1).toNat) (lnC 3) (some (some (vI (μ 3 (μ 4 (v1).toNat).toNat)), μ)) else some (some (vI 0), μ)) else some (some (vI 0), μ)) :=
  show Rn kc_X9_behind 0 [some (vR 9 1), some (vI v1), none] [] μ = _ from (Rn_rc kt_X9_behind [] 35 _ _ _ _).trans rfl
noncomputable def e_X9_endOf_5 (v1 : Nat) (o2 : Option AV) (v3 : Int) (v4 : Int) (μ : Mem) : Option Rs := Rn kc_X9_endOf 5 [some (vR 9 1), some (vR 8 v1), o2, some (vI v3), some (vI v4)] [] μ
set_option maxRecDepth 100000 in
set_option maxHeartbeats 2000000 in
theorem q_X9_endOf (v1 : Nat) (v2 : Int) (μ : Mem) : f_X9_endOf [vR 9 1, vR 8 v1, vI v2] μ = (e_X9_endOf_5 v1 (some (vI v2)) 1 v2 μ) :=
  show Rn kc_X9_endOf 0 [some (vR 9 1), some (vR 8 v1), some (vI v2), none, none] [] μ = _ from (Rn_rc kt_X9_endOf [5] 29 _ _ _ _).trans rfl
set_option maxRecDepth 100000 in
set_option maxHeartbeats 2000000 in
theorem q_X9_endOf_5 (v1 : Nat) (o2 : Option AV) (v3 : Int) (v4 : Int) (μ : Mem) : e_X9_endOf_5 v1 o2 v3 v4 μ = (if v4 < (μ v1 1) then if v3 ≤ 0 then some (some (vI v4), μ) else cI (f_X8_at [vR 8 v1, vI v4] μ) (fun x2 μ1 => cI (f_X9_behind [vR 9 1, vI x2] μ1) (fun x4 μ3 => e_X9_endOf_5 v1 (kl o2) (wr (v3 + (wr (x4 - 1)))) (wr (v4 + 1)) μ3)) else some (some (vI v4), μ)) :=
  (Rn_rc kt_X9_endOf [5] 29 _ _ _ _).trans rfl
set_option maxRecDepth 100000 in
set_option maxHeartbeats 2000000 in
theorem q_X9_meaningOf (v1 : Int) (μ : Mem) : f_X9_meaningOf [vR 9 1, vI v1] μ = (if v1 < 0 then some (some (vN), μ) else if v1 < (μ 1 5) then gi v1 (lnC 6) (some (some (vR 8 (9 + 4 * (v1).toNat)), μ)) else some (some (vN), μ)) :=
  show Rn kc_X9_meaningOf 0 [some (vR 9 1), some (vI v1)] [] μ = _ from (Rn_rc kt_X9_meaningOf [] 18 _ _ _ _).trans rfl
set_option maxRecDepth 100000 in
set_option maxHeartbeats 2000000 in
theorem q_X9_needOf (v1 : Int) (μ : Mem) : f_X9_needOf [vR 9 1, vI v1] μ = (if v1 < 0 then some (some (vI (-1)), μ) else if v1 < (μ 1 5) then gi v1 (lnC 3) (some (some (vI (μ 3 (v1).toNat)), μ)) else some (some (vI (-1)), μ)) :=
  show Rn kc_X9_needOf 0 [some (vR 9 1), some (vI v1)] [] μ = _ from (Rn_rc kt_X9_needOf [] 18 _ _ _ _).trans rfl
set_option maxRecDepth 100000 in
set_option maxHeartbeats 2000000 in
theorem q_X9_faceOf (v1 : Int) (μ : Mem) : f_X9_faceOf [vR 9 1, vI v1] μ = (if v1 < 0 then some (some (vN), μ) else if v1 < (μ 1 5) then gi v1 (lnC 5) (some (some (vR 8 (7 + 4 * (v1).toNat)), μ)) else some (some (vN), μ)) :=
  show Rn kc_X9_faceOf 0 [some (vR 9 1), some (vI v1)] [] μ = _ from (Rn_rc kt_X9_faceOf [] 18 _ _ _ _).trans rfl
set_option maxRecDepth 100000 in
set_option maxHeartbeats 2000000 in
theorem q_X9_mayStand (v1 : Int) (v2 : Int) (v3 : Int) (μ : Mem) : f_X9_mayStand [vR 9 1, vI v1, vI v2, vI v3] μ = (if v1 < 23 then if v1 = 12 then gz 1 (some (some (vI 1), μ)) else if v1 = 14 then gz 1 (some (some (vI 1), μ)) else cI (f_X9_numberOf [vR 9 1, vI v1] μ) (fun x2 μ1 => if x2 < 0 then gz 0 (some (some (vI 0), μ1)) else if x2 < v3 then gz 1 (some (some (vI 1), μ1)) else gz 0 (some (some (vI 0), μ1))) else if (wr (v1 - 23)) < v2 then gz 1 (some (some (vI 1), μ)) else gz 0 (some (some (vI 0), μ))) :=
  show Rn kc_X9_mayStand 0 [some (vR 9 1), some (vI v1), some (vI v2), some (vI v3), none] [] μ = _ from (Rn_rc kt_X9_mayStand [] 38 _ _ _ _).trans rfl
noncomputable def e_X9_isTerm_6 (v1 : Nat) (v2 : Int) (v3 : Int) (v4 : Int) (v5 : Int) (μ : Mem) : Option Rs := Rn kc_X9_isTerm 6 [some (vR 9 1), some (vR 8 v1), some (vI v2), some (vI v3), some (vI v4), some (vI v5)] [] μ
set_option maxRecDepth 100000 in
set_option maxHeartbeats 2000000 in
theorem q_X9_isTerm (v1 : Nat) (v2 : Int) (v3 : Int) (μ : Mem) : f_X9_isTerm [vR 9 1, vR 8 v1, vI v2, vI v3] μ = (e_X9_isTerm_6 v1 v2 v3 1 0 μ) :=
  show Rn kc_X9_isTerm 0 [some (vR 9 1), some (vR 8 v1), some (vI v2), some (vI v3), none, none] [] μ = _ from (Rn_rc kt_X9_isTerm [6] 43 _ _ _ _).trans rfl
set_option maxRecDepth 100000 in
set_option maxHeartbeats 2000000 in
theorem q_X9_isTerm_6 (v1 : Nat) (v2 : Int) (v3 : Int) (v4 : Int) (v5 : Int) (μ : Mem) : e_X9_isTerm_6 v1 v2 v3 v4 v5 μ = (if v5 < (μ v1 1) then if v4 = 0 then gz 0 (some (some (vI 0), μ)) else cI (f_X8_at [vR 8 v1, vI v5] μ) (fun x2 μ1 => cI (f_X9_mayStand [vR 9 1, vI x2, vI v2, vI v3] μ1) (fun x4 μ3 => if x4 = 0 then gz 0 (some (some (vI 0), μ3)) else cI (f_X8_at [vR 8 v1, vI v5] μ3) (fun x6 μ5 => cI (f_X9_behind [vR 9 1, vI x6] μ5) (fun x8 μ7 => e_X9_isTerm_6 v1 v2 v3 (wr (v4 + (wr (x8 - 1)))) (wr (v5 + 1)) μ7)))) else if v4 = 0 then gz 1 (some (some (vI 1), μ)) else gz 0 (some (some (vI 0), μ))) :=
  (Rn_rc kt_X9_isTerm [6] 43 _ _ _ _).trans rfl
noncomputable def e_X9_add_88 (o1 : Option AV) (v2 : Int) (o3 : Option AV) (v4 : Nat) (v5 : Int) (μ : Mem) : Option Rs := Rn kc_X9_add 88 [some (vR 9 1), o1, some (vI v2), o3, some (vR 8 v4), some (vI v5)] [] μ
set_option maxRecDepth 100000 in
set_option maxHeartbeats 2000000 in
theorem q_X9_add (v1 : Int) (v2 : Int) (v3 : Nat) (μ : Mem) : f_X9_add [vR 9 1, vI v1, vI v2, vR 8 v3] μ = (if (μ 1 5) < 4 then if v1 < 0 then some (none, μ) else if v1 < 4 then gi (μ 1 5) (lnC 2) (gi ((up μ 2 (μ 1 5).toNat v1) 1 5) (lnC 3) (gi v1 (lnC 4) (gi ((up (up (up μ 2 (μ 1 5).toNat v1) 3 ((up μ 2 (μ 1 5).toNat v1) 1 5).toNat v2) 4 (v1).toNat ((up (up μ 2 (μ 1 5).toNat v1) 3 ((up μ 2 (μ 1 5).toNat v1) 1 5).toNat v2) 1 5)) 1 5) (lnC 6) (cV (f_X8_copy [vR 8 (9 + 4 * ((up (up (up μ 2 (μ 1 5).toNat v1) 3 ((up μ 2 (μ 1 5).toNat v1) 1 5).toNat v2) 4 (v1).toNat ((up (up μ 2 (μ 1 5).toNat v1) 3 ((up μ 2 (μ 1 5).toNat v1) 1 5).toNat v2) 1 5)) 1 5).toNat), vR 8 v3] (up (up (up μ 2 (μ 1 5).toNat v1) 3 ((up μ 2 (μ 1 5).toNat v1) 1 5).toNat v2) 4 (v1).toNat ((up (up μ 2 (μ 1 5).toNat v1) 3 ((up μ 2 (μ 1 5).toNat v1) 1 5).toNat v2) 1 5))) (fun μ1 => gi (μ1 1 5) (lnC 5) (cI (f_X8_add [vR 8 (7 + 4 * (μ1 1 5).toNat), vI v1] (up μ1 (7 + 4 * (μ1 1 5).toNat) 1 0)) (fun x3 μ2 => e_X9_add_88 (some (vI v1)) v2 (some (vR 8 v3)) (7 + 4 * (μ1 1 5).toNat) 0 μ2))))))) else some (none, μ) else some (none, μ)) :=
  show Rn kc_X9_add 0 [some (vR 9 1), some (vI v1), some (vI v2), some (vR 8 v3), none, none] [] μ = _ from (Rn_rc kt_X9_add [88] 76 _ _ _ _).trans rfl
set_option maxRecDepth 100000 in
set_option maxHeartbeats 2000000 in
theorem q_X9_add_88 (o1 : Option AV) (v2 : Int) (o3 : Option AV) (v4 : Nat) (v5 : Int) (μ : Mem) : e_X9_add_88 o1 v2 o3 v4 v5 μ = (if v5 < v2 then if v5 < 3 then cI (f_X8_add [vR 8 v4, vI (wr (23 + v5))] μ) (fun x2 μ1 => e_X9_add_88 o1 v2 o3 v4 (wr (v5 + 1)) μ1) else some (none, up μ 1 5 (wr ((μ 1 5) + 1))) else some (none, up μ 1 5 (wr ((μ 1 5) + 1)))) :=
  (Rn_rc kt_X9_add [88] 76 _ _ _ _).trans rfl
noncomputable def e_X9_keep_6 (v1 : Int) (v2 : Int) (μ : Mem) : Option Rs := Rn kc_X9_keep 6 [some (vR 9 1), some (vI v1), some (vI v2)] [] μ
set_option maxRecDepth 100000 in
set_option maxHeartbeats 2000000 in
theorem q_X9_keep (v1 : Int) (μ : Mem) : f_X9_keep [vR 9 1, vI v1] μ = (e_X9_keep_6 v1 (mMax v1 0) μ) :=
  show Rn kc_X9_keep 0 [some (vR 9 1), some (vI v1), none] [] μ = _ from (Rn_rc kt_X9_keep [6] 32 _ _ _ _).trans rfl
set_option maxRecDepth 100000 in
set_option maxHeartbeats 2000000 in
theorem q_X9_keep_6 (v1 : Int) (v2 : Int) (μ : Mem) : e_X9_keep_6 v1 v2 μ = (if v2 < (μ 1 5) then gi v2 (lnC 2) (gi (μ 2 (v2).toNat) (lnC 4) (e_X9_keep_6 v1 (wr (v2 + 1)) (up μ 4 (μ 2 (v2).toNat).toNat (-4)))) else some (none, up μ 1 5 (mMin (μ 1 5) (mMax v1 0)))) :=
  (Rn_rc kt_X9_keep [6] 32 _ _ _ _).trans rfl
set_option maxRecDepth 100000 in
set_option maxHeartbeats 2000000 in
theorem q_X9_letterOf (v1 : Int) (μ : Mem) : f_X9_letterOf [vR 9 1, vI v1] μ = (if v1 < 0 then some (some (vI (-1)), μ) else if v1 < (μ 1 5) then gi v1 (lnC 2) (some (some (vI (μ 2 (v1).toNat)), μ)) else some (some (vI (-1)), μ)) :=
  show Rn kc_X9_letterOf 0 [some (vR 9 1), some (vI v1)] [] μ = _ from (Rn_rc kt_X9_letterOf [] 18 _ _ _ _).trans rfl
