/-! at the law's entry: the classes and the rows are known -/
set_option maxRecDepth 100000 in
theorem w_116 : Cond.instantiable RX11 11 ∈ gtb := mg 116 rfl rfl
set_option maxRecDepth 100000 in
theorem w_1233 : Cond.instantiable RX12 83 ∈ gtb := mg 1233 rfl rfl
section ENTRY
variable {s : State} {args : Array Value}
theorem cls_known (hts : ∀ w ∈ gtb, w.before args s = true) : ∃ D : va_G, ∀ (c : Nat) (q : vw_C), vwCl[c]? = some q → u_Kn s q.1 q.2.1 q.2.2 (D.1 c) (D.2 c) := by
  obtain ⟨c0, i0, h0⟩ := u_known (C := RX0) (T := TX0) (N := 11) hts inG_X0 (hts _ w_500)
  obtain ⟨c1, i1, h1⟩ := u_known (C := RX1) (T := TX1) (N := 9) hts inG_X1 (hts _ w_363)
  obtain ⟨c2, i2, h2⟩ := u_known (C := RX2) (T := TX2) (N := 11) hts inG_X2 (hts _ w_186)
  obtain ⟨c3, i3, h3⟩ := u_known (C := RX3) (T := TX3) (N := 11) hts inG_X3 (hts _ w_179)
  obtain ⟨c4, i4, h4⟩ := u_known (C := RX4) (T := TX4) (N := 18) hts inG_X4 (hts _ w_403)
  obtain ⟨c5, i5, h5⟩ := u_known (C := RX5) (T := TX5) (N := 3) hts inG_X5 (hts _ w_542)
  obtain ⟨c6, i6, h6⟩ := u_known (C := RX6) (T := TX6) (N := 7) hts inG_X6 (hts _ w_332)
  obtain ⟨c7, i7, h7⟩ := u_known (C := RX7) (T := TX7) (N := 10) hts inG_X7 (hts _ w_291)
  obtain ⟨c8, i8, h8⟩ := u_known (C := RX8) (T := TX8) (N := 2) hts inG_X8 (hts _ w_131)
  obtain ⟨c9, i9, h9⟩ := u_known (C := RX9) (T := TX9) (N := 6) hts inG_X9 (hts _ w_124)
  obtain ⟨c10, i10, h10⟩ := u_known (C := RX10) (T := TX10) (N := 8) hts inG_X10 (hts _ w_467)
  obtain ⟨c11, i11, h11⟩ := u_known (C := RX11) (T := TX11) (N := 11) hts inG_X11 (hts _ w_116)
  obtain ⟨c12, i12, h12⟩ := u_known (C := RX12) (T := TX12) (N := 83) hts inG_X12 (hts _ w_1233)
  refine ⟨(fun k => [c0, c1, c2, c3, c4, c5, c6, c7, c8, c9, c10, c11, c12].getD k c0, fun k => [i0, i1, i2, i3, i4, i5, i6, i7, i8, i9, i10, i11, i12].getD k i0), fun c q hq => ?_⟩
  have hlt : c < 13 := (List.getElem?_eq_some_iff.mp hq).1
  match c, hlt, hq with
  | 0, _, hq => cases hq; exact h0
  | 1, _, hq => cases hq; exact h1
  | 2, _, hq => cases hq; exact h2
  | 3, _, hq => cases hq; exact h3
  | 4, _, hq => cases hq; exact h4
  | 5, _, hq => cases hq; exact h5
  | 6, _, hq => cases hq; exact h6
  | 7, _, hq => cases hq; exact h7
  | 8, _, hq => cases hq; exact h8
  | 9, _, hq => cases hq; exact h9
  | 10, _, hq => cases hq; exact h10
  | 11, _, hq => cases hq; exact h11
  | 12, _, hq => cases hq; exact h12
theorem arr_known {ty : FieldType} (h : (Cond.arrayClass ty).before args s = true) (hty : ∀ C, ty ≠ .object C) : ∃ c k comp, s.vm.findClass ("[" ++ ty.toString) = some c ∧ s.vm.classes[c]? = some k ∧ k.kind = .array comp ty ∧ ArrOfT s c ty ∧ va_RA s c ty := by
  obtain ⟨c, k, comp, h1, h2, h3⟩ := Cond.arrayClass_spec h
  refine ⟨c, k, comp, h1, h2, h3, fun n z => ⟨fun k h => (by cases h), k, h2, comp, h3⟩, ?_⟩
  cases ty <;> first | exact h1 | exact absurd rfl (hty _)
theorem arq_known {C : String} (h : (Cond.arrayOver (.object C)).before args s = true) : ∃ c, ArrOfT s c (.object C) ∧ va_RA s c (.object C) := by
  obtain ⟨comp, c, k, h1, -, h2, h3, h4⟩ := Cond.arrayOver_spec h
  exact ⟨c, fun n z => ⟨fun k h => (by cases h), k, h2, comp, h3⟩, k, comp, h2, h3, h1, h4⟩
theorem arr_all (hts : ∀ w ∈ gtb, w.before args s = true) (hT : (Cond.arrayOver (.object "ShownLibrary$Term")).before args s = true) (hS : (Cond.arrayOver (.object "ShownLibrary$Saying")).before args s = true) (hA : (Cond.arrayOver (.array .int)).before args s = true) :
    ∃ cA : Nat → ClassId, (∀ t, 20 ≤ t → t < 30 → ArrOfT s (cA t) (et t) ∧ va_RA s (cA t) (et t)) ∧ ∃ (kA kC : Class) (cC : ClassId), s.vm.findClass "[[I" = some (cA 26) ∧ s.vm.classes[cA 26]? = some kA ∧ kA.kind = .array (cA 20) (.array .int) ∧ s.vm.classes[cA 20]? = some kC ∧ kC.kind = .array cC .int := by
  obtain ⟨cI, kI, oI, i1, i2, i3, i4, i5⟩ := arr_known (hts _ w_153) (fun C q => by cases q)
  obtain ⟨cB, kB, oB, b1, b2, b3, b4, b5⟩ := arr_known (hts _ w_154) (fun C q => by cases q)
  obtain ⟨cS, kS, oS, s1, s2, s3, s4, s5⟩ := arr_known (hts _ w_249) (fun C q => by cases q)
  obtain ⟨cZ, kZ, oZ, z1, z2, z3, z4, z5⟩ := arr_known (hts _ w_1488) (fun C q => by cases q)
  obtain ⟨cT, t4, t5⟩ := arq_known hT
  obtain ⟨cY, y4, y5⟩ := arq_known hS
  obtain ⟨comp, cR, kR, r1, -, r2, r3, r4⟩ := arrayOverA_spec hA
  have e : comp = cI := Option.some.inj (r1.symm.trans i1)
  subst e
  refine ⟨fun t => [comp, cB, cS, cZ, cT, cY, cR, cT, cT, cT].getD (t - 20) comp, fun t h1 h2 => ?_, kR, kI, oI, r4, r2, r3, i2, i3⟩
  match t, h1, h2 with
  | 20, _, _ => exact ⟨i4, i5⟩
  | 21, _, _ => exact ⟨b4, b5⟩
  | 22, _, _ => exact ⟨s4, s5⟩
  | 23, _, _ => exact ⟨z4, z5⟩
  | 24, _, _ => exact ⟨t4, t5⟩
  | 25, _, _ => exact ⟨y4, y5⟩
  | 26, _, _ => exact ⟨fun n z => ⟨fun k h => (by cases h), kR, r2, comp, r3⟩, r4⟩
  | 27, _, _ => exact ⟨t4, t5⟩
  | 28, _, _ => exact ⟨t4, t5⟩
  | 29, _, _ => exact ⟨t4, t5⟩
  | t + 30, _, h2 => exact absurd h2 (by omega)
theorem stat1 {C n d : String} {ty : FieldType} {N : Nat} {f : Nat → Int} {A : Nat → Prop} (hfl : ∀ c ∈ flatC (Cond.and given_1 narrow_1), c.before args s = true) (hl : (Cond.laysStatic C n d).before args s = true) (hini : (Cond.initialized C).before args s = true) (hN : N < 2 ^ 31) (h1 : Cond.arrayOf (.static C n d) ty ∈ flatC (Cond.and given_1 narrow_1)) (h2 : Cond.eq (.length (.static C n d)) (.int (Int32.ofNat N)) ∈ flatC (Cond.and given_1 narrow_1)) (h3 : ∀ j, j < N → Cond.eq (.elem (.static C n d) (.int (Int32.ofNat j))) (.int (q32 (f j))) ∈ flatC (Cond.and given_1 narrow_1)) (hA : ∀ a : Nat, a < s.heap.size → ¬ A a) : ∃ t, va_Z C n d (.ref t) A s s.heap ∧ va_T ty t N (fun i => .int (q32 (f i))) A s s.heap := by
  obtain ⟨t, ht, hT⟩ := va_Tof (f := fun i => .int (q32 (f i))) hN (hfl _ h1) (va_eqt (hfl _ h2)) (fun j hj => va_eqt (hfl _ (h3 j hj))) hA
  exact ⟨t, va_Zof hl hini ht hA, hT⟩
end ENTRY
