/-! at the law's entry: the classes' own rows -/
section STAT
variable {s : State} {args : Array Value}
theorem va_Z.less {C n d : String} {v : Value} {A B : Nat → Prop} {U : State} {H : Heap} (hAB : ∀ q, B q → A q) (h : va_Z C n d v A U H) : va_Z C n d v B U H := by
  obtain ⟨cf, kf, fi, f, a, cell, h1, h2, h3, h4, h5, h6, h7, h8⟩ := h
  exact ⟨cf, kf, fi, f, a, cell, h1, h2, h3, h4, h5, h6, h7, fun q => h8 (hAB _ q)⟩
theorem va_T.less {ty : FieldType} {t N : Nat} {f : Nat → Value} {A B : Nat → Prop} {U : State} {H : Heap} (hAB : ∀ q, B q → A q) (h : va_T ty t N f A U H) : va_T ty t N f B U H := by
  obtain ⟨cell, h1, h2, h3, h4, h5, h6, h7⟩ := h
  exact ⟨cell, h1, h2, h3, h4, h5, h6, fun q => h7 (hAB _ q)⟩
set_option maxRecDepth 100000 in
theorem stat_known (hts : ∀ w ∈ lw_tbl, w.before args s = true) (hgv : (Cond.and given_1 narrow_1).before args s = true) : ∃ sa : Nat → Nat, ∀ (j : Nat) (q : String × String × String × FieldType × Nat × (Nat → Int)), sTab[j]? = some q → va_Z q.1 q.2.1 q.2.2.1 (.ref (sa j)) (nwA s.heap.size) s s.heap ∧ va_T q.2.2.2.1 (sa j) q.2.2.2.2.1 (fun i => .int (q32 (q.2.2.2.2.2 i))) (nwA s.heap.size) s s.heap := by
  have hfl := flat_of_before _ hgv
  obtain ⟨t0, h0⟩ := stat1 (C := "ShownLibrary$Tape") (n := "WORD_LINE") (d := "[B") (ty := .byte) (N := 4) (f := fun i => [119, 111, 114, 100].getD i 0) hfl (hts _ (by decide +kernel)) (hts _ (by decide +kernel)) (by decide) (by decide +kernel) (by decide +kernel) (by decide +kernel) nwA_no
  obtain ⟨t1, h1⟩ := stat1 (C := "ShownLibrary$Tape") (n := "TAKEN_LINE") (d := "[B") (ty := .byte) (N := 5) (f := fun i => [116, 97, 107, 101, 110].getD i 0) hfl (hts _ (by decide +kernel)) (hts _ (by decide +kernel)) (by decide) (by decide +kernel) (by decide +kernel) (by decide +kernel) nwA_no
  obtain ⟨t2, h2⟩ := stat1 (C := "ShownLibrary$Tape") (n := "WISH_LINE") (d := "[B") (ty := .byte) (N := 4) (f := fun i => [119, 105, 115, 104].getD i 0) hfl (hts _ (by decide +kernel)) (hts _ (by decide +kernel)) (by decide) (by decide +kernel) (by decide +kernel) (by decide +kernel) nwA_no
  obtain ⟨t3, h3⟩ := stat1 (C := "ShownLibrary$Worlds") (n := "HOW_MANY") (d := "[I") (ty := .int) (N := 4) (f := fun i => [0, 1, 32, 59049].getD i 0) hfl (hts _ (by decide +kernel)) (hts _ (by decide +kernel)) (by decide) (by decide +kernel) (by decide +kernel) (by decide +kernel) nwA_no
  obtain ⟨t4, h4⟩ := stat1 (C := "ShownLibrary$Likeness") (n := "RENAMINGS") (d := "[I") (ty := .int) (N := 18) (f := fun i => [0, 1, 2, 0, 2, 1, 1, 0, 2, 1, 2, 0, 2, 0, 1, 2, 1, 0].getD i 0) hfl (hts _ (by decide +kernel)) (hts _ (by decide +kernel)) (by decide) (by decide +kernel) (by decide +kernel) (by decide +kernel) nwA_no
  refine ⟨fun j => [t0, t1, t2, t3, t4].getD j 0, fun j q hq => ?_⟩
  have hlt : j < 5 := (List.getElem?_eq_some_iff.mp hq).1
  match j, hlt, hq with
  | 0, _, hq => cases hq; exact h0
  | 1, _, hq => cases hq; exact h1
  | 2, _, hq => cases hq; exact h2
  | 3, _, hq => cases hq; exact h3
  | 4, _, hq => cases hq; exact h4
theorem gtb_of (hts : ∀ w ∈ lw_tbl, w.before args s = true) : ∀ w ∈ gtb, w.before args s = true := fun w hw => hts w (List.mem_filter.mp hw).1
theorem va_Z.all {L : Lo} {G : Wp} (hAB : ∀ q, Ar L G q → nwA s.heap.size q) (h : ∀ (j : Nat) (q : String × String × String × FieldType × Nat × (Nat → Int)), sTab[j]? = some q → va_Z q.1 q.2.1 q.2.2.1 (.ref (G.2.2.2 j)) (nwA s.heap.size) s s.heap ∧ va_T q.2.2.2.1 (G.2.2.2 j) q.2.2.2.2.1 (fun i => .int (q32 (q.2.2.2.2.2 i))) (nwA s.heap.size) s s.heap) : SZ L G s := fun j q hq => ⟨(h j q hq).1.less hAB, (h j q hq).2.less hAB⟩
end STAT
