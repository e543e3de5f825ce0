/-! every instruction fails, or returns, or hands on to one place -/
def T3 (F : Kt → Option Rs) : Prop := (∀ k, F k = none) ∨ (∃ r, ∀ k, F k = some r) ∨ ∃ pc ls' st' μ', ∀ k, F k = k pc ls' st' μ'
theorem t3_n : T3 (fun _ => none) := Or.inl fun _ => rfl
theorem t3_r (r : Rs) : T3 (fun _ => some r) := Or.inr (Or.inl ⟨r, fun _ => rfl⟩)
theorem t3_k (pc : Nat) (ls : Lc) (st : List AV) (μ : Mem) : T3 (fun k => k pc ls st μ) := Or.inr (Or.inr ⟨pc, ls, st, μ, fun _ => rfl⟩)
theorem t3_ite {c : Prop} (d : Decidable c) {A B : Kt → Option Rs} (hA : T3 A) (hB : T3 B) : T3 (fun k => @ite _ c d (A k) (B k)) := by
  by_cases h : c
  · have e : (fun k => @ite _ c d (A k) (B k)) = A := funext fun k => if_pos h
    rw [e]; exact hA
  · have e : (fun k => @ite _ c d (A k) (B k)) = B := funext fun k => if_neg h
    rw [e]; exact hB
theorem t3_gi (i : Int) (n : Nat) {A : Kt → Option Rs} (hA : T3 A) : T3 (fun k => gi i n (A k)) := t3_ite _ hA t3_n
theorem t3_gz (x : Int) {A : Kt → Option Rs} (hA : T3 A) : T3 (fun k => gz x (A k)) := t3_ite _ hA t3_n
theorem t3_gn (x : Int) {A : Kt → Option Rs} (hA : T3 A) : T3 (fun k => gn x (A k)) := t3_ite _ hA t3_n
theorem t3_cI (r : Option Rs) {A : Int → Mem → Kt → Option Rs} (hA : ∀ x μ, T3 (A x μ)) : T3 (fun k => cI r (fun x μ => A x μ k)) := by
  rcases r with _ | ⟨_ | (x | x | x), μ⟩
  · exact t3_n
  · exact t3_n
  · exact hA x μ
  · exact t3_n
  · exact t3_n
theorem t3_cV (r : Option Rs) {A : Mem → Kt → Option Rs} (hA : ∀ μ, T3 (A μ)) : T3 (fun k => cV r (fun μ => A μ k)) := by
  rcases r with _ | ⟨_ | x, μ⟩
  · exact t3_n
  · exact hA μ
  · exact t3_n
theorem t3_cR (t : Nat) (r : Option Rs) {A : Mem → Kt → Option Rs} {B : Nat → Mem → Kt → Option Rs} (hA : ∀ μ, T3 (A μ)) (hB : ∀ c μ, T3 (B c μ)) : T3 (fun k => cR t r (fun μ => A μ k) (fun c μ => B c μ k)) := by
  rcases r with _ | ⟨_ | (x | x | (_ | ⟨t', c⟩)), μ⟩
  · exact t3_n
  · exact t3_n
  · exact t3_n
  · exact t3_n
  · exact hA μ
  · exact t3_ite _ (hB c μ) t3_n
theorem t3_swt (x : Int) (d : Nat) {A : Nat → Kt → Option Rs} (hA : ∀ t, T3 (A t)) : ∀ (v : Int) (ts : List Nat), T3 (fun k => swt x d (fun t => A t k) v ts)
  | _, [] => hA d
  | v, t :: ts => t3_ite _ (hA t) (t3_swt x d hA (v + 1) ts)

theorem tri_push (n : Nat) (v : AV) : Tri (i_push n v) := by
  intro ls st μ
  skip
  all_goals first | exact t3_n | exact t3_k _ _ _ _
theorem tri_iload (n j : Nat) : Tri (i_iload n j) := by
  intro ls st μ
  show T3 (fun k => i_iload n j ls st μ k)
  unfold i_iload
  rcases ls[j]? with _ | _ | x | x | x
  all_goals first | exact t3_n | exact t3_k _ _ _ _
theorem tri_lload (n j : Nat) : Tri (i_lload n j) := by
  intro ls st μ
  show T3 (fun k => i_lload n j ls st μ k)
  unfold i_lload
  rcases ls[j]? with _ | _ | x | x | x
  all_goals first | exact t3_n | exact t3_k _ _ _ _
theorem tri_aload (n j : Nat) : Tri (i_aload n j) := by
  intro ls st μ
  show T3 (fun k => i_aload n j ls st μ k)
  unfold i_aload
  rcases ls[j]? with _ | _ | x | x | x
  all_goals first | exact t3_n | exact t3_k _ _ _ _
theorem tri_istore (n j : Nat) : Tri (i_istore n j) := by
  intro ls st μ
  rcases st with _ | ⟨x | x | _ | ⟨t1, c1⟩, st⟩
  all_goals first | exact t3_n | exact t3_k _ _ _ _
theorem tri_astore (n j : Nat) : Tri (i_astore n j) := by
  intro ls st μ
  rcases st with _ | ⟨x | x | _ | ⟨t1, c1⟩, st⟩
  all_goals first | exact t3_n | exact t3_k _ _ _ _
theorem tri_iinc (n j : Nat) (d : Int) : Tri (i_iinc n j d) := by
  intro ls st μ
  show T3 (fun k => i_iinc n j d ls st μ k)
  unfold i_iinc
  rcases ls[j]? with _ | _ | x | x | x
  all_goals first | exact t3_n | exact t3_k _ _ _ _
theorem tri_bin (n : Nat) (f : Int → Int → Int) : Tri (i_bin n f) := by
  intro ls st μ
  rcases st with _ | ⟨x | x | _ | ⟨t1, c1⟩, _ | ⟨y | y | _ | ⟨t2, c2⟩, st⟩⟩
  all_goals first | exact t3_n | exact t3_k _ _ _ _
theorem tri_div (n : Nat) (f : Int → Int → Int) : Tri (i_div n f) := by
  intro ls st μ
  rcases st with _ | ⟨x | x | _ | ⟨t1, c1⟩, _ | ⟨y | y | _ | ⟨t2, c2⟩, st⟩⟩
  all_goals first | exact t3_n | exact t3_gn _ (t3_k _ _ _ _)
theorem tri_un (n : Nat) (f : Int → Int) : Tri (i_un n f) := by
  intro ls st μ
  rcases st with _ | ⟨x | x | _ | ⟨t1, c1⟩, st⟩
  all_goals first | exact t3_n | exact t3_k _ _ _ _
theorem tri_i2l (n : Nat) : Tri (i_i2l n) := by
  intro ls st μ
  rcases st with _ | ⟨x | x | _ | ⟨t1, c1⟩, st⟩
  all_goals first | exact t3_n | exact t3_k _ _ _ _
theorem tri_l2i (n : Nat) : Tri (i_l2i n) := by
  intro ls st μ
  rcases st with _ | ⟨x | x | _ | ⟨t1, c1⟩, st⟩
  all_goals first | exact t3_n | exact t3_k _ _ _ _
theorem tri_lbin (n : Nat) (f : Int → Int → Int) : Tri (i_lbin n f) := by
  intro ls st μ
  rcases st with _ | ⟨x | x | _ | ⟨t1, c1⟩, _ | ⟨y | y | _ | ⟨t2, c2⟩, st⟩⟩
  all_goals first | exact t3_n | exact t3_k _ _ _ _
theorem tri_lsh (n : Nat) (f : Int → Int → Int) : Tri (i_lsh n f) := by
  intro ls st μ
  rcases st with _ | ⟨x | x | _ | ⟨t1, c1⟩, _ | ⟨y | y | _ | ⟨t2, c2⟩, st⟩⟩
  all_goals first | exact t3_n | exact t3_k _ _ _ _
theorem tri_lcmp (n : Nat) : Tri (i_lcmp n) := by
  intro ls st μ
  rcases st with _ | ⟨x | x | _ | ⟨t1, c1⟩, _ | ⟨y | y | _ | ⟨t2, c2⟩, st⟩⟩
  all_goals first | exact t3_n | exact t3_k _ _ _ _
theorem tri_dup (n : Nat) : Tri (i_dup n) := by
  intro ls st μ
  rcases st with _ | ⟨x | x | _ | ⟨t1, c1⟩, st⟩
  all_goals first | exact t3_n | exact t3_k _ _ _ _
theorem tri_pop (n : Nat) : Tri (i_pop n) := by
  intro ls st μ
  rcases st with _ | ⟨x | x | _ | ⟨t1, c1⟩, st⟩
  all_goals first | exact t3_n | exact t3_k _ _ _ _
theorem tri_goto (t : Nat) : Tri (i_goto t) := by
  intro ls st μ
  skip
  all_goals first | exact t3_n | exact t3_k _ _ _ _
theorem tri_ifeq (n t : Nat) : Tri (i_ifeq n t) := by
  intro ls st μ
  rcases st with _ | ⟨x | x | _ | ⟨t1, c1⟩, st⟩
  all_goals first | exact t3_n | exact t3_ite _ (t3_k _ _ _ _) (t3_k _ _ _ _)
theorem tri_cmpeq (n t : Nat) : Tri (i_cmpeq n t) := by
  intro ls st μ
  rcases st with _ | ⟨x | x | _ | ⟨t1, c1⟩, _ | ⟨y | y | _ | ⟨t2, c2⟩, st⟩⟩
  all_goals first | exact t3_n | exact t3_ite _ (t3_k _ _ _ _) (t3_k _ _ _ _)
theorem tri_ifne (n t : Nat) : Tri (i_ifne n t) := by
  intro ls st μ
  rcases st with _ | ⟨x | x | _ | ⟨t1, c1⟩, st⟩
  all_goals first | exact t3_n | exact t3_ite _ (t3_k _ _ _ _) (t3_k _ _ _ _)
theorem tri_cmpne (n t : Nat) : Tri (i_cmpne n t) := by
  intro ls st μ
  rcases st with _ | ⟨x | x | _ | ⟨t1, c1⟩, _ | ⟨y | y | _ | ⟨t2, c2⟩, st⟩⟩
  all_goals first | exact t3_n | exact t3_ite _ (t3_k _ _ _ _) (t3_k _ _ _ _)
theorem tri_iflt (n t : Nat) : Tri (i_iflt n t) := by
  intro ls st μ
  rcases st with _ | ⟨x | x | _ | ⟨t1, c1⟩, st⟩
  all_goals first | exact t3_n | exact t3_ite _ (t3_k _ _ _ _) (t3_k _ _ _ _)
theorem tri_cmplt (n t : Nat) : Tri (i_cmplt n t) := by
  intro ls st μ
  rcases st with _ | ⟨x | x | _ | ⟨t1, c1⟩, _ | ⟨y | y | _ | ⟨t2, c2⟩, st⟩⟩
  all_goals first | exact t3_n | exact t3_ite _ (t3_k _ _ _ _) (t3_k _ _ _ _)
theorem tri_ifge (n t : Nat) : Tri (i_ifge n t) := by
  intro ls st μ
  rcases st with _ | ⟨x | x | _ | ⟨t1, c1⟩, st⟩
  all_goals first | exact t3_n | exact t3_ite _ (t3_k _ _ _ _) (t3_k _ _ _ _)
theorem tri_cmpge (n t : Nat) : Tri (i_cmpge n t) := by
  intro ls st μ
  rcases st with _ | ⟨x | x | _ | ⟨t1, c1⟩, _ | ⟨y | y | _ | ⟨t2, c2⟩, st⟩⟩
  all_goals first | exact t3_n | exact t3_ite _ (t3_k _ _ _ _) (t3_k _ _ _ _)
theorem tri_ifgt (n t : Nat) : Tri (i_ifgt n t) := by
  intro ls st μ
  rcases st with _ | ⟨x | x | _ | ⟨t1, c1⟩, st⟩
  all_goals first | exact t3_n | exact t3_ite _ (t3_k _ _ _ _) (t3_k _ _ _ _)
theorem tri_cmpgt (n t : Nat) : Tri (i_cmpgt n t) := by
  intro ls st μ
  rcases st with _ | ⟨x | x | _ | ⟨t1, c1⟩, _ | ⟨y | y | _ | ⟨t2, c2⟩, st⟩⟩
  all_goals first | exact t3_n | exact t3_ite _ (t3_k _ _ _ _) (t3_k _ _ _ _)
theorem tri_ifle (n t : Nat) : Tri (i_ifle n t) := by
  intro ls st μ
  rcases st with _ | ⟨x | x | _ | ⟨t1, c1⟩, st⟩
  all_goals first | exact t3_n | exact t3_ite _ (t3_k _ _ _ _) (t3_k _ _ _ _)
theorem tri_cmple (n t : Nat) : Tri (i_cmple n t) := by
  intro ls st μ
  rcases st with _ | ⟨x | x | _ | ⟨t1, c1⟩, _ | ⟨y | y | _ | ⟨t2, c2⟩, st⟩⟩
  all_goals first | exact t3_n | exact t3_ite _ (t3_k _ _ _ _) (t3_k _ _ _ _)
theorem tri_ifnull (n t : Nat) : Tri (i_ifnull n t) := by
  intro ls st μ
  rcases st with _ | ⟨x | x | _ | ⟨t1, c1⟩, st⟩
  all_goals first | exact t3_n | exact t3_k _ _ _ _
theorem tri_ifnonnull (n t : Nat) : Tri (i_ifnonnull n t) := by
  intro ls st μ
  rcases st with _ | ⟨x | x | _ | ⟨t1, c1⟩, st⟩
  all_goals first | exact t3_n | exact t3_k _ _ _ _
theorem tri_switch (d : Nat) (lo : Int) (ts : List Nat) : Tri (i_switch d lo ts) := by
  intro ls st μ
  rcases st with _ | ⟨x | x | _ | ⟨t1, c1⟩, st⟩
  all_goals first | exact t3_n | exact t3_swt _ _ (fun _ => t3_k _ _ _ _) _ _
theorem tri_getI (n t f : Nat) : Tri (i_getI n t f) := by
  intro ls st μ
  rcases st with _ | ⟨x | x | _ | ⟨t1, c1⟩, st⟩
  all_goals first | exact t3_n | exact t3_ite _ (t3_k _ _ _ _) t3_n
theorem tri_getR (n t t2 : Nat) (g : Nat → Nat) : Tri (i_getR n t t2 g) := by
  intro ls st μ
  rcases st with _ | ⟨x | x | _ | ⟨t1, c1⟩, st⟩
  all_goals first | exact t3_n | exact t3_ite _ (t3_k _ _ _ _) t3_n
theorem tri_getM (n t f t2 : Nat) : Tri (i_getM n t f t2) := by
  intro ls st μ
  rcases st with _ | ⟨x | x | _ | ⟨t1, c1⟩, st⟩
  all_goals first | exact t3_n | exact t3_ite _ (t3_k _ _ _ _) t3_n
theorem tri_putI (n t f : Nat) : Tri (i_putI n t f) := by
  intro ls st μ
  rcases st with _ | ⟨x | x | _ | ⟨t1, c1⟩, _ | ⟨y | y | _ | ⟨t2, c2⟩, st⟩⟩
  all_goals first | exact t3_n | exact t3_ite _ (t3_k _ _ _ _) t3_n
theorem tri_putZ (n t f : Nat) : Tri (i_putZ n t f) := by
  intro ls st μ
  rcases st with _ | ⟨x | x | _ | ⟨t1, c1⟩, _ | ⟨y | y | _ | ⟨t2, c2⟩, st⟩⟩
  all_goals first | exact t3_n | exact t3_ite _ (t3_gz _ (t3_k _ _ _ _)) t3_n
theorem tri_putM (n t f t2 : Nat) : Tri (i_putM n t f t2) := by
  intro ls st μ
  rcases st with _ | ⟨x | x | _ | ⟨t1, c1⟩, _ | ⟨y | y | _ | ⟨t2, c2⟩, st⟩⟩
  all_goals first | exact t3_n | exact t3_ite _ (t3_ite _ (t3_k _ _ _ _) t3_n) t3_n
theorem tri_ald (n t : Nat) (ln : Nat → Nat) : Tri (i_ald n t ln) := by
  intro ls st μ
  rcases st with _ | ⟨x | x | _ | ⟨t1, c1⟩, _ | ⟨y | y | _ | ⟨t2, c2⟩, st⟩⟩
  all_goals first | exact t3_n | exact t3_ite _ (t3_gi _ _ (t3_k _ _ _ _)) t3_n
theorem tri_alds (n t : Nat) (ln : Nat → Nat) (sc : Nat → Nat → Int) : Tri (i_alds n t ln sc) := by
  intro ls st μ
  rcases st with _ | ⟨x | x | _ | ⟨t1, c1⟩, _ | ⟨y | y | _ | ⟨t2, c2⟩, st⟩⟩
  all_goals first | exact t3_n | exact t3_ite _ (t3_gi _ _ (t3_k _ _ _ _)) t3_n
theorem tri_aldR (n t t2 : Nat) (ln : Nat → Nat) (g : Nat → Nat → Nat) : Tri (i_aldR n t t2 ln g) := by
  intro ls st μ
  rcases st with _ | ⟨x | x | _ | ⟨t1, c1⟩, _ | ⟨y | y | _ | ⟨t2, c2⟩, st⟩⟩
  all_goals first | exact t3_n | exact t3_ite _ (t3_gi _ _ (t3_k _ _ _ _)) t3_n
theorem tri_ast (n t : Nat) (ln : Nat → Nat) (w : Int → Int) : Tri (i_ast n t ln w) := by
  intro ls st μ
  rcases st with _ | ⟨x | x | _ | ⟨t1, c1⟩, _ | ⟨y | y | _ | ⟨t2, c2⟩, _ | ⟨z | z | _ | ⟨t3, c3⟩, st⟩⟩⟩
  all_goals first | exact t3_n | exact t3_ite _ (t3_gi _ _ (t3_k _ _ _ _)) t3_n
theorem tri_alen (n t : Nat) (ln : Nat → Nat) : Tri (i_alen n t ln) := by
  intro ls st μ
  rcases st with _ | ⟨x | x | _ | ⟨t1, c1⟩, st⟩
  all_goals first | exact t3_n | exact t3_ite _ (t3_k _ _ _ _) t3_n
theorem tri_iret  : Tri (i_iret ) := by
  intro ls st μ
  rcases st with _ | ⟨x | x | _ | ⟨t1, c1⟩, _ | ⟨y, st⟩⟩
  all_goals first | exact t3_n | exact t3_r _
theorem tri_zret  : Tri (i_zret ) := by
  intro ls st μ
  rcases st with _ | ⟨x | x | _ | ⟨t1, c1⟩, _ | ⟨y, st⟩⟩
  all_goals first | exact t3_n | exact t3_gz _ (t3_r _)
theorem tri_aret  : Tri (i_aret ) := by
  intro ls st μ
  rcases st with _ | ⟨x | x | _ | ⟨t1, c1⟩, _ | ⟨y, st⟩⟩
  all_goals first | exact t3_n | exact t3_r _
theorem tri_vret  : Tri (i_vret ) := by
  intro ls st μ
  rcases st with _ | ⟨x, st⟩
  all_goals first | exact t3_n | exact t3_r _
theorem tri_callI (n a : Nat) (chk : List AV → Bool) (f : List AV → Mem → Option Rs) : Tri (i_callI n a chk f) := by
  intro ls st μ
  skip
  all_goals first | exact t3_n | exact t3_ite _ (t3_cI _ (fun _ _ => t3_k _ _ _ _)) t3_n
theorem tri_callV (n a : Nat) (chk : List AV → Bool) (f : List AV → Mem → Option Rs) : Tri (i_callV n a chk f) := by
  intro ls st μ
  skip
  all_goals first | exact t3_n | exact t3_ite _ (t3_cV _ (fun _ => t3_k _ _ _ _)) t3_n
theorem tri_callR (n a t : Nat) (chk : List AV → Bool) (f : List AV → Mem → Option Rs) : Tri (i_callR n a t chk f) := by
  intro ls st μ
  skip
  all_goals first | exact t3_n | exact t3_ite _ (t3_cR _ _ (fun _ => t3_k _ _ _ _) (fun _ _ => t3_k _ _ _ _)) t3_n
