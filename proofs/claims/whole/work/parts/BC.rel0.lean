/-! the first memories are related -/
theorem blt_f {c n : Nat} (h : n ≤ c) : Nat.blt c n = false := by
  cases hb : Nat.blt c n with
  | false => rfl
  | true => exact absurd (Nat.le_of_ble_eq_true hb) (by omega)
theorem tgC_out {c : Nat} (h : 804 ≤ c) : tgC c = 99 := by
  unfold tgC
  rw [blt_f (show 7 ≤ c by omega), blt_f (show 23 ≤ c by omega), blt_f (show 31 ≤ c by omega), blt_f (show 151 ≤ c by omega), blt_f (show 163 ≤ c by omega), blt_f (show 169 ≤ c by omega), blt_f (show 211 ≤ c by omega), blt_f (show 217 ≤ c by omega), blt_f (show 259 ≤ c by omega), blt_f (show 271 ≤ c by omega), blt_f (show 771 ≤ c by omega), blt_f (show 780 ≤ c by omega), blt_f (show 796 ≤ c by omega), blt_f (show 804 ≤ c by omega)]
  rfl
theorem tgC_6 : ∀ c, c < 804 → tgC c = 6 → c = 157 := by decide +kernel
theorem rfC_m {c k : Nat} (hk : rfC c k = some none) : tgC c = 6 ∧ k = 2 := by
  unfold rfC at hk
  split at hk
  all_goals first | (cases hk; done) | skip
  all_goals split at hk
  all_goals first | (cases hk; done) | skip
  exact ⟨by assumption, rfl⟩
theorem ok0C : okM loC (mm0 wsC) := by
  have h : ∀ c i, in32 (lkz 0 i (wsC c)) := by
    intro c i
    have h0 : in32 0 := by unfold in32; omega
    have h1 : in32 (-4) := by unfold in32; omega
    have h2 : in32 158 := by unfold in32; omega
    unfold wsC
    cases Nat.beq c 4 || Nat.beq c 803 with
    | true =>
      show in32 (if i = 3 then -4 else if i = 2 then -4 else if i = 1 then -4 else if i = 0 then -4 else 0)
      split <;> (try split) <;> (try split) <;> (try split) <;> assumption
    | false =>
      cases Nat.beq c 163 || Nat.beq c 211 with
      | true =>
        show in32 (if i = 7 then -4 else 0)
        split <;> assumption
      | false =>
        cases Nat.beq c 157 with
        | true =>
          show in32 (if i = 2 then 158 else 0)
          split <;> assumption
        | false => exact h0
  refine ⟨h, fun c k hk => ?_⟩
  obtain ⟨e1, e2⟩ := rfC_m hk
  by_cases hc : c < 804
  · have e3 := tgC_6 c hc e1
    subst e3
    subst e2
    exact ⟨by decide, by decide +kernel⟩
  · rw [tgC_out (by omega)] at e1
    cases e1
theorem ok0R : okM loR (mm0 wsR) := by
  have h : ∀ c i, in32 (lkz 0 i (wsR c)) := by
    intro c i
    have h0 : in32 0 := by unfold in32; omega
    have h1 : in32 (-4) := by unfold in32; omega
    unfold wsR
    cases Nat.beq c 51 with
    | true =>
      show in32 (if i = 3 then -4 else if i = 2 then -4 else if i = 1 then -4 else if i = 0 then -4 else 0)
      split <;> (try split) <;> (try split) <;> (try split) <;> assumption
    | false =>
      cases Nat.beq c 0 with
      | true =>
        show in32 (if i = 45 then -4 else 0)
        split <;> assumption
      | false => exact h0
  refine ⟨h, fun c k hk => ?_⟩
  have hk : rfR c k = some none := hk
  unfold rfR at hk
  split at hk
  · split at hk <;> cases hk
  · cases hk
theorem rel0 : Rel (mm0 wsC) (mm0 wsR) := by
  have n5 : mm0 wsR 0 5 = 0 := rfl
  have n0 : mm0 wsR 0 0 = 0 := rfl
  have n16 : mm0 wsR 0 16 = 0 := rfl
  have n25 : mm0 wsR 0 25 = 0 := rfl
  have m7 : mm0 wsC 23 7 = 0 := rfl
  refine ⟨⟨rfl, by omega, by omega, rfl, fun i hi => by omega⟩, ⟨rfl, rfl, by decide, by decide⟩, ⟨by omega, by omega, rfl, rfl, fun w hw => by omega, fun v w hv => by omega, fun k hk => ?_⟩, ⟨by omega, by omega, rfl, by omega, by omega, rfl, by decide, rfl, fun e he => by omega⟩, fun i hi => by omega, Or.inl ⟨rfl, rfl, rfl⟩, ⟨by omega, by decide, fun i hi => by omega, fun e d he hd => ⟨⟨Int.le_refl 0, by show (0 : Int) ≤ 4; omega⟩, fun _ => rfl⟩, fun e he => by omega⟩, fun e he => by omega, Or.inl rfl, fun k hk => Or.inl ?_⟩
  · match k, hk with
    | 0, _ => rfl
    | 1, _ => rfl
    | 2, _ => rfl
    | 3, _ => rfl
  · match k, hk with
    | 0, _ => exact ⟨rfl, rfl⟩
    | 1, _ => exact ⟨rfl, rfl⟩
    | 2, _ => exact ⟨rfl, rfl⟩
    | 3, _ => exact ⟨rfl, rfl⟩
