theorem le_24 : ∀ c i, c < loC.1 → loC.2.1 c = 24 → i < loC.2.2.1 c → loC.2.2.2 c i = some (some ((fun c i => c + 1 + 2 * i) c i)) ∧ (fun c i => c + 1 + 2 * i) c i < loC.1 ∧ loC.2.1 ((fun c i => c + 1 + 2 * i) c i) = 8 := by
  have h : ∀ c, c < loC.1 → loC.2.1 c = 24 → ∀ i, i < loC.2.2.1 c → (loC.2.2.2 c i = some (some ((fun c i => c + 1 + 2 * i) c i)) ∧ (fun c i => c + 1 + 2 * i) c i < loC.1 ∧ loC.2.1 ((fun c i => c + 1 + 2 * i) c i) = 8) := by decide +kernel
  exact fun c i h1 h2 h3 => h c h1 h2 i h3
theorem le_25 : ∀ c i, c < loC.1 → loC.2.1 c = 25 → i < loC.2.2.1 c → loC.2.2.2 c i = some (some ((fun _ i => 31 + 5 * i) c i)) ∧ (fun _ i => 31 + 5 * i) c i < loC.1 ∧ loC.2.1 ((fun _ i => 31 + 5 * i) c i) = 2 := by
  have h : ∀ c, c < loC.1 → loC.2.1 c = 25 → ∀ i, i < loC.2.2.1 c → (loC.2.2.2 c i = some (some ((fun _ i => 31 + 5 * i) c i)) ∧ (fun _ i => 31 + 5 * i) c i < loC.1 ∧ loC.2.1 ((fun _ i => 31 + 5 * i) c i) = 2) := by decide +kernel
  exact fun c i h1 h2 h3 => h c h1 h2 i h3
theorem le_26 : ∀ c i, c < loC.1 → loC.2.1 c = 26 → i < loC.2.2.1 c → loC.2.2.2 c i = some (some ((fun c i => c + 1 + i) c i)) ∧ (fun c i => c + 1 + i) c i < loC.1 ∧ loC.2.1 ((fun c i => c + 1 + i) c i) = 20 := by
  have h : ∀ c, c < loC.1 → loC.2.1 c = 26 → ∀ i, i < loC.2.2.1 c → (loC.2.2.2 c i = some (some ((fun c i => c + 1 + i) c i)) ∧ (fun c i => c + 1 + i) c i < loC.1 ∧ loC.2.1 ((fun c i => c + 1 + i) c i) = 20) := by decide +kernel
  exact fun c i h1 h2 h3 => h c h1 h2 i h3
theorem le_27 : ∀ c i, c < loC.1 → loC.2.1 c = 27 → i < loC.2.2.1 c → loC.2.2.2 c i = some (some ((fun _ i => 7 + 4 * i) c i)) ∧ (fun _ i => 7 + 4 * i) c i < loC.1 ∧ loC.2.1 ((fun _ i => 7 + 4 * i) c i) = 8 := by
  have h : ∀ c, c < loC.1 → loC.2.1 c = 27 → ∀ i, i < loC.2.2.1 c → (loC.2.2.2 c i = some (some ((fun _ i => 7 + 4 * i) c i)) ∧ (fun _ i => 7 + 4 * i) c i < loC.1 ∧ loC.2.1 ((fun _ i => 7 + 4 * i) c i) = 8) := by decide +kernel
  exact fun c i h1 h2 h3 => h c h1 h2 i h3
theorem le_28 : ∀ c i, c < loC.1 → loC.2.1 c = 28 → i < loC.2.2.1 c → loC.2.2.2 c i = some (some ((fun _ i => 9 + 4 * i) c i)) ∧ (fun _ i => 9 + 4 * i) c i < loC.1 ∧ loC.2.1 ((fun _ i => 9 + 4 * i) c i) = 8 := by
  have h : ∀ c, c < loC.1 → loC.2.1 c = 28 → ∀ i, i < loC.2.2.1 c → (loC.2.2.2 c i = some (some ((fun _ i => 9 + 4 * i) c i)) ∧ (fun _ i => 9 + 4 * i) c i < loC.1 ∧ loC.2.1 ((fun _ i => 9 + 4 * i) c i) = 8) := by decide +kernel
  exact fun c i h1 h2 h3 => h c h1 h2 i h3
theorem le_29 : ∀ c i, c < loC.1 → loC.2.1 c = 29 → i < loC.2.2.1 c → loC.2.2.2 c i = some (some ((fun _ i => 271 + 2 * i) c i)) ∧ (fun _ i => 271 + 2 * i) c i < loC.1 ∧ loC.2.1 ((fun _ i => 271 + 2 * i) c i) = 8 := by
  have h : ∀ c, c < loC.1 → loC.2.1 c = 29 → ∀ i, i < loC.2.2.1 c → (loC.2.2.2 c i = some (some ((fun _ i => 271 + 2 * i) c i)) ∧ (fun _ i => 271 + 2 * i) c i < loC.1 ∧ loC.2.1 ((fun _ i => 271 + 2 * i) c i) = 8) := by decide +kernel
  exact fun c i h1 h2 h3 => h c h1 h2 i h3
theorem li_X0_10 : ∀ c, c < loC.1 → loC.2.1 c = 0 → loC.2.2.2 c 10 = none := by decide +kernel
theorem li_X1_7 : ∀ c, c < loC.1 → loC.2.1 c = 1 → loC.2.2.2 c 7 = none := by decide +kernel
theorem li_X1_8 : ∀ c, c < loC.1 → loC.2.1 c = 1 → loC.2.2.2 c 8 = none := by decide +kernel
theorem li_X10_6 : ∀ c, c < loC.1 → loC.2.1 c = 10 → loC.2.2.2 c 6 = none := by decide +kernel
theorem li_X10_7 : ∀ c, c < loC.1 → loC.2.1 c = 10 → loC.2.2.2 c 7 = none := by decide +kernel
theorem li_X11_10 : ∀ c, c < loC.1 → loC.2.1 c = 11 → loC.2.2.2 c 10 = none := by decide +kernel
theorem li_X11_9 : ∀ c, c < loC.1 → loC.2.1 c = 11 → loC.2.2.2 c 9 = none := by decide +kernel
theorem li_X12_0 : ∀ c, c < loR.1 → loR.2.1 c = 12 → loR.2.2.2 c 0 = none := by decide +kernel
theorem li_X12_15 : ∀ c, c < loR.1 → loR.2.1 c = 12 → loR.2.2.2 c 15 = none := by decide +kernel
theorem li_X12_16 : ∀ c, c < loR.1 → loR.2.1 c = 12 → loR.2.2.2 c 16 = none := by decide +kernel
theorem li_X12_21 : ∀ c, c < loR.1 → loR.2.1 c = 12 → loR.2.2.2 c 21 = none := by decide +kernel
theorem li_X12_22 : ∀ c, c < loR.1 → loR.2.1 c = 12 → loR.2.2.2 c 22 = none := by decide +kernel
theorem li_X12_23 : ∀ c, c < loR.1 → loR.2.1 c = 12 → loR.2.2.2 c 23 = none := by decide +kernel
theorem li_X12_25 : ∀ c, c < loR.1 → loR.2.1 c = 12 → loR.2.2.2 c 25 = none := by decide +kernel
theorem li_X12_26 : ∀ c, c < loR.1 → loR.2.1 c = 12 → loR.2.2.2 c 26 = none := by decide +kernel
theorem li_X12_27 : ∀ c, c < loR.1 → loR.2.1 c = 12 → loR.2.2.2 c 27 = none := by decide +kernel
theorem li_X12_28 : ∀ c, c < loR.1 → loR.2.1 c = 12 → loR.2.2.2 c 28 = none := by decide +kernel
theorem li_X12_29 : ∀ c, c < loR.1 → loR.2.1 c = 12 → loR.2.2.2 c 29 = none := by decide +kernel
theorem li_X12_30 : ∀ c, c < loR.1 → loR.2.1 c = 12 → loR.2.2.2 c 30 = none := by decide +kernel
theorem li_X12_31 : ∀ c, c < loR.1 → loR.2.1 c = 12 → loR.2.2.2 c 31 = none := by decide +kernel
theorem li_X12_33 : ∀ c, c < loR.1 → loR.2.1 c = 12 → loR.2.2.2 c 33 = none := by decide +kernel
theorem li_X12_34 : ∀ c, c < loR.1 → loR.2.1 c = 12 → loR.2.2.2 c 34 = none := by decide +kernel
theorem li_X12_36 : ∀ c, c < loR.1 → loR.2.1 c = 12 → loR.2.2.2 c 36 = none := by decide +kernel
theorem li_X12_38 : ∀ c, c < loR.1 → loR.2.1 c = 12 → loR.2.2.2 c 38 = none := by decide +kernel
theorem li_X12_42 : ∀ c, c < loR.1 → loR.2.1 c = 12 → loR.2.2.2 c 42 = none := by decide +kernel
theorem li_X12_44 : ∀ c, c < loR.1 → loR.2.1 c = 12 → loR.2.2.2 c 44 = none := by decide +kernel
theorem li_X12_45 : ∀ c, c < loR.1 → loR.2.1 c = 12 → loR.2.2.2 c 45 = none := by decide +kernel
theorem li_X12_46 : ∀ c, c < loR.1 → loR.2.1 c = 12 → loR.2.2.2 c 46 = none := by decide +kernel
theorem li_X12_5 : ∀ c, c < loR.1 → loR.2.1 c = 12 → loR.2.2.2 c 5 = none := by decide +kernel
theorem li_X12_60 : ∀ c, c < loR.1 → loR.2.1 c = 12 → loR.2.2.2 c 60 = none := by decide +kernel
theorem li_X12_61 : ∀ c, c < loR.1 → loR.2.1 c = 12 → loR.2.2.2 c 61 = none := by decide +kernel
theorem li_X12_62 : ∀ c, c < loR.1 → loR.2.1 c = 12 → loR.2.2.2 c 62 = none := by decide +kernel
theorem li_X12_63 : ∀ c, c < loR.1 → loR.2.1 c = 12 → loR.2.2.2 c 63 = none := by decide +kernel
theorem li_X12_64 : ∀ c, c < loR.1 → loR.2.1 c = 12 → loR.2.2.2 c 64 = none := by decide +kernel
theorem li_X12_68 : ∀ c, c < loR.1 → loR.2.1 c = 12 → loR.2.2.2 c 68 = none := by decide +kernel
theorem li_X12_74 : ∀ c, c < loR.1 → loR.2.1 c = 12 → loR.2.2.2 c 74 = none := by decide +kernel
theorem li_X12_76 : ∀ c, c < loR.1 → loR.2.1 c = 12 → loR.2.2.2 c 76 = none := by decide +kernel
theorem li_X2_10 : ∀ c, c < loC.1 → loC.2.1 c = 2 → loC.2.2.2 c 10 = none := by decide +kernel
theorem li_X2_2 : ∀ c, c < loC.1 → loC.2.1 c = 2 → loC.2.2.2 c 2 = none := by decide +kernel
theorem li_X2_3 : ∀ c, c < loC.1 → loC.2.1 c = 2 → loC.2.2.2 c 3 = none := by decide +kernel
theorem li_X2_4 : ∀ c, c < loC.1 → loC.2.1 c = 2 → loC.2.2.2 c 4 = none := by decide +kernel
theorem li_X2_5 : ∀ c, c < loC.1 → loC.2.1 c = 2 → loC.2.2.2 c 5 = none := by decide +kernel
theorem li_X2_6 : ∀ c, c < loC.1 → loC.2.1 c = 2 → loC.2.2.2 c 6 = none := by decide +kernel
theorem li_X2_7 : ∀ c, c < loC.1 → loC.2.1 c = 2 → loC.2.2.2 c 7 = none := by decide +kernel
theorem li_X2_8 : ∀ c, c < loC.1 → loC.2.1 c = 2 → loC.2.2.2 c 8 = none := by decide +kernel
theorem li_X2_9 : ∀ c, c < loC.1 → loC.2.1 c = 2 → loC.2.2.2 c 9 = none := by decide +kernel
theorem li_X3_10 : ∀ c, c < loC.1 → loC.2.1 c = 3 → loC.2.2.2 c 10 = none := by decide +kernel
theorem li_X3_7 : ∀ c, c < loC.1 → loC.2.1 c = 3 → loC.2.2.2 c 7 = none := by decide +kernel
theorem li_X3_8 : ∀ c, c < loC.1 → loC.2.1 c = 3 → loC.2.2.2 c 8 = none := by decide +kernel
theorem li_X3_9 : ∀ c, c < loC.1 → loC.2.1 c = 3 → loC.2.2.2 c 9 = none := by decide +kernel
theorem li_X4_13 : ∀ c, c < loC.1 → loC.2.1 c = 4 → loC.2.2.2 c 13 = none := by decide +kernel
theorem li_X4_14 : ∀ c, c < loC.1 → loC.2.1 c = 4 → loC.2.2.2 c 14 = none := by decide +kernel
theorem li_X4_15 : ∀ c, c < loC.1 → loC.2.1 c = 4 → loC.2.2.2 c 15 = none := by decide +kernel
theorem li_X4_16 : ∀ c, c < loC.1 → loC.2.1 c = 4 → loC.2.2.2 c 16 = none := by decide +kernel
theorem li_X4_17 : ∀ c, c < loC.1 → loC.2.1 c = 4 → loC.2.2.2 c 17 = none := by decide +kernel
theorem li_X6_6 : ∀ c, c < loC.1 → loC.2.1 c = 6 → loC.2.2.2 c 6 = none := by decide +kernel
theorem li_X7_5 : ∀ c, c < loC.1 → loC.2.1 c = 7 → loC.2.2.2 c 5 = none := by decide +kernel
theorem li_X7_6 : ∀ c, c < loC.1 → loC.2.1 c = 7 → loC.2.2.2 c 6 = none := by decide +kernel
theorem li_X7_7 : ∀ c, c < loC.1 → loC.2.1 c = 7 → loC.2.2.2 c 7 = none := by decide +kernel
theorem li_X7_8 : ∀ c, c < loC.1 → loC.2.1 c = 7 → loC.2.2.2 c 8 = none := by decide +kernel
theorem li_X7_9 : ∀ c, c < loC.1 → loC.2.1 c = 7 → loC.2.2.2 c 9 = none := by decide +kernel
theorem li_X8_1 : ∀ c, c < loC.1 → loC.2.1 c = 8 → loC.2.2.2 c 1 = none := by decide +kernel
theorem li_X9_5 : ∀ c, c < loC.1 → loC.2.1 c = 9 → loC.2.2.2 c 5 = none := by decide +kernel
theorem lm_X6_2 : ∀ c, c < loC.1 → loC.2.1 c = 6 → loC.2.2.2 c 2 = some none := by decide +kernel
theorem ll_loC_20 : ∀ c, c < loC.1 → loC.2.1 c = 20 → loC.2.2.1 c < 2 ^ 31 := by decide +kernel
theorem ll_loC_21 : ∀ c, c < loC.1 → loC.2.1 c = 21 → loC.2.2.1 c < 2 ^ 31 := by decide +kernel
theorem lr_X0_0 : ∀ c, c < loC.1 → loC.2.1 c = 0 → loC.2.2.2 c 0 = some (some ((fun _ => 1) c)) ∧ (fun _ => 1) c < loC.1 ∧ loC.2.1 ((fun _ => 1) c) = 9 := by decide +kernel
theorem lr_X0_1 : ∀ c, c < loC.1 → loC.2.1 c = 0 → loC.2.2.2 c 1 = some (some ((fun _ => 23) c)) ∧ (fun _ => 23) c < loC.1 ∧ loC.2.1 ((fun _ => 23) c) = 3 := by decide +kernel
theorem lr_X0_2 : ∀ c, c < loC.1 → loC.2.1 c = 0 → loC.2.2.2 c 2 = some (some ((fun _ => 781) c)) ∧ (fun _ => 781) c < loC.1 ∧ loC.2.1 ((fun _ => 781) c) = 8 := by decide +kernel
theorem lr_X0_3 : ∀ c, c < loC.1 → loC.2.1 c = 0 → loC.2.2.2 c 3 = some (some ((fun _ => 783) c)) ∧ (fun _ => 783) c < loC.1 ∧ loC.2.1 ((fun _ => 783) c) = 8 := by decide +kernel
theorem lr_X0_4 : ∀ c, c < loC.1 → loC.2.1 c = 0 → loC.2.2.2 c 4 = some (some ((fun _ => 785) c)) ∧ (fun _ => 785) c < loC.1 ∧ loC.2.1 ((fun _ => 785) c) = 8 := by decide +kernel
theorem lr_X0_5 : ∀ c, c < loC.1 → loC.2.1 c = 0 → loC.2.2.2 c 5 = some (some ((fun _ => 787) c)) ∧ (fun _ => 787) c < loC.1 ∧ loC.2.1 ((fun _ => 787) c) = 8 := by decide +kernel
theorem lr_X0_6 : ∀ c, c < loC.1 → loC.2.1 c = 0 → loC.2.2.2 c 6 = some (some ((fun _ => 789) c)) ∧ (fun _ => 789) c < loC.1 ∧ loC.2.1 ((fun _ => 789) c) = 8 := by decide +kernel
theorem lr_X0_7 : ∀ c, c < loC.1 → loC.2.1 c = 0 → loC.2.2.2 c 7 = some (some ((fun _ => 791) c)) ∧ (fun _ => 791) c < loC.1 ∧ loC.2.1 ((fun _ => 791) c) = 8 := by decide +kernel
theorem lr_X0_8 : ∀ c, c < loC.1 → loC.2.1 c = 0 → loC.2.2.2 c 8 = some (some ((fun _ => 793) c)) ∧ (fun _ => 793) c < loC.1 ∧ loC.2.1 ((fun _ => 793) c) = 8 := by decide +kernel
theorem lr_X0_9 : ∀ c, c < loC.1 → loC.2.1 c = 0 → loC.2.2.2 c 9 = some (some ((fun _ => 795) c)) ∧ (fun _ => 795) c < loC.1 ∧ loC.2.1 ((fun _ => 795) c) = 20 := by decide +kernel
theorem lr_X1_0 : ∀ c, c < loC.1 → loC.2.1 c = 1 → loC.2.2.2 c 0 = some (some ((fun _ => 157) c)) ∧ (fun _ => 157) c < loC.1 ∧ loC.2.1 ((fun _ => 157) c) = 6 := by decide +kernel
theorem lr_X1_1 : ∀ c, c < loC.1 → loC.2.1 c = 1 → loC.2.2.2 c 1 = some (some ((fun _ => 23) c)) ∧ (fun _ => 23) c < loC.1 ∧ loC.2.1 ((fun _ => 23) c) = 3 := by decide +kernel
theorem lr_X1_2 : ∀ c, c < loC.1 → loC.2.1 c = 1 → loC.2.2.2 c 2 = some (some ((fun c => c + 1) c)) ∧ (fun c => c + 1) c < loC.1 ∧ loC.2.1 ((fun c => c + 1) c) = 20 := by decide +kernel
theorem lr_X1_3 : ∀ c, c < loC.1 → loC.2.1 c = 1 → loC.2.2.2 c 3 = some (some ((fun c => c + 2) c)) ∧ (fun c => c + 2) c < loC.1 ∧ loC.2.1 ((fun c => c + 2) c) = 20 := by decide +kernel
theorem lr_X1_4 : ∀ c, c < loC.1 → loC.2.1 c = 1 → loC.2.2.2 c 4 = some (some ((fun c => c + 3) c)) ∧ (fun c => c + 3) c < loC.1 ∧ loC.2.1 ((fun c => c + 3) c) = 20 := by decide +kernel
theorem lr_X1_5 : ∀ c, c < loC.1 → loC.2.1 c = 1 → loC.2.2.2 c 5 = some (some ((fun c => c + 4) c)) ∧ (fun c => c + 4) c < loC.1 ∧ loC.2.1 ((fun c => c + 4) c) = 20 := by decide +kernel
theorem lr_X1_6 : ∀ c, c < loC.1 → loC.2.1 c = 1 → loC.2.2.2 c 6 = some (some ((fun c => c + 5) c)) ∧ (fun c => c + 5) c < loC.1 ∧ loC.2.1 ((fun c => c + 5) c) = 24 := by decide +kernel
theorem lr_X10_0 : ∀ c, c < loC.1 → loC.2.1 c = 10 → loC.2.2.2 c 0 = some (some ((fun _ => 1) c)) ∧ (fun _ => 1) c < loC.1 ∧ loC.2.1 ((fun _ => 1) c) = 9 := by decide +kernel
theorem lr_X10_1 : ∀ c, c < loC.1 → loC.2.1 c = 10 → loC.2.2.2 c 1 = some (some ((fun _ => 23) c)) ∧ (fun _ => 23) c < loC.1 ∧ loC.2.1 ((fun _ => 23) c) = 3 := by decide +kernel
theorem lr_X10_2 : ∀ c, c < loC.1 → loC.2.1 c = 10 → loC.2.2.2 c 2 = some (some ((fun _ => 772) c)) ∧ (fun _ => 772) c < loC.1 ∧ loC.2.1 ((fun _ => 772) c) = 20 := by decide +kernel
theorem lr_X10_3 : ∀ c, c < loC.1 → loC.2.1 c = 10 → loC.2.2.2 c 3 = some (some ((fun _ => 773) c)) ∧ (fun _ => 773) c < loC.1 ∧ loC.2.1 ((fun _ => 773) c) = 26 := by decide +kernel
theorem lr_X10_4 : ∀ c, c < loC.1 → loC.2.1 c = 10 → loC.2.2.2 c 4 = some (some ((fun _ => 778) c)) ∧ (fun _ => 778) c < loC.1 ∧ loC.2.1 ((fun _ => 778) c) = 20 := by decide +kernel
theorem lr_X10_5 : ∀ c, c < loC.1 → loC.2.1 c = 10 → loC.2.2.2 c 5 = some (some ((fun _ => 779) c)) ∧ (fun _ => 779) c < loC.1 ∧ loC.2.1 ((fun _ => 779) c) = 20 := by decide +kernel
theorem lr_X11_0 : ∀ c, c < loC.1 → loC.2.1 c = 11 → loC.2.2.2 c 0 = some (some ((fun _ => 1) c)) ∧ (fun _ => 1) c < loC.1 ∧ loC.2.1 ((fun _ => 1) c) = 9 := by decide +kernel
theorem lr_X11_1 : ∀ c, c < loC.1 → loC.2.1 c = 11 → loC.2.2.2 c 1 = some (some ((fun _ => 23) c)) ∧ (fun _ => 23) c < loC.1 ∧ loC.2.1 ((fun _ => 23) c) = 3 := by decide +kernel
theorem lr_X11_2 : ∀ c, c < loC.1 → loC.2.1 c = 11 → loC.2.2.2 c 2 = some (some ((fun _ => 151) c)) ∧ (fun _ => 151) c < loC.1 ∧ loC.2.1 ((fun _ => 151) c) = 7 := by decide +kernel
theorem lr_X11_3 : ∀ c, c < loC.1 → loC.2.1 c = 11 → loC.2.2.2 c 3 = some (some ((fun _ => 163) c)) ∧ (fun _ => 163) c < loC.1 ∧ loC.2.1 ((fun _ => 163) c) = 1 := by decide +kernel
theorem lr_X11_4 : ∀ c, c < loC.1 → loC.2.1 c = 11 → loC.2.2.2 c 4 = some (some ((fun _ => 211) c)) ∧ (fun _ => 211) c < loC.1 ∧ loC.2.1 ((fun _ => 211) c) = 1 := by decide +kernel
theorem lr_X11_5 : ∀ c, c < loC.1 → loC.2.1 c = 11 → loC.2.2.2 c 5 = some (some ((fun _ => 259) c)) ∧ (fun _ => 259) c < loC.1 ∧ loC.2.1 ((fun _ => 259) c) = 4 := by decide +kernel
theorem lr_X11_6 : ∀ c, c < loC.1 → loC.2.1 c = 11 → loC.2.2.2 c 6 = some (some ((fun _ => 771) c)) ∧ (fun _ => 771) c < loC.1 ∧ loC.2.1 ((fun _ => 771) c) = 10 := by decide +kernel
theorem lr_X11_7 : ∀ c, c < loC.1 → loC.2.1 c = 11 → loC.2.2.2 c 7 = some (some ((fun _ => 780) c)) ∧ (fun _ => 780) c < loC.1 ∧ loC.2.1 ((fun _ => 780) c) = 0 := by decide +kernel
theorem lr_X11_8 : ∀ c, c < loC.1 → loC.2.1 c = 11 → loC.2.2.2 c 8 = some (some ((fun _ => 796) c)) ∧ (fun _ => 796) c < loC.1 ∧ loC.2.1 ((fun _ => 796) c) = 5 := by decide +kernel
theorem lr_X12_1 : ∀ c, c < loR.1 → loR.2.1 c = 12 → loR.2.2.2 c 1 = some (some ((fun _ => 1) c)) ∧ (fun _ => 1) c < loR.1 ∧ loR.2.1 ((fun _ => 1) c) = 20 := by decide +kernel
theorem lr_X12_10 : ∀ c, c < loR.1 → loR.2.1 c = 12 → loR.2.2.2 c 10 = some (some ((fun _ => 9) c)) ∧ (fun _ => 9) c < loR.1 ∧ loR.2.1 ((fun _ => 9) c) = 20 := by decide +kernel
theorem lr_X12_11 : ∀ c, c < loR.1 → loR.2.1 c = 12 → loR.2.2.2 c 11 = some (some ((fun _ => 10) c)) ∧ (fun _ => 10) c < loR.1 ∧ loR.2.1 ((fun _ => 10) c) = 20 := by decide +kernel
theorem lr_X12_12 : ∀ c, c < loR.1 → loR.2.1 c = 12 → loR.2.2.2 c 12 = some (some ((fun _ => 11) c)) ∧ (fun _ => 11) c < loR.1 ∧ loR.2.1 ((fun _ => 11) c) = 20 := by decide +kernel
theorem lr_X12_13 : ∀ c, c < loR.1 → loR.2.1 c = 12 → loR.2.2.2 c 13 = some (some ((fun _ => 12) c)) ∧ (fun _ => 12) c < loR.1 ∧ loR.2.1 ((fun _ => 12) c) = 20 := by decide +kernel
theorem lr_X12_14 : ∀ c, c < loR.1 → loR.2.1 c = 12 → loR.2.2.2 c 14 = some (some ((fun _ => 13) c)) ∧ (fun _ => 13) c < loR.1 ∧ loR.2.1 ((fun _ => 13) c) = 20 := by decide +kernel
theorem lr_X12_17 : ∀ c, c < loR.1 → loR.2.1 c = 12 → loR.2.2.2 c 17 = some (some ((fun _ => 14) c)) ∧ (fun _ => 14) c < loR.1 ∧ loR.2.1 ((fun _ => 14) c) = 20 := by decide +kernel
theorem lr_X12_18 : ∀ c, c < loR.1 → loR.2.1 c = 12 → loR.2.2.2 c 18 = some (some ((fun _ => 15) c)) ∧ (fun _ => 15) c < loR.1 ∧ loR.2.1 ((fun _ => 15) c) = 20 := by decide +kernel
theorem lr_X12_19 : ∀ c, c < loR.1 → loR.2.1 c = 12 → loR.2.2.2 c 19 = some (some ((fun _ => 16) c)) ∧ (fun _ => 16) c < loR.1 ∧ loR.2.1 ((fun _ => 16) c) = 20 := by decide +kernel
theorem lr_X12_2 : ∀ c, c < loR.1 → loR.2.1 c = 12 → loR.2.2.2 c 2 = some (some ((fun _ => 2) c)) ∧ (fun _ => 2) c < loR.1 ∧ loR.2.1 ((fun _ => 2) c) = 20 := by decide +kernel
theorem lr_X12_20 : ∀ c, c < loR.1 → loR.2.1 c = 12 → loR.2.2.2 c 20 = some (some ((fun _ => 17) c)) ∧ (fun _ => 17) c < loR.1 ∧ loR.2.1 ((fun _ => 17) c) = 20 := by decide +kernel
theorem lr_X12_24 : ∀ c, c < loR.1 → loR.2.1 c = 12 → loR.2.2.2 c 24 = some (some ((fun _ => 18) c)) ∧ (fun _ => 18) c < loR.1 ∧ loR.2.1 ((fun _ => 18) c) = 20 := by decide +kernel
theorem lr_X12_3 : ∀ c, c < loR.1 → loR.2.1 c = 12 → loR.2.2.2 c 3 = some (some ((fun _ => 3) c)) ∧ (fun _ => 3) c < loR.1 ∧ loR.2.1 ((fun _ => 3) c) = 20 := by decide +kernel
theorem lr_X12_32 : ∀ c, c < loR.1 → loR.2.1 c = 12 → loR.2.2.2 c 32 = some (some ((fun _ => 19) c)) ∧ (fun _ => 19) c < loR.1 ∧ loR.2.1 ((fun _ => 19) c) = 20 := by decide +kernel
theorem lr_X12_35 : ∀ c, c < loR.1 → loR.2.1 c = 12 → loR.2.2.2 c 35 = some (some ((fun _ => 20) c)) ∧ (fun _ => 20) c < loR.1 ∧ loR.2.1 ((fun _ => 20) c) = 20 := by decide +kernel
theorem lr_X12_37 : ∀ c, c < loR.1 → loR.2.1 c = 12 → loR.2.2.2 c 37 = some (some ((fun _ => 21) c)) ∧ (fun _ => 21) c < loR.1 ∧ loR.2.1 ((fun _ => 21) c) = 20 := by decide +kernel
theorem lr_X12_39 : ∀ c, c < loR.1 → loR.2.1 c = 12 → loR.2.2.2 c 39 = some (some ((fun _ => 22) c)) ∧ (fun _ => 22) c < loR.1 ∧ loR.2.1 ((fun _ => 22) c) = 20 := by decide +kernel
theorem lr_X12_4 : ∀ c, c < loR.1 → loR.2.1 c = 12 → loR.2.2.2 c 4 = some (some ((fun _ => 4) c)) ∧ (fun _ => 4) c < loR.1 ∧ loR.2.1 ((fun _ => 4) c) = 20 := by decide +kernel
theorem lr_X12_40 : ∀ c, c < loR.1 → loR.2.1 c = 12 → loR.2.2.2 c 40 = some (some ((fun _ => 23) c)) ∧ (fun _ => 23) c < loR.1 ∧ loR.2.1 ((fun _ => 23) c) = 20 := by decide +kernel
theorem lr_X12_41 : ∀ c, c < loR.1 → loR.2.1 c = 12 → loR.2.2.2 c 41 = some (some ((fun _ => 24) c)) ∧ (fun _ => 24) c < loR.1 ∧ loR.2.1 ((fun _ => 24) c) = 20 := by decide +kernel
theorem lr_X12_43 : ∀ c, c < loR.1 → loR.2.1 c = 12 → loR.2.2.2 c 43 = some (some ((fun _ => 25) c)) ∧ (fun _ => 25) c < loR.1 ∧ loR.2.1 ((fun _ => 25) c) = 20 := by decide +kernel
theorem lr_X12_47 : ∀ c, c < loR.1 → loR.2.1 c = 12 → loR.2.2.2 c 47 = some (some ((fun _ => 26) c)) ∧ (fun _ => 26) c < loR.1 ∧ loR.2.1 ((fun _ => 26) c) = 20 := by decide +kernel
theorem lr_X12_48 : ∀ c, c < loR.1 → loR.2.1 c = 12 → loR.2.2.2 c 48 = some (some ((fun _ => 27) c)) ∧ (fun _ => 27) c < loR.1 ∧ loR.2.1 ((fun _ => 27) c) = 20 := by decide +kernel
theorem lr_X12_49 : ∀ c, c < loR.1 → loR.2.1 c = 12 → loR.2.2.2 c 49 = some (some ((fun _ => 28) c)) ∧ (fun _ => 28) c < loR.1 ∧ loR.2.1 ((fun _ => 28) c) = 20 := by decide +kernel
theorem lr_X12_50 : ∀ c, c < loR.1 → loR.2.1 c = 12 → loR.2.2.2 c 50 = some (some ((fun _ => 29) c)) ∧ (fun _ => 29) c < loR.1 ∧ loR.2.1 ((fun _ => 29) c) = 23 := by decide +kernel
theorem lr_X12_51 : ∀ c, c < loR.1 → loR.2.1 c = 12 → loR.2.2.2 c 51 = some (some ((fun _ => 30) c)) ∧ (fun _ => 30) c < loR.1 ∧ loR.2.1 ((fun _ => 30) c) = 20 := by decide +kernel
theorem lr_X12_52 : ∀ c, c < loR.1 → loR.2.1 c = 12 → loR.2.2.2 c 52 = some (some ((fun _ => 31) c)) ∧ (fun _ => 31) c < loR.1 ∧ loR.2.1 ((fun _ => 31) c) = 20 := by decide +kernel
theorem lr_X12_53 : ∀ c, c < loR.1 → loR.2.1 c = 12 → loR.2.2.2 c 53 = some (some ((fun _ => 32) c)) ∧ (fun _ => 32) c < loR.1 ∧ loR.2.1 ((fun _ => 32) c) = 20 := by decide +kernel
theorem lr_X12_54 : ∀ c, c < loR.1 → loR.2.1 c = 12 → loR.2.2.2 c 54 = some (some ((fun _ => 33) c)) ∧ (fun _ => 33) c < loR.1 ∧ loR.2.1 ((fun _ => 33) c) = 20 := by decide +kernel
theorem lr_X12_55 : ∀ c, c < loR.1 → loR.2.1 c = 12 → loR.2.2.2 c 55 = some (some ((fun _ => 34) c)) ∧ (fun _ => 34) c < loR.1 ∧ loR.2.1 ((fun _ => 34) c) = 20 := by decide +kernel
theorem lr_X12_56 : ∀ c, c < loR.1 → loR.2.1 c = 12 → loR.2.2.2 c 56 = some (some ((fun _ => 35) c)) ∧ (fun _ => 35) c < loR.1 ∧ loR.2.1 ((fun _ => 35) c) = 20 := by decide +kernel
theorem lr_X12_57 : ∀ c, c < loR.1 → loR.2.1 c = 12 → loR.2.2.2 c 57 = some (some ((fun _ => 36) c)) ∧ (fun _ => 36) c < loR.1 ∧ loR.2.1 ((fun _ => 36) c) = 20 := by decide +kernel
theorem lr_X12_58 : ∀ c, c < loR.1 → loR.2.1 c = 12 → loR.2.2.2 c 58 = some (some ((fun _ => 37) c)) ∧ (fun _ => 37) c < loR.1 ∧ loR.2.1 ((fun _ => 37) c) = 20 := by decide +kernel
theorem lr_X12_59 : ∀ c, c < loR.1 → loR.2.1 c = 12 → loR.2.2.2 c 59 = some (some ((fun _ => 38) c)) ∧ (fun _ => 38) c < loR.1 ∧ loR.2.1 ((fun _ => 38) c) = 20 := by decide +kernel
theorem lr_X12_6 : ∀ c, c < loR.1 → loR.2.1 c = 12 → loR.2.2.2 c 6 = some (some ((fun _ => 5) c)) ∧ (fun _ => 5) c < loR.1 ∧ loR.2.1 ((fun _ => 5) c) = 20 := by decide +kernel
theorem lr_X12_65 : ∀ c, c < loR.1 → loR.2.1 c = 12 → loR.2.2.2 c 65 = some (some ((fun _ => 39) c)) ∧ (fun _ => 39) c < loR.1 ∧ loR.2.1 ((fun _ => 39) c) = 20 := by decide +kernel
theorem lr_X12_66 : ∀ c, c < loR.1 → loR.2.1 c = 12 → loR.2.2.2 c 66 = some (some ((fun _ => 40) c)) ∧ (fun _ => 40) c < loR.1 ∧ loR.2.1 ((fun _ => 40) c) = 20 := by decide +kernel
theorem lr_X12_67 : ∀ c, c < loR.1 → loR.2.1 c = 12 → loR.2.2.2 c 67 = some (some ((fun _ => 41) c)) ∧ (fun _ => 41) c < loR.1 ∧ loR.2.1 ((fun _ => 41) c) = 20 := by decide +kernel
theorem lr_X12_69 : ∀ c, c < loR.1 → loR.2.1 c = 12 → loR.2.2.2 c 69 = some (some ((fun _ => 42) c)) ∧ (fun _ => 42) c < loR.1 ∧ loR.2.1 ((fun _ => 42) c) = 23 := by decide +kernel
theorem lr_X12_7 : ∀ c, c < loR.1 → loR.2.1 c = 12 → loR.2.2.2 c 7 = some (some ((fun _ => 6) c)) ∧ (fun _ => 6) c < loR.1 ∧ loR.2.1 ((fun _ => 6) c) = 20 := by decide +kernel
theorem lr_X12_70 : ∀ c, c < loR.1 → loR.2.1 c = 12 → loR.2.2.2 c 70 = some (some ((fun _ => 43) c)) ∧ (fun _ => 43) c < loR.1 ∧ loR.2.1 ((fun _ => 43) c) = 23 := by decide +kernel
theorem lr_X12_71 : ∀ c, c < loR.1 → loR.2.1 c = 12 → loR.2.2.2 c 71 = some (some ((fun _ => 44) c)) ∧ (fun _ => 44) c < loR.1 ∧ loR.2.1 ((fun _ => 44) c) = 20 := by decide +kernel
theorem lr_X12_72 : ∀ c, c < loR.1 → loR.2.1 c = 12 → loR.2.2.2 c 72 = some (some ((fun _ => 45) c)) ∧ (fun _ => 45) c < loR.1 ∧ loR.2.1 ((fun _ => 45) c) = 20 := by decide +kernel
theorem lr_X12_73 : ∀ c, c < loR.1 → loR.2.1 c = 12 → loR.2.2.2 c 73 = some (some ((fun _ => 46) c)) ∧ (fun _ => 46) c < loR.1 ∧ loR.2.1 ((fun _ => 46) c) = 20 := by decide +kernel
theorem lr_X12_75 : ∀ c, c < loR.1 → loR.2.1 c = 12 → loR.2.2.2 c 75 = some (some ((fun _ => 47) c)) ∧ (fun _ => 47) c < loR.1 ∧ loR.2.1 ((fun _ => 47) c) = 20 := by decide +kernel
theorem lr_X12_77 : ∀ c, c < loR.1 → loR.2.1 c = 12 → loR.2.2.2 c 77 = some (some ((fun _ => 48) c)) ∧ (fun _ => 48) c < loR.1 ∧ loR.2.1 ((fun _ => 48) c) = 20 := by decide +kernel
theorem lr_X12_78 : ∀ c, c < loR.1 → loR.2.1 c = 12 → loR.2.2.2 c 78 = some (some ((fun _ => 49) c)) ∧ (fun _ => 49) c < loR.1 ∧ loR.2.1 ((fun _ => 49) c) = 20 := by decide +kernel
theorem lr_X12_79 : ∀ c, c < loR.1 → loR.2.1 c = 12 → loR.2.2.2 c 79 = some (some ((fun _ => 50) c)) ∧ (fun _ => 50) c < loR.1 ∧ loR.2.1 ((fun _ => 50) c) = 20 := by decide +kernel
theorem lr_X12_8 : ∀ c, c < loR.1 → loR.2.1 c = 12 → loR.2.2.2 c 8 = some (some ((fun _ => 7) c)) ∧ (fun _ => 7) c < loR.1 ∧ loR.2.1 ((fun _ => 7) c) = 20 := by decide +kernel
theorem lr_X12_80 : ∀ c, c < loR.1 → loR.2.1 c = 12 → loR.2.2.2 c 80 = some (some ((fun _ => 51) c)) ∧ (fun _ => 51) c < loR.1 ∧ loR.2.1 ((fun _ => 51) c) = 20 := by decide +kernel
theorem lr_X12_81 : ∀ c, c < loR.1 → loR.2.1 c = 12 → loR.2.2.2 c 81 = some (some ((fun _ => 52) c)) ∧ (fun _ => 52) c < loR.1 ∧ loR.2.1 ((fun _ => 52) c) = 20 := by decide +kernel
theorem lr_X12_82 : ∀ c, c < loR.1 → loR.2.1 c = 12 → loR.2.2.2 c 82 = some (some ((fun _ => 53) c)) ∧ (fun _ => 53) c < loR.1 ∧ loR.2.1 ((fun _ => 53) c) = 20 := by decide +kernel
theorem lr_X12_9 : ∀ c, c < loR.1 → loR.2.1 c = 12 → loR.2.2.2 c 9 = some (some ((fun _ => 8) c)) ∧ (fun _ => 8) c < loR.1 ∧ loR.2.1 ((fun _ => 8) c) = 20 := by decide +kernel
theorem lr_X2_0 : ∀ c, c < loC.1 → loC.2.1 c = 2 → loC.2.2.2 c 0 = some (some ((fun c => c + 1) c)) ∧ (fun c => c + 1) c < loC.1 ∧ loC.2.1 ((fun c => c + 1) c) = 8 := by decide +kernel
theorem lr_X2_1 : ∀ c, c < loC.1 → loC.2.1 c = 2 → loC.2.2.2 c 1 = some (some ((fun c => c + 3) c)) ∧ (fun c => c + 3) c < loC.1 ∧ loC.2.1 ((fun c => c + 3) c) = 8 := by decide +kernel
theorem lr_X3_0 : ∀ c, c < loC.1 → loC.2.1 c = 3 → loC.2.2.2 c 0 = some (some ((fun _ => 24) c)) ∧ (fun _ => 24) c < loC.1 ∧ loC.2.1 ((fun _ => 24) c) = 25 := by decide +kernel
theorem lr_X3_1 : ∀ c, c < loC.1 → loC.2.1 c = 3 → loC.2.2.2 c 1 = some (some ((fun _ => 25) c)) ∧ (fun _ => 25) c < loC.1 ∧ loC.2.1 ((fun _ => 25) c) = 20 := by decide +kernel
theorem lr_X3_2 : ∀ c, c < loC.1 → loC.2.1 c = 3 → loC.2.2.2 c 2 = some (some ((fun _ => 26) c)) ∧ (fun _ => 26) c < loC.1 ∧ loC.2.1 ((fun _ => 26) c) = 20 := by decide +kernel
theorem lr_X3_3 : ∀ c, c < loC.1 → loC.2.1 c = 3 → loC.2.2.2 c 3 = some (some ((fun _ => 27) c)) ∧ (fun _ => 27) c < loC.1 ∧ loC.2.1 ((fun _ => 27) c) = 20 := by decide +kernel
theorem lr_X3_4 : ∀ c, c < loC.1 → loC.2.1 c = 3 → loC.2.2.2 c 4 = some (some ((fun _ => 28) c)) ∧ (fun _ => 28) c < loC.1 ∧ loC.2.1 ((fun _ => 28) c) = 22 := by decide +kernel
theorem lr_X3_5 : ∀ c, c < loC.1 → loC.2.1 c = 3 → loC.2.2.2 c 5 = some (some ((fun _ => 29) c)) ∧ (fun _ => 29) c < loC.1 ∧ loC.2.1 ((fun _ => 29) c) = 21 := by decide +kernel
theorem lr_X3_6 : ∀ c, c < loC.1 → loC.2.1 c = 3 → loC.2.2.2 c 6 = some (some ((fun _ => 30) c)) ∧ (fun _ => 30) c < loC.1 ∧ loC.2.1 ((fun _ => 30) c) = 21 := by decide +kernel
theorem lr_X4_0 : ∀ c, c < loC.1 → loC.2.1 c = 4 → loC.2.2.2 c 0 = some (some ((fun _ => 1) c)) ∧ (fun _ => 1) c < loC.1 ∧ loC.2.1 ((fun _ => 1) c) = 9 := by decide +kernel
theorem lr_X4_1 : ∀ c, c < loC.1 → loC.2.1 c = 4 → loC.2.2.2 c 1 = some (some ((fun _ => 23) c)) ∧ (fun _ => 23) c < loC.1 ∧ loC.2.1 ((fun _ => 23) c) = 3 := by decide +kernel
theorem lr_X4_10 : ∀ c, c < loC.1 → loC.2.1 c = 4 → loC.2.2.2 c 10 = some (some ((fun _ => 267) c)) ∧ (fun _ => 267) c < loC.1 ∧ loC.2.1 ((fun _ => 267) c) = 20 := by decide +kernel
theorem lr_X4_11 : ∀ c, c < loC.1 → loC.2.1 c = 4 → loC.2.2.2 c 11 = some (some ((fun _ => 268) c)) ∧ (fun _ => 268) c < loC.1 ∧ loC.2.1 ((fun _ => 268) c) = 20 := by decide +kernel
theorem lr_X4_12 : ∀ c, c < loC.1 → loC.2.1 c = 4 → loC.2.2.2 c 12 = some (some ((fun _ => 269) c)) ∧ (fun _ => 269) c < loC.1 ∧ loC.2.1 ((fun _ => 269) c) = 8 := by decide +kernel
theorem lr_X4_2 : ∀ c, c < loC.1 → loC.2.1 c = 4 → loC.2.2.2 c 2 = some (some ((fun _ => 157) c)) ∧ (fun _ => 157) c < loC.1 ∧ loC.2.1 ((fun _ => 157) c) = 6 := by decide +kernel
theorem lr_X4_3 : ∀ c, c < loC.1 → loC.2.1 c = 4 → loC.2.2.2 c 3 = some (some ((fun _ => 260) c)) ∧ (fun _ => 260) c < loC.1 ∧ loC.2.1 ((fun _ => 260) c) = 29 := by decide +kernel
theorem lr_X4_4 : ∀ c, c < loC.1 → loC.2.1 c = 4 → loC.2.2.2 c 4 = some (some ((fun _ => 261) c)) ∧ (fun _ => 261) c < loC.1 ∧ loC.2.1 ((fun _ => 261) c) = 20 := by decide +kernel
theorem lr_X4_5 : ∀ c, c < loC.1 → loC.2.1 c = 4 → loC.2.2.2 c 5 = some (some ((fun _ => 262) c)) ∧ (fun _ => 262) c < loC.1 ∧ loC.2.1 ((fun _ => 262) c) = 20 := by decide +kernel
theorem lr_X4_6 : ∀ c, c < loC.1 → loC.2.1 c = 4 → loC.2.2.2 c 6 = some (some ((fun _ => 263) c)) ∧ (fun _ => 263) c < loC.1 ∧ loC.2.1 ((fun _ => 263) c) = 20 := by decide +kernel
theorem lr_X4_7 : ∀ c, c < loC.1 → loC.2.1 c = 4 → loC.2.2.2 c 7 = some (some ((fun _ => 264) c)) ∧ (fun _ => 264) c < loC.1 ∧ loC.2.1 ((fun _ => 264) c) = 20 := by decide +kernel
theorem lr_X4_8 : ∀ c, c < loC.1 → loC.2.1 c = 4 → loC.2.2.2 c 8 = some (some ((fun _ => 265) c)) ∧ (fun _ => 265) c < loC.1 ∧ loC.2.1 ((fun _ => 265) c) = 20 := by decide +kernel
theorem lr_X4_9 : ∀ c, c < loC.1 → loC.2.1 c = 4 → loC.2.2.2 c 9 = some (some ((fun _ => 266) c)) ∧ (fun _ => 266) c < loC.1 ∧ loC.2.1 ((fun _ => 266) c) = 20 := by decide +kernel
theorem lr_X5_0 : ∀ c, c < loC.1 → loC.2.1 c = 5 → loC.2.2.2 c 0 = some (some ((fun _ => 797) c)) ∧ (fun _ => 797) c < loC.1 ∧ loC.2.1 ((fun _ => 797) c) = 26 := by decide +kernel
theorem lr_X5_1 : ∀ c, c < loC.1 → loC.2.1 c = 5 → loC.2.2.2 c 1 = some (some ((fun _ => 802) c)) ∧ (fun _ => 802) c < loC.1 ∧ loC.2.1 ((fun _ => 802) c) = 20 := by decide +kernel
theorem lr_X5_2 : ∀ c, c < loC.1 → loC.2.1 c = 5 → loC.2.2.2 c 2 = some (some ((fun _ => 803) c)) ∧ (fun _ => 803) c < loC.1 ∧ loC.2.1 ((fun _ => 803) c) = 20 := by decide +kernel
theorem lr_X6_0 : ∀ c, c < loC.1 → loC.2.1 c = 6 → loC.2.2.2 c 0 = some (some ((fun _ => 1) c)) ∧ (fun _ => 1) c < loC.1 ∧ loC.2.1 ((fun _ => 1) c) = 9 := by decide +kernel
theorem lr_X6_1 : ∀ c, c < loC.1 → loC.2.1 c = 6 → loC.2.2.2 c 1 = some (some ((fun _ => 23) c)) ∧ (fun _ => 23) c < loC.1 ∧ loC.2.1 ((fun _ => 23) c) = 3 := by decide +kernel
theorem lr_X6_3 : ∀ c, c < loC.1 → loC.2.1 c = 6 → loC.2.2.2 c 3 = some (some ((fun _ => 160) c)) ∧ (fun _ => 160) c < loC.1 ∧ loC.2.1 ((fun _ => 160) c) = 20 := by decide +kernel
theorem lr_X6_4 : ∀ c, c < loC.1 → loC.2.1 c = 6 → loC.2.2.2 c 4 = some (some ((fun _ => 161) c)) ∧ (fun _ => 161) c < loC.1 ∧ loC.2.1 ((fun _ => 161) c) = 20 := by decide +kernel
theorem lr_X6_5 : ∀ c, c < loC.1 → loC.2.1 c = 6 → loC.2.2.2 c 5 = some (some ((fun _ => 162) c)) ∧ (fun _ => 162) c < loC.1 ∧ loC.2.1 ((fun _ => 162) c) = 20 := by decide +kernel
theorem lr_X7_0 : ∀ c, c < loC.1 → loC.2.1 c = 7 → loC.2.2.2 c 0 = some (some ((fun _ => 1) c)) ∧ (fun _ => 1) c < loC.1 ∧ loC.2.1 ((fun _ => 1) c) = 9 := by decide +kernel
theorem lr_X7_1 : ∀ c, c < loC.1 → loC.2.1 c = 7 → loC.2.2.2 c 1 = some (some ((fun _ => 23) c)) ∧ (fun _ => 23) c < loC.1 ∧ loC.2.1 ((fun _ => 23) c) = 3 := by decide +kernel
theorem lr_X7_2 : ∀ c, c < loC.1 → loC.2.1 c = 7 → loC.2.2.2 c 2 = some (some ((fun _ => 152) c)) ∧ (fun _ => 152) c < loC.1 ∧ loC.2.1 ((fun _ => 152) c) = 21 := by decide +kernel
theorem lr_X7_3 : ∀ c, c < loC.1 → loC.2.1 c = 7 → loC.2.2.2 c 3 = some (some ((fun _ => 153) c)) ∧ (fun _ => 153) c < loC.1 ∧ loC.2.1 ((fun _ => 153) c) = 8 := by decide +kernel
theorem lr_X7_4 : ∀ c, c < loC.1 → loC.2.1 c = 7 → loC.2.2.2 c 4 = some (some ((fun _ => 155) c)) ∧ (fun _ => 155) c < loC.1 ∧ loC.2.1 ((fun _ => 155) c) = 8 := by decide +kernel
theorem lr_X8_0 : ∀ c, c < loC.1 → loC.2.1 c = 8 → loC.2.2.2 c 0 = some (some ((fun c => c + 1) c)) ∧ (fun c => c + 1) c < loC.1 ∧ loC.2.1 ((fun c => c + 1) c) = 21 := by decide +kernel
theorem lr_X9_0 : ∀ c, c < loC.1 → loC.2.1 c = 9 → loC.2.2.2 c 0 = some (some ((fun _ => 2) c)) ∧ (fun _ => 2) c < loC.1 ∧ loC.2.1 ((fun _ => 2) c) = 20 := by decide +kernel
theorem lr_X9_1 : ∀ c, c < loC.1 → loC.2.1 c = 9 → loC.2.2.2 c 1 = some (some ((fun _ => 3) c)) ∧ (fun _ => 3) c < loC.1 ∧ loC.2.1 ((fun _ => 3) c) = 20 := by decide +kernel
theorem lr_X9_2 : ∀ c, c < loC.1 → loC.2.1 c = 9 → loC.2.2.2 c 2 = some (some ((fun _ => 4) c)) ∧ (fun _ => 4) c < loC.1 ∧ loC.2.1 ((fun _ => 4) c) = 20 := by decide +kernel
theorem lr_X9_3 : ∀ c, c < loC.1 → loC.2.1 c = 9 → loC.2.2.2 c 3 = some (some ((fun _ => 5) c)) ∧ (fun _ => 5) c < loC.1 ∧ loC.2.1 ((fun _ => 5) c) = 27 := by decide +kernel
theorem lr_X9_4 : ∀ c, c < loC.1 → loC.2.1 c = 9 → loC.2.2.2 c 4 = some (some ((fun _ => 6) c)) ∧ (fun _ => 6) c < loC.1 ∧ loC.2.1 ((fun _ => 6) c) = 28 := by decide +kernel
theorem lt_loC_20 : ∀ c j, c < loC.1 → loC.2.1 c = 20 → ∀ {v : Int}, loC.2.2.2 c j = some none → v.toNat < loC.1 ∧ loC.2.1 v.toNat = 8 := by
  intro c j _ h v q
  have h2 : tgC c = 20 := h
  have q2 : rfC c j = some none := q
  unfold rfC at q2
  rw [h2] at q2
  cases q2
theorem lt_loC_21 : ∀ c j, c < loC.1 → loC.2.1 c = 21 → ∀ {v : Int}, loC.2.2.2 c j = some none → v.toNat < loC.1 ∧ loC.2.1 v.toNat = 8 := by
  intro c j _ h v q
  have h2 : tgC c = 21 := h
  have q2 : rfC c j = some none := q
  unfold rfC at q2
  rw [h2] at q2
  cases q2
theorem lt_loC_22 : ∀ c j, c < loC.1 → loC.2.1 c = 22 → ∀ {v : Int}, loC.2.2.2 c j = some none → v.toNat < loC.1 ∧ loC.2.1 v.toNat = 8 := by
  intro c j _ h v q
  have h2 : tgC c = 22 := h
  have q2 : rfC c j = some none := q
  unfold rfC at q2
  rw [h2] at q2
  cases q2
theorem lt_loR_20 : ∀ c j, c < loR.1 → loR.2.1 c = 20 → ∀ {v : Int}, loR.2.2.2 c j = some none → v.toNat < loR.1 ∧ loR.2.1 v.toNat = 8 := by
  intro c j _ h v q
  have h2 : tgR c = 20 := h
  have q2 : rfR c j = some none := q
  unfold rfR at q2
  rw [h2] at q2
  cases q2
theorem lt_loR_23 : ∀ c j, c < loR.1 → loR.2.1 c = 23 → ∀ {v : Int}, loR.2.2.2 c j = some none → v.toNat < loR.1 ∧ loR.2.1 v.toNat = 8 := by
  intro c j _ h v q
  have h2 : tgR c = 23 := h
  have q2 : rfR c j = some none := q
  unfold rfR at q2
  rw [h2] at q2
  cases q2
