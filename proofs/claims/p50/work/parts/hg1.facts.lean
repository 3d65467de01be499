/-! facts of that memory -/
set_option maxRecDepth 100000 in
theorem fc_ac : ∀ a < 10, (ac a).2.2 7 1 0 = 1 := by decide +kernel
set_option maxRecDepth 100000 in
theorem fc_dl : ∀ k < 61, ((dl k).2.2 7 1 0 = 1 ∧ (dl k).2.2 7 1 1 = 1) ∧ (dl k).2.2 16 1 8 = 9 := by decide +kernel
set_option maxRecDepth 100000 in
theorem fc_bk : ∀ b < 7, (b = 6 → (bk b).2.2 17 1 0 = 1) := by decide +kernel
set_option maxRecDepth 100000 in
theorem fc_e9 : (e9.2.2 5 1 1 = 1 ∧ e9.2.2 7 1 0 = 1) ∧ e9.2.2 16 1 8 = 9 := by decide +kernel
set_option maxRecDepth 100000 in
theorem fc_e10 : ((e10.2.2 5 1 1 = 1 ∧ e10.2.2 7 1 0 = 1) ∧ e10.2.2 16 1 8 = 9) := by decide +kernel
set_option maxRecDepth 100000 in
theorem fc_or : ∀ i < 41, ((orr i).2.2 6 1 1 = 1 ∧ (orr i).2.2 17 1 0 = 1) := by decide +kernel
set_option maxRecDepth 100000 in
theorem fc_e15 : (e15.2.2 5 1 0 = 1 ∧ e15.2.2 5 1 1 = 1) := by decide +kernel
set_option maxRecDepth 100000 in
theorem fc_qu : ∀ i < 41, ((qu i).2.2 8 1 2 = 2 ∧ (qu i).2.2 6 1 1 = 1) := by decide +kernel
set_option maxRecDepth 100000 in
theorem fc_qo : ∀ i < 40, (qu i).2.2 20 1 i = i + 1 := by decide +kernel
set_option maxRecDepth 100000 in
theorem fc_e22 : (e22.2.2 5 1 0 = 1 ∧ e22.2.2 5 1 1 = 1) := by decide +kernel
set_option maxRecDepth 100000 in
theorem fc_e25 : (e25.2.2 5 1 0 = 1 ∧ e25.2.2 5 1 1 = 1) := by decide +kernel
set_option maxRecDepth 100000 in
theorem fc_mb : ∀ m < 5, (mb m).2.2 2 1 2 = 1 := by decide +kernel
