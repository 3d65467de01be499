/-! the graph of an exchange -/
set_option maxRecDepth 100000 in
theorem fin_g1 : ∀ q ∈ grT 0, e31.2.2 q.1 1 q.2.1 = q.2.2 := by decide +kernel
set_option maxRecDepth 100000 in
theorem fin_g2 : ∀ i < 9, e31.2.2 0 (i + 1) 2 = 2 * (i + 1) - 1 ∧ e31.2.2 0 (i + 1) 3 = 2 * (i + 1) := by decide +kernel
set_option maxRecDepth 100000 in
theorem fin_g3 : ∀ q ∈ geT, ∀ s < q.2.2, e31.2.2 q.1 1 s = s + q.2.1 := by decide +kernel
set_option maxRecDepth 100000 in
theorem fin_ca : ∀ a < 9, e31.1 0 (a + 1) 0 = cn a ∧ e31.1 0 (a + 1) 1 = cn (a / 2 : Nat) := by decide +kernel
set_option maxRecDepth 100000 in
theorem fin_cb : ∀ b < 6, e31.1 1 (b + 1) 0 = cn b ∧ (e31.1 1 (b + 1) 1 = cn (if b < 4 then b else b - 4) ∧ e31.1 1 (b + 1) 2 = cn (if b < 4 then -100000 else b - 3)) := by decide +kernel
set_option maxRecDepth 100000 in
theorem fin_d : ∀ k < 60, e31.2.2 4 (k + 1) 0 = 1 := by decide +kernel
theorem fin_gr : Gr 0 e31 := ⟨fin_g1, fun _ => ⟨fun i h1 h2 => by
  obtain ⟨j, rfl⟩ : ∃ j, i = j + 1 := ⟨i - 1, by omega⟩
  exact fin_g2 j (by omega), fun q hq s hs => fin_g3 q hq s hs⟩⟩
theorem fin_ck : CK e31 := ⟨fun a ha => fin_ca a ha, fun b hb => fin_cb b hb⟩
