/-! the class begins anew -/
section Restore
variable {p : PM}
theorem rv0_2 {A : Nat} (hA : ¬ A = 0) (hA9 : A ≤ 9) : ∀ (d i n : Nat) (P : PM), i + d = 4 → d < n → ∃ P2 : PM, v0_restore_2 n P A (cn i) = P2 ∧ g0_restore_2 n P A (cn i) ∧ P2.2.2 = P.2.2 ∧ (∀ K j S, P2.2.1 K j S = if K = 0 ∧ j = A ∧ S = 4 then cl 0 else P.2.1 K j S) ∧ ∀ K j S, P2.1 K j S = if K = 13 ∧ j = 2 * A - 1 ∧ i ≤ S ∧ S < 4 then cn 0 else if K = 13 ∧ j = 2 * A ∧ i ≤ S ∧ S < 4 then cn 999 else if K = 0 ∧ j = A ∧ 5 ≤ S ∧ S ≤ 8 then cn 0 else P.1 K j S := by
  have g1 : ¬ A = 0 ∧ A ≤ 9 := ⟨hA, hA9⟩
  have g2 : ¬ (2 * A - 1) = 0 ∧ (2 * A - 1) ≤ 18 := ⟨by omega, by omega⟩
  have g3 : ¬ (2 * A) = 0 ∧ (2 * A) ≤ 18 := ⟨by omega, by omega⟩
  intro d
  induction d with
  | zero =>
    intro i n P h1 h2
    obtain ⟨n1, rfl⟩ : ∃ z9, n = z9 + 1 := ⟨n - 1, by omega⟩
    have e : i = 4 := by omega
    subst e
    have hn := lpf (i := 4) (N := 4) (by omega) (by omega) (by omega)
    refine ⟨pI (pI (pI (pI (pJ P 0 A 4 (cl 0)) 0 A 5 (cn 0)) 0 A 6 (cn 0)) 0 A 7 (cn 0)) 0 A 8 (cn 0), ?_, ?_, rfl, fun K j S => ?_, fun K j S => ?_⟩
    · rw [ev0_restore_2]
      unfold bv0_restore_2
      rw [if_neg hn]
    · rw [eg0_restore_2]
      unfold bg0_restore_2
      rw [if_neg hn]
      exact ⟨g1, g2, hA, hA, hA, hA, hA, trivial⟩
    · rw [pI_J, pI_J, pI_J, pI_J, pJ_J]
      rfl
    · simp only [pI_1, pJ_1]
      unfold u3
      repeat' split
      all_goals first
        | rfl
        | (exfalso; omega)
  | succ d ih =>
    intro i n P h1 h2
    obtain ⟨n1, rfl⟩ : ∃ z9, n = z9 + 1 := ⟨n - 1, by omega⟩
    have l4 : cn (i : Int) < cn 4 := lpt (by omega) (by omega)
    have hi := cninb (i := i) (n := 4) (by omega) (by omega)
    obtain ⟨P2, k1, k2, k3, k4, k5⟩ := ih (i + 1) n1 (pI (pI P 13 (2 * A - 1) i (cn 0)) 13 (2 * A) i (cn 999)) (by omega) (by omega)
    refine ⟨P2, ?_, ?_, k3, k4, fun K j S => ?_⟩
    · rw [ev0_restore_2]
      unfold bv0_restore_2
      simp only [if_pos l4, cntk (i := i) (by omega), cnsucc]
      exact k1
    · rw [eg0_restore_2]
      unfold bg0_restore_2
      simp only [if_pos l4, cntk (i := i) (by omega), cnsucc]
      exact ⟨g1, g2, g1, g3, g1, ⟨g2, hi⟩, g1, ⟨g3, hi⟩, k2⟩
    · rw [k5 K j S]
      simp only [pI_1]
      unfold u3
      repeat' split
      all_goals first
        | rfl
        | (exfalso; omega)
theorem rv0 {A : Nat} (hA : ¬ A = 0) (hA9 : A ≤ 9) (P : PM) : ∃ P2 : PM, v0_restore P A = P2 ∧ g0_restore P A ∧ P2.2.2 = P.2.2 ∧ (∀ K j S, P2.2.1 K j S = if K = 0 ∧ j = A ∧ S = 4 then cl 0 else P.2.1 K j S) ∧ ∀ K j S, P2.1 K j S = if K = 13 ∧ j = 2 * A - 1 ∧ 0 ≤ S ∧ S < 4 then cn 0 else if K = 13 ∧ j = 2 * A ∧ 0 ≤ S ∧ S < 4 then cn 999 else if K = 0 ∧ j = A ∧ 5 ≤ S ∧ S ≤ 8 then cn 0 else P.1 K j S := by
  obtain ⟨F, hF, hF2⟩ : ∃ F, FU = F ∧ 100 < F := ⟨FU, rfl, by decide⟩
  unfold v0_restore bv0_restore g0_restore bg0_restore
  rw [hF]
  exact rv0_2 hA hA9 4 0 F P rfl (by omega)
theorem rv7_41 : ∀ (d i n : Nat) (P : PM), i + d = 60 → d < n → ∃ P2 : PM, v7_restore_41 n P (cn i) = P2 ∧ g7_restore_41 n P (cn i) ∧ P2.2 = P.2 ∧ ∀ K j S, P2.1 K j S = if K = 7 ∧ j = 1 ∧ S = 2 then cn 0 else if K = 4 ∧ i + 1 ≤ j ∧ j ≤ 60 ∧ S = 6 then cn 0 else P.1 K j S := by
  intro d
  induction d with
  | zero =>
    intro i n P h1 h2
    obtain ⟨n1, rfl⟩ : ∃ z9, n = z9 + 1 := ⟨n - 1, by omega⟩
    have e : i = 60 := by omega
    subst e
    have hn := lpf (i := 60) (N := 60) (by omega) (by omega) (by omega)
    refine ⟨pI P 7 1 2 (cn 0), ?_, ?_, rfl, fun K j S => ?_⟩
    · rw [ev7_restore_41]
      unfold bv7_restore_41
      rw [if_neg hn]
    · rw [eg7_restore_41]
      unfold bg7_restore_41
      rw [if_neg hn]
      exact trivial
    · rw [pI_1]
      unfold u3
      repeat' split
      all_goals first
        | rfl
        | (exfalso; omega)
  | succ d ih =>
    intro i n P h1 h2
    obtain ⟨n1, rfl⟩ : ∃ z9, n = z9 + 1 := ⟨n - 1, by omega⟩
    have l4 : cn (i : Int) < cn 60 := lpt (by omega) (by omega)
    have hi := cninb (i := i) (n := 60) (by omega) (by omega)
    obtain ⟨P2, k1, k2, k3, k5⟩ := ih (i + 1) n1 (pI P 4 (i + 1) 6 (cn 0)) (by omega) (by omega)
    refine ⟨P2, ?_, ?_, k3, fun K j S => ?_⟩
    · rw [ev7_restore_41]
      unfold bv7_restore_41
      simp only [if_pos l4, cntk (i := i) (by omega), cnsucc]
      exact k1
    · rw [eg7_restore_41]
      unfold bg7_restore_41
      simp only [if_pos l4, cntk (i := i) (by omega), cnsucc]
      exact ⟨hi, k2⟩
    · rw [k5 K j S]
      simp only [pI_1]
      unfold u3
      repeat' split
      all_goals first
        | rfl
        | (exfalso; omega)
theorem rv7_10 {F : Nat} (hF : FU = F) (hF2 : 100 < F) : ∀ (d i n : Nat) (P : PM), i + d = 9 → d < n → ∃ P2 : PM, v7_restore_10 n P (cn i) = P2 ∧ g7_restore_10 n P (cn i) ∧ P2.2.2 = P.2.2 ∧ (∀ K j S, P2.2.1 K j S = if K = 0 ∧ i + 1 ≤ j ∧ j ≤ 9 ∧ S = 4 then cl 0 else P.2.1 K j S) ∧ ∀ K j S, P2.1 K j S = if K = 7 ∧ j = 1 ∧ S = 2 then cn 0 else if K = 4 ∧ 1 ≤ j ∧ j ≤ 60 ∧ S = 6 then cn 0 else if K = 13 ∧ 2 * i + 1 ≤ j ∧ j ≤ 18 ∧ S < 4 then (if j % 2 = 1 then cn 0 else cn 999) else if K = 0 ∧ i + 1 ≤ j ∧ j ≤ 9 ∧ 5 ≤ S ∧ S ≤ 8 then cn 0 else P.1 K j S := by
  intro d
  induction d with
  | zero =>
    intro i n P h1 h2
    obtain ⟨n1, rfl⟩ : ∃ z9, n = z9 + 1 := ⟨n - 1, by omega⟩
    have e : i = 9 := by omega
    subst e
    have hn := lpf (i := 9) (N := 9) (by omega) (by omega) (by omega)
    obtain ⟨P2, k1, k2, k3, k4⟩ := rv7_41 60 0 F P rfl (by omega)
    refine ⟨P2, ?_, ?_, by rw [k3], fun K j S => ?_, fun K j S => ?_⟩
    · rw [ev7_restore_10, hF]
      unfold bv7_restore_10
      rw [if_neg hn]
      exact k1
    · rw [eg7_restore_10, hF]
      unfold bg7_restore_10
      rw [if_neg hn]
      exact k2
    · rw [k3, if_neg (by omega)]
    · rw [k4 K j S]
      repeat' split
      all_goals first
        | rfl
        | (exfalso; omega)
  | succ d ih =>
    intro i n P h1 h2
    obtain ⟨n1, rfl⟩ : ∃ z9, n = z9 + 1 := ⟨n - 1, by omega⟩
    have l4 : cn (i : Int) < cn 9 := lpt (by omega) (by omega)
    have hi := cninb (i := i) (n := 9) (by omega) (by omega)
    obtain ⟨P1, f1, f2, f3, f4, f5⟩ := rv0 (A := i + 1) (by omega) (by omega) P
    obtain ⟨P2, k1, k2, k3, k4, k5⟩ := ih (i + 1) n1 P1 (by omega) (by omega)
    refine ⟨P2, ?_, ?_, k3.trans f3, fun K j S => ?_, fun K j S => ?_⟩
    · rw [ev7_restore_10]
      unfold bv7_restore_10
      simp only [if_pos l4, cntk (i := i) (by omega), f1, cnsucc]
      exact k1
    · rw [eg7_restore_10]
      unfold bg7_restore_10
      simp only [if_pos l4, cntk (i := i) (by omega), f1, cnsucc]
      exact ⟨hi, f2, k2⟩
    · rw [k4 K j S, f4 K j S]
      repeat' split
      all_goals first
        | rfl
        | (exfalso; omega)
    · rw [k5 K j S, f5 K j S]
      repeat' split
      all_goals first
        | rfl
        | (exfalso; omega)
theorem rv7 (P : PM) : ∃ P2 : PM, v7_restore P = P2 ∧ g7_restore P ∧ P2.2.2 = P.2.2 ∧ (∀ K j S, P2.2.1 K j S = if K = 0 ∧ 0 + 1 ≤ j ∧ j ≤ 9 ∧ S = 4 then cl 0 else P.2.1 K j S) ∧ ∀ K j S, P2.1 K j S = if K = 7 ∧ j = 1 ∧ S = 2 then cn 0 else if K = 4 ∧ 1 ≤ j ∧ j ≤ 60 ∧ S = 6 then cn 0 else if K = 13 ∧ 2 * 0 + 1 ≤ j ∧ j ≤ 18 ∧ S < 4 then (if j % 2 = 1 then cn 0 else cn 999) else if K = 0 ∧ 0 + 1 ≤ j ∧ j ≤ 9 ∧ 5 ≤ S ∧ S ≤ 8 then cn 0 else P.1 K j S := by
  obtain ⟨F, hF, hF2⟩ : ∃ F, FU = F ∧ 100 < F := ⟨FU, rfl, by decide⟩
  unfold v7_restore bv7_restore g7_restore bg7_restore
  rw [hF]
  exact rv7_10 hF hF2 9 0 F P rfl (by omega)
theorem rv6_41 : ∀ (d i n : Nat) (P : PM), i + d = 40 → d < n → ∃ P2 : PM, v6_restore_41 n P (cn i) = P2 ∧ g6_restore_41 n P (cn i) ∧ P2.2 = P.2 ∧ ∀ K j S, P2.1 K j S = if K = 6 ∧ j = 1 ∧ 2 ≤ S ∧ S ≤ 5 then cn 0 else if K = 10 ∧ i + 1 ≤ j ∧ j ≤ 40 ∧ S = 2 then cn 0 else P.1 K j S := by
  intro d
  induction d with
  | zero =>
    intro i n P h1 h2
    obtain ⟨n1, rfl⟩ : ∃ z9, n = z9 + 1 := ⟨n - 1, by omega⟩
    have e : i = 40 := by omega
    subst e
    have hn := lpf (i := 40) (N := 40) (by omega) (by omega) (by omega)
    refine ⟨pI (pI (pI (pI P 6 1 2 (cn 0)) 6 1 3 (cn 0)) 6 1 4 (cn 0)) 6 1 5 (cn 0), ?_, ?_, rfl, fun K j S => ?_⟩
    · rw [ev6_restore_41]
      unfold bv6_restore_41
      rw [if_neg hn]
    · rw [eg6_restore_41]
      unfold bg6_restore_41
      rw [if_neg hn]
      exact trivial
    · simp only [pI_1]
      unfold u3
      repeat' split
      all_goals first
        | rfl
        | (exfalso; omega)
  | succ d ih =>
    intro i n P h1 h2
    obtain ⟨n1, rfl⟩ : ∃ z9, n = z9 + 1 := ⟨n - 1, by omega⟩
    have l4 : cn (i : Int) < cn 40 := lpt (by omega) (by omega)
    have hi := cninb (i := i) (n := 40) (by omega) (by omega)
    obtain ⟨P2, k1, k2, k3, k5⟩ := ih (i + 1) n1 (pI P 10 (i + 1) 2 (cn 0)) (by omega) (by omega)
    refine ⟨P2, ?_, ?_, k3, fun K j S => ?_⟩
    · rw [ev6_restore_41]
      unfold bv6_restore_41
      simp only [if_pos l4, cntk (i := i) (by omega), cnsucc]
      exact k1
    · rw [eg6_restore_41]
      unfold bg6_restore_41
      simp only [if_pos l4, cntk (i := i) (by omega), cnsucc]
      exact ⟨hi, k2⟩
    · rw [k5 K j S]
      simp only [pI_1]
      unfold u3
      repeat' split
      all_goals first
        | rfl
        | (exfalso; omega)
/-- a book begins anew -/
theorem rv1 {b : Nat} (hb : b < 6) (P : PM) (h2 : P.1 1 (b + 1) 2 = cn (if b < 4 then -100000 else b - 3)) : ∃ P2 : PM, v1_restore P (b + 1) = P2 ∧ g1_restore P (b + 1) ∧ P2.2 = P.2 ∧ ∀ K j S, P2.1 K j S = if K = 1 ∧ j = b + 1 ∧ 3 ≤ S ∧ S ≤ 4 then (if b < 4 then cn 100 else cn 0) else if K = 1 ∧ j = b + 1 ∧ 5 ≤ S ∧ S ≤ 12 then cn 0 else P.1 K j S := by
  have hz : ¬ b + 1 = 0 := by omega
  have gs : g1_isSpread P (b + 1) := by
    unfold g1_isSpread bg1_isSpread
    refine ⟨hz, ?_⟩
    split <;> trivial
  have c00 : cn 0 = (0 : Int32) := rfl
  have es : v1_isSpread P (b + 1) = if b < 4 then cn 0 else cn 1 := by
    unfold v1_isSpread bv1_isSpread
    rw [h2]
    by_cases h4 : b < 4
    · rw [if_pos h4, if_pos h4, if_pos rfl]
    · rw [if_neg h4, if_neg h4, if_neg (by rw [cneq ⟨by omega, by omega⟩ (by decide)]; omega)]
  unfold v1_restore bv1_restore g1_restore bg1_restore
  rw [es]
  by_cases h4 : b < 4
  · simp only [if_pos h4, if_pos c00, pI_at]
    refine ⟨_, rfl, ⟨hz, gs, hz, hz, hz, hz, hz, hz, hz, hz, hz, hz, hz, trivial⟩, rfl, fun K j S => ?_⟩
    simp only [pI_1]
    unfold u3
    repeat' split
    all_goals first
      | rfl
      | (exfalso; omega)
  · simp only [if_neg h4, if_neg cn01, pI_at]
    refine ⟨_, rfl, ⟨hz, gs, hz, hz, hz, hz, hz, hz, hz, hz, hz, hz, hz, trivial⟩, rfl, fun K j S => ?_⟩
    simp only [pI_1]
    unfold u3
    repeat' split
    all_goals first
      | rfl
      | (exfalso; omega)
theorem rv6_10 {F : Nat} (hF : FU = F) (hF2 : 100 < F) : ∀ (d i n : Nat) (P : PM), i + d = 6 → d < n → (∀ b, b < 6 → P.1 1 (b + 1) 2 = cn (if b < 4 then -100000 else b - 3)) → ∃ P2 : PM, v6_restore_10 n P (cn i) = P2 ∧ g6_restore_10 n P (cn i) ∧ P2.2 = P.2 ∧ ∀ K j S, P2.1 K j S = if K = 6 ∧ j = 1 ∧ 2 ≤ S ∧ S ≤ 5 then cn 0 else if K = 10 ∧ 1 ≤ j ∧ j ≤ 40 ∧ S = 2 then cn 0 else if K = 1 ∧ i + 1 ≤ j ∧ j ≤ 6 ∧ 3 ≤ S ∧ S ≤ 4 then (if j < 5 then cn 100 else cn 0) else if K = 1 ∧ i + 1 ≤ j ∧ j ≤ 6 ∧ 5 ≤ S ∧ S ≤ 12 then cn 0 else P.1 K j S := by
  intro d
  induction d with
  | zero =>
    intro i n P h1 h2 hp
    obtain ⟨n1, rfl⟩ : ∃ z9, n = z9 + 1 := ⟨n - 1, by omega⟩
    have e : i = 6 := by omega
    subst e
    have hn := lpf (i := 6) (N := 6) (by omega) (by omega) (by omega)
    obtain ⟨P2, k1, k2, k3, k4⟩ := rv6_41 40 0 F P rfl (by omega)
    refine ⟨P2, ?_, ?_, k3, fun K j S => ?_⟩
    · rw [ev6_restore_10, hF]
      unfold bv6_restore_10
      rw [if_neg hn]
      exact k1
    · rw [eg6_restore_10, hF]
      unfold bg6_restore_10
      rw [if_neg hn]
      exact k2
    · rw [k4 K j S]
      repeat' split
      all_goals first
        | rfl
        | (exfalso; omega)
  | succ d ih =>
    intro i n P h1 h2 hp
    obtain ⟨n1, rfl⟩ : ∃ z9, n = z9 + 1 := ⟨n - 1, by omega⟩
    have l4 : cn (i : Int) < cn 6 := lpt (by omega) (by omega)
    have hi := cninb (i := i) (n := 6) (by omega) (by omega)
    obtain ⟨P1, f1, f2, f3, f5⟩ := rv1 (b := i) (by omega) P (hp i (by omega))
    obtain ⟨P2, k1, k2, k3, k5⟩ := ih (i + 1) n1 P1 (by omega) (by omega) (fun b hb => by
      rw [f5 1 (b + 1) 2, if_neg (by omega), if_neg (by omega)]
      exact hp b hb)
    refine ⟨P2, ?_, ?_, k3.trans f3, fun K j S => ?_⟩
    · rw [ev6_restore_10]
      unfold bv6_restore_10
      simp only [if_pos l4, cntk (i := i) (by omega), f1, cnsucc]
      exact k1
    · rw [eg6_restore_10]
      unfold bg6_restore_10
      simp only [if_pos l4, cntk (i := i) (by omega), f1, cnsucc]
      exact ⟨hi, f2, k2⟩
    · rw [k5 K j S, f5 K j S]
      repeat' split
      all_goals first
        | rfl
        | (exfalso; omega)
theorem rv6 (P : PM) (hp : ∀ b, b < 6 → P.1 1 (b + 1) 2 = cn (if b < 4 then -100000 else b - 3)) : ∃ P2 : PM, v6_restore P = P2 ∧ g6_restore P ∧ P2.2 = P.2 ∧ ∀ K j S, P2.1 K j S = if K = 6 ∧ j = 1 ∧ 2 ≤ S ∧ S ≤ 5 then cn 0 else if K = 10 ∧ 1 ≤ j ∧ j ≤ 40 ∧ S = 2 then cn 0 else if K = 1 ∧ 0 + 1 ≤ j ∧ j ≤ 6 ∧ 3 ≤ S ∧ S ≤ 4 then (if j < 5 then cn 100 else cn 0) else if K = 1 ∧ 0 + 1 ≤ j ∧ j ≤ 6 ∧ 5 ≤ S ∧ S ≤ 12 then cn 0 else P.1 K j S := by
  obtain ⟨F, hF, hF2⟩ : ∃ F, FU = F ∧ 100 < F := ⟨FU, rfl, by decide⟩
  unfold v6_restore bv6_restore g6_restore bg6_restore
  rw [hF]
  exact rv6_10 hF hF2 6 0 F P rfl (by omega) hp
end Restore
