/-! the reference begins anew -/
section Resets
variable {q : PM}
/-- the numbers that are set at the end -/
def rz9 (q : PM) : PM := pI (pI (pI (pI (pI (pI (pI (pI q 12 1 50 (cn 0)) 12 1 57 (cn (-1))) 12 1 58 (cn 500)) 12 1 17 (cn 0)) 12 1 18 (cn 0)) 12 1 39 (cn 0)) 12 1 40 (cn 0)) 12 1 48 (cn 0)
theorem rz_2 {F : Nat} (hF : FU = F) : ∀ (d i n : Nat) (Q : PM), i + d = 36 → d < n → ∃ Q2 : PM, v12_resets_2 n Q (cn i) = v12_resets_23 F Q2 (cn 0) ∧ Q2.2 = Q.2 ∧ (∀ K j S, Q2.1 K j S = if K = 13 ∧ j = 1 ∧ i ≤ S ∧ S < 36 then cn 0 else Q.1 K j S) ∧ (g12_resets_23 F Q2 (cn 0) → g12_resets_2 n Q (cn i)) := by
  intro d
  induction d with
  | zero =>
    intro i n Q h1 h2
    obtain ⟨n1, rfl⟩ : ∃ z9, n = z9 + 1 := ⟨n - 1, by omega⟩
    have e : i = 36 := by omega
    subst e
    have hn := lpf (i := 36) (N := 36) (by omega) (by omega) (by omega)
    refine ⟨Q, ?_, rfl, fun K j S => ?_, fun g => ?_⟩
    · rw [ev12_resets_2, hF]
      unfold bv12_resets_2
      rw [if_neg hn]
    · repeat' split
      all_goals first
        | rfl
        | (exfalso; omega)
    · rw [eg12_resets_2, hF]
      unfold bg12_resets_2
      rw [if_neg hn]
      exact g
  | succ d ih =>
    intro i n Q h1 h2
    obtain ⟨n1, rfl⟩ : ∃ z9, n = z9 + 1 := ⟨n - 1, by omega⟩
    have l4 : cn (i : Int) < cn 36 := lpt (by omega) (by omega)
    have hi := fun (k : Nat) (hk : 36 ≤ k) (hk2 : k ≤ 100) => cninb (i := i) (n := k) (by omega) (by omega)
    obtain ⟨Q2, k1, k2, k3, k4⟩ := ih (i + 1) n1 (pI (Q) 13 1 i (cn 0)) (by omega) (by omega)
    refine ⟨Q2, ?_, k2, fun K j S => ?_, fun g => ?_⟩
    · rw [ev12_resets_2]
      unfold bv12_resets_2
      simp only [if_pos l4, cntk (i := i) (by omega), cnsucc]
      exact k1
    · rw [k3 K j S]
      simp only [pI_1]
      unfold u3
      by_cases hSi : S = i
      · subst hSi
        have a1 : ¬ S + 1 ≤ S := by omega
        have a2 : S < 36 := by omega
        simp only [a1, a2, Nat.le_refl, and_true, true_and, false_and, and_false, if_false]
        repeat' split
        all_goals first
          | rfl
          | (exfalso; omega)
          | (rename_i h8 h9; exact absurd h9 h8)
          | (rename_i h8 h9; exact absurd h8 h9)
      · have a1 : (i + 1 ≤ S) = (i ≤ S) := propext ⟨fun h => by omega, fun h => by omega⟩
        simp only [hSi, a1, and_false, if_false]
    · have k5 := k4 g
      have iN := hi 36 (by decide) (by decide)
      rw [eg12_resets_2]
      unfold bg12_resets_2
      simp only [if_pos l4, cntk (i := i) (by omega), cnsucc]
      repeat' first
        | with_reducible exact iN
        | with_reducible exact k5
        | exact trivial
        | exact not_false
        | apply And.intro
        | (split <;> rename_i h9 <;> first | simp only [if_neg h9, if_true, if_false] | simp only [if_pos h9, if_true, if_false] | skip)
theorem rz_44 {F : Nat} (hF : FU = F) : ∀ (d i n : Nat) (Q : PM), i + d = 32 → d < n → ∃ Q2 : PM, v12_resets_44 n Q (cn i) = v12_resets_67 F Q2 (cn 0) ∧ Q2.2 = Q.2 ∧ (∀ K j S, Q2.1 K j S = if K = 13 ∧ j = 2 ∧ i ≤ S ∧ S < 32 then cn 999 else Q.1 K j S) ∧ (g12_resets_67 F Q2 (cn 0) → g12_resets_44 n Q (cn i)) := by
  intro d
  induction d with
  | zero =>
    intro i n Q h1 h2
    obtain ⟨n1, rfl⟩ : ∃ z9, n = z9 + 1 := ⟨n - 1, by omega⟩
    have e : i = 32 := by omega
    subst e
    have hn := lpf (i := 32) (N := 32) (by omega) (by omega) (by omega)
    refine ⟨Q, ?_, rfl, fun K j S => ?_, fun g => ?_⟩
    · rw [ev12_resets_44, hF]
      unfold bv12_resets_44
      rw [if_neg hn]
    · repeat' split
      all_goals first
        | rfl
        | (exfalso; omega)
    · rw [eg12_resets_44, hF]
      unfold bg12_resets_44
      rw [if_neg hn]
      exact g
  | succ d ih =>
    intro i n Q h1 h2
    obtain ⟨n1, rfl⟩ : ∃ z9, n = z9 + 1 := ⟨n - 1, by omega⟩
    have l4 : cn (i : Int) < cn 32 := lpt (by omega) (by omega)
    have hi := fun (k : Nat) (hk : 32 ≤ k) (hk2 : k ≤ 100) => cninb (i := i) (n := k) (by omega) (by omega)
    obtain ⟨Q2, k1, k2, k3, k4⟩ := ih (i + 1) n1 (pI (Q) 13 2 i (cn 999)) (by omega) (by omega)
    refine ⟨Q2, ?_, k2, fun K j S => ?_, fun g => ?_⟩
    · rw [ev12_resets_44]
      unfold bv12_resets_44
      simp only [if_pos l4, cntk (i := i) (by omega), cnsucc]
      exact k1
    · rw [k3 K j S]
      simp only [pI_1]
      unfold u3
      by_cases hSi : S = i
      · subst hSi
        have a1 : ¬ S + 1 ≤ S := by omega
        have a2 : S < 32 := by omega
        simp only [a1, a2, Nat.le_refl, and_true, true_and, false_and, and_false, if_false]
        repeat' split
        all_goals first
          | rfl
          | (exfalso; omega)
          | (rename_i h8 h9; exact absurd h9 h8)
          | (rename_i h8 h9; exact absurd h8 h9)
      · have a1 : (i + 1 ≤ S) = (i ≤ S) := propext ⟨fun h => by omega, fun h => by omega⟩
        simp only [hSi, a1, and_false, if_false]
    · have k5 := k4 g
      have iN := hi 32 (by decide) (by decide)
      rw [eg12_resets_44]
      unfold bg12_resets_44
      simp only [if_pos l4, cntk (i := i) (by omega), cnsucc]
      repeat' first
        | with_reducible exact iN
        | with_reducible exact k5
        | exact trivial
        | exact not_false
        | apply And.intro
        | (split <;> rename_i h9 <;> first | simp only [if_neg h9, if_true, if_false] | simp only [if_pos h9, if_true, if_false] | skip)
theorem rz_67 {F : Nat} (hF : FU = F) : ∀ (d i n : Nat) (Q : PM), i + d = 8 → d < n → ∃ Q2 : PM, v12_resets_67 n Q (cn i) = v12_resets_109 F Q2 (cn 0) ∧ Q2.2 = Q.2 ∧ (∀ K j S, Q2.1 K j S = if K = 13 ∧ j = 3 ∧ i ≤ S ∧ S < 8 then cn 0 else if K = 13 ∧ j = 4 ∧ i ≤ S ∧ S < 8 then cn 0 else if K = 15 ∧ j = 1 ∧ i ≤ S ∧ S < 8 then cn 0 else if K = 13 ∧ j = 5 ∧ i ≤ S ∧ S < 8 then cn 0 else Q.1 K j S) ∧ (g12_resets_109 F Q2 (cn 0) → g12_resets_67 n Q (cn i)) := by
  intro d
  induction d with
  | zero =>
    intro i n Q h1 h2
    obtain ⟨n1, rfl⟩ : ∃ z9, n = z9 + 1 := ⟨n - 1, by omega⟩
    have e : i = 8 := by omega
    subst e
    have hn := lpf (i := 8) (N := 8) (by omega) (by omega) (by omega)
    refine ⟨Q, ?_, rfl, fun K j S => ?_, fun g => ?_⟩
    · rw [ev12_resets_67, hF]
      unfold bv12_resets_67
      rw [if_neg hn]
    · repeat' split
      all_goals first
        | rfl
        | (exfalso; omega)
    · rw [eg12_resets_67, hF]
      unfold bg12_resets_67
      rw [if_neg hn]
      exact g
  | succ d ih =>
    intro i n Q h1 h2
    obtain ⟨n1, rfl⟩ : ∃ z9, n = z9 + 1 := ⟨n - 1, by omega⟩
    have l4 : cn (i : Int) < cn 8 := lpt (by omega) (by omega)
    have hi := fun (k : Nat) (hk : 8 ≤ k) (hk2 : k ≤ 100) => cninb (i := i) (n := k) (by omega) (by omega)
    obtain ⟨Q2, k1, k2, k3, k4⟩ := ih (i + 1) n1 (pI (pI (pI (pI (Q) 13 3 i (cn 0)) 13 4 i (cn 0)) 15 1 i (cn 0)) 13 5 i (cn 0)) (by omega) (by omega)
    refine ⟨Q2, ?_, k2, fun K j S => ?_, fun g => ?_⟩
    · rw [ev12_resets_67]
      unfold bv12_resets_67
      simp only [if_pos l4, cntk (i := i) (by omega), cnsucc]
      exact k1
    · rw [k3 K j S]
      simp only [pI_1]
      unfold u3
      by_cases hSi : S = i
      · subst hSi
        have a1 : ¬ S + 1 ≤ S := by omega
        have a2 : S < 8 := by omega
        simp only [a1, a2, Nat.le_refl, and_true, true_and, false_and, and_false, if_false]
        repeat' split
        all_goals first
          | rfl
          | (exfalso; omega)
          | (rename_i h8 h9; exact absurd h9 h8)
          | (rename_i h8 h9; exact absurd h8 h9)
      · have a1 : (i + 1 ≤ S) = (i ≤ S) := propext ⟨fun h => by omega, fun h => by omega⟩
        simp only [hSi, a1, and_false, if_false]
    · have k5 := k4 g
      have iN := hi 8 (by decide) (by decide)
      rw [eg12_resets_67]
      unfold bg12_resets_67
      simp only [if_pos l4, cntk (i := i) (by omega), cnsucc]
      repeat' first
        | with_reducible exact iN
        | with_reducible exact k5
        | exact trivial
        | exact not_false
        | apply And.intro
        | (split <;> rename_i h9 <;> first | simp only [if_neg h9, if_true, if_false] | simp only [if_pos h9, if_true, if_false] | skip)
theorem rz_109 {F : Nat} (hF : FU = F) : ∀ (d i n : Nat) (Q : PM), i + d = 6 → d < n → ∃ Q2 : PM, v12_resets_109 n Q (cn i) = v12_resets_188 F Q2 (cn 0) ∧ Q2.2 = Q.2 ∧ (∀ K j S, Q2.1 K j S = if K = 13 ∧ j = 6 ∧ i ≤ S ∧ S < 6 then cn 0 else if K = 13 ∧ j = 7 ∧ i ≤ S ∧ S < 6 then cn 0 else if K = 13 ∧ j = 8 ∧ i ≤ S ∧ S < 6 then cn 0 else if K = 13 ∧ j = 9 ∧ i ≤ S ∧ S < 6 then cn 0 else if K = 13 ∧ j = 10 ∧ i ≤ S ∧ S < 6 then (if S < 4 then cn 100 else cn 0) else if K = 13 ∧ j = 11 ∧ i ≤ S ∧ S < 6 then (if S < 4 then cn 100 else cn 0) else if K = 13 ∧ j = 12 ∧ i ≤ S ∧ S < 6 then cn (-100000) else Q.1 K j S) ∧ (g12_resets_188 F Q2 (cn 0) → g12_resets_109 n Q (cn i)) := by
  intro d
  induction d with
  | zero =>
    intro i n Q h1 h2
    obtain ⟨n1, rfl⟩ : ∃ z9, n = z9 + 1 := ⟨n - 1, by omega⟩
    have e : i = 6 := by omega
    subst e
    have hn := lpf (i := 6) (N := 6) (by omega) (by omega) (by omega)
    refine ⟨Q, ?_, rfl, fun K j S => ?_, fun g => ?_⟩
    · rw [ev12_resets_109, hF]
      unfold bv12_resets_109
      rw [if_neg hn]
    · repeat' split
      all_goals first
        | rfl
        | (exfalso; omega)
    · rw [eg12_resets_109, hF]
      unfold bg12_resets_109
      rw [if_neg hn]
      exact g
  | succ d ih =>
    intro i n Q h1 h2
    obtain ⟨n1, rfl⟩ : ∃ z9, n = z9 + 1 := ⟨n - 1, by omega⟩
    have l4 : cn (i : Int) < cn 6 := lpt (by omega) (by omega)
    have hi := fun (k : Nat) (hk : 6 ≤ k) (hk2 : k ≤ 100) => cninb (i := i) (n := k) (by omega) (by omega)
    obtain ⟨Q2, k1, k2, k3, k4⟩ := ih (i + 1) n1 (pI (pI (pI (pI (pI (pI (pI (Q) 13 6 i (cn 0)) 13 7 i (cn 0)) 13 8 i (cn 0)) 13 9 i (cn 0)) 13 10 i (if i < 4 then cn 100 else cn 0)) 13 11 i (if i < 4 then cn 100 else cn 0)) 13 12 i (cn (-100000))) (by omega) (by omega)
    refine ⟨Q2, ?_, k2, fun K j S => ?_, fun g => ?_⟩
    · rw [ev12_resets_109]
      unfold bv12_resets_109
      by_cases hs : i < 4
      · have l5 : cn (i : Int) < cn 4 := lpt (by omega) (by omega)
        rw [if_pos hs] at k1
        simp only [if_pos l4, if_pos l5, cntk (i := i) (by omega), pI_at, cnsucc]
        exact k1
      · have l5 := lpf (i := i) (N := 4) (by omega) (by omega) (by omega)
        rw [if_neg hs] at k1
        simp only [if_pos l4, if_neg l5, cntk (i := i) (by omega), pI_at, cnsucc]
        exact k1
    · rw [k3 K j S]
      simp only [pI_1]
      unfold u3
      by_cases hSi : S = i
      · subst hSi
        have a1 : ¬ S + 1 ≤ S := by omega
        have a2 : S < 6 := by omega
        simp only [a1, a2, Nat.le_refl, and_true, true_and, false_and, and_false, if_false]
        repeat' split
        all_goals first
          | rfl
          | (exfalso; omega)
          | (rename_i h8 h9; exact absurd h9 h8)
          | (rename_i h8 h9; exact absurd h8 h9)
      · have a1 : (i + 1 ≤ S) = (i ≤ S) := propext ⟨fun h => by omega, fun h => by omega⟩
        simp only [hSi, a1, and_false, if_false]
    · have k5 := k4 g
      have i6 := hi 6 (by decide) (by decide)
      rw [eg12_resets_109]
      unfold bg12_resets_109
      by_cases hs : i < 4
      · have l5 : cn (i : Int) < cn 4 := lpt (by omega) (by omega)
        rw [if_pos hs] at k5
        simp only [if_pos l4, if_pos l5, cntk (i := i) (by omega), pI_at, cnsucc]
        repeat' first
          | with_reducible exact i6
          | with_reducible exact k5
          | exact trivial
          | exact not_false
          | apply And.intro
          | (split <;> rename_i h9 <;> first | simp only [if_neg h9, if_true, if_false] | simp only [if_pos h9, if_true, if_false] | skip)
      · have l5 := lpf (i := i) (N := 4) (by omega) (by omega) (by omega)
        rw [if_neg hs] at k5
        simp only [if_pos l4, if_neg l5, cntk (i := i) (by omega), pI_at, cnsucc]
        repeat' first
          | with_reducible exact i6
          | with_reducible exact k5
          | exact trivial
          | exact not_false
          | apply And.intro
          | (split <;> rename_i h9 <;> first | simp only [if_neg h9, if_true, if_false] | simp only [if_pos h9, if_true, if_false] | skip)
theorem rz_188 {F : Nat} (hF : FU = F) : ∀ (d i n : Nat) (Q : PM), i + d = 44 → d < n → ∃ Q2 : PM, v12_resets_188 n Q (cn i) = v12_resets_209 F Q2 (cn 0) ∧ Q2.2 = Q.2 ∧ (∀ K j S, Q2.1 K j S = if K = 15 ∧ j = 3 ∧ i ≤ S ∧ S < 44 then cn 0 else Q.1 K j S) ∧ (g12_resets_209 F Q2 (cn 0) → g12_resets_188 n Q (cn i)) := by
  intro d
  induction d with
  | zero =>
    intro i n Q h1 h2
    obtain ⟨n1, rfl⟩ : ∃ z9, n = z9 + 1 := ⟨n - 1, by omega⟩
    have e : i = 44 := by omega
    subst e
    have hn := lpf (i := 44) (N := 44) (by omega) (by omega) (by omega)
    refine ⟨Q, ?_, rfl, fun K j S => ?_, fun g => ?_⟩
    · rw [ev12_resets_188, hF]
      unfold bv12_resets_188
      rw [if_neg hn]
    · repeat' split
      all_goals first
        | rfl
        | (exfalso; omega)
    · rw [eg12_resets_188, hF]
      unfold bg12_resets_188
      rw [if_neg hn]
      exact g
  | succ d ih =>
    intro i n Q h1 h2
    obtain ⟨n1, rfl⟩ : ∃ z9, n = z9 + 1 := ⟨n - 1, by omega⟩
    have l4 : cn (i : Int) < cn 44 := lpt (by omega) (by omega)
    have hi := fun (k : Nat) (hk : 44 ≤ k) (hk2 : k ≤ 100) => cninb (i := i) (n := k) (by omega) (by omega)
    obtain ⟨Q2, k1, k2, k3, k4⟩ := ih (i + 1) n1 (pI (Q) 15 3 i (cn 0)) (by omega) (by omega)
    refine ⟨Q2, ?_, k2, fun K j S => ?_, fun g => ?_⟩
    · rw [ev12_resets_188]
      unfold bv12_resets_188
      simp only [if_pos l4, cntk (i := i) (by omega), cnsucc]
      exact k1
    · rw [k3 K j S]
      simp only [pI_1]
      unfold u3
      by_cases hSi : S = i
      · subst hSi
        have a1 : ¬ S + 1 ≤ S := by omega
        have a2 : S < 44 := by omega
        simp only [a1, a2, Nat.le_refl, and_true, true_and, false_and, and_false, if_false]
        repeat' split
        all_goals first
          | rfl
          | (exfalso; omega)
          | (rename_i h8 h9; exact absurd h9 h8)
          | (rename_i h8 h9; exact absurd h8 h9)
      · have a1 : (i + 1 ≤ S) = (i ≤ S) := propext ⟨fun h => by omega, fun h => by omega⟩
        simp only [hSi, a1, and_false, if_false]
    · have k5 := k4 g
      have iN := hi 44 (by decide) (by decide)
      rw [eg12_resets_188]
      unfold bg12_resets_188
      simp only [if_pos l4, cntk (i := i) (by omega), cnsucc]
      repeat' first
        | with_reducible exact iN
        | with_reducible exact k5
        | exact trivial
        | exact not_false
        | apply And.intro
        | (split <;> rename_i h9 <;> first | simp only [if_neg h9, if_true, if_false] | simp only [if_pos h9, if_true, if_false] | skip)
theorem rz_209 {F : Nat} (hF : FU = F) : ∀ (d i n : Nat) (Q : PM), i + d = 16 → d < n → ∃ Q2 : PM, v12_resets_209 n Q (cn i) = v12_resets_230 F Q2 (cn 0) ∧ Q2.2 = Q.2 ∧ (∀ K j S, Q2.1 K j S = if K = 13 ∧ j = 35 ∧ i ≤ S ∧ S < 16 then cn 0 else Q.1 K j S) ∧ (g12_resets_230 F Q2 (cn 0) → g12_resets_209 n Q (cn i)) := by
  intro d
  induction d with
  | zero =>
    intro i n Q h1 h2
    obtain ⟨n1, rfl⟩ : ∃ z9, n = z9 + 1 := ⟨n - 1, by omega⟩
    have e : i = 16 := by omega
    subst e
    have hn := lpf (i := 16) (N := 16) (by omega) (by omega) (by omega)
    refine ⟨Q, ?_, rfl, fun K j S => ?_, fun g => ?_⟩
    · rw [ev12_resets_209, hF]
      unfold bv12_resets_209
      rw [if_neg hn]
    · repeat' split
      all_goals first
        | rfl
        | (exfalso; omega)
    · rw [eg12_resets_209, hF]
      unfold bg12_resets_209
      rw [if_neg hn]
      exact g
  | succ d ih =>
    intro i n Q h1 h2
    obtain ⟨n1, rfl⟩ : ∃ z9, n = z9 + 1 := ⟨n - 1, by omega⟩
    have l4 : cn (i : Int) < cn 16 := lpt (by omega) (by omega)
    have hi := fun (k : Nat) (hk : 16 ≤ k) (hk2 : k ≤ 100) => cninb (i := i) (n := k) (by omega) (by omega)
    obtain ⟨Q2, k1, k2, k3, k4⟩ := ih (i + 1) n1 (pI (Q) 13 35 i (cn 0)) (by omega) (by omega)
    refine ⟨Q2, ?_, k2, fun K j S => ?_, fun g => ?_⟩
    · rw [ev12_resets_209]
      unfold bv12_resets_209
      simp only [if_pos l4, cntk (i := i) (by omega), cnsucc]
      exact k1
    · rw [k3 K j S]
      simp only [pI_1]
      unfold u3
      by_cases hSi : S = i
      · subst hSi
        have a1 : ¬ S + 1 ≤ S := by omega
        have a2 : S < 16 := by omega
        simp only [a1, a2, Nat.le_refl, and_true, true_and, false_and, and_false, if_false]
        repeat' split
        all_goals first
          | rfl
          | (exfalso; omega)
          | (rename_i h8 h9; exact absurd h9 h8)
          | (rename_i h8 h9; exact absurd h8 h9)
      · have a1 : (i + 1 ≤ S) = (i ≤ S) := propext ⟨fun h => by omega, fun h => by omega⟩
        simp only [hSi, a1, and_false, if_false]
    · have k5 := k4 g
      have iN := hi 16 (by decide) (by decide)
      rw [eg12_resets_209]
      unfold bg12_resets_209
      simp only [if_pos l4, cntk (i := i) (by omega), cnsucc]
      repeat' first
        | with_reducible exact iN
        | with_reducible exact k5
        | exact trivial
        | exact not_false
        | apply And.intro
        | (split <;> rename_i h9 <;> first | simp only [if_neg h9, if_true, if_false] | simp only [if_pos h9, if_true, if_false] | skip)
theorem rz_230 {F : Nat} (hF : FU = F) : ∀ (d i n : Nat) (Q : PM), i + d = 4 → d < n → ∃ Q2 : PM, v12_resets_230 n Q (cn i) = rz9 Q2 ∧ Q2.2 = Q.2 ∧ (∀ K j S, Q2.1 K j S = if K = 13 ∧ j = 36 ∧ i ≤ S ∧ S < 4 then cn 0 else if K = 13 ∧ j = 37 ∧ i ≤ S ∧ S < 4 then cn 0 else if K = 13 ∧ j = 38 ∧ i ≤ S ∧ S < 4 then cn 200 else if K = 15 ∧ j = 9 ∧ i ≤ S ∧ S < 4 then cn 0 else if K = 15 ∧ j = 10 ∧ i ≤ S ∧ S < 4 then cn 0 else Q.1 K j S) ∧ (g12_resets_230 n Q (cn i)) := by
  intro d
  induction d with
  | zero =>
    intro i n Q h1 h2
    obtain ⟨n1, rfl⟩ : ∃ z9, n = z9 + 1 := ⟨n - 1, by omega⟩
    have e : i = 4 := by omega
    subst e
    have hn := lpf (i := 4) (N := 4) (by omega) (by omega) (by omega)
    refine ⟨Q, ?_, rfl, fun K j S => ?_, ?_⟩
    · rw [ev12_resets_230]
      unfold bv12_resets_230
      rw [if_neg hn]
      rfl
    · repeat' split
      all_goals first
        | rfl
        | (exfalso; omega)
    · rw [eg12_resets_230]
      unfold bg12_resets_230
      rw [if_neg hn]
      exact trivial
  | succ d ih =>
    intro i n Q h1 h2
    obtain ⟨n1, rfl⟩ : ∃ z9, n = z9 + 1 := ⟨n - 1, by omega⟩
    have l4 : cn (i : Int) < cn 4 := lpt (by omega) (by omega)
    have hi := fun (k : Nat) (hk : 4 ≤ k) (hk2 : k ≤ 100) => cninb (i := i) (n := k) (by omega) (by omega)
    obtain ⟨Q2, k1, k2, k3, k4⟩ := ih (i + 1) n1 (pI (pI (pI (pI (pI (Q) 13 36 i (cn 0)) 13 37 i (cn 0)) 13 38 i (cn 200)) 15 9 i (cn 0)) 15 10 i (cn 0)) (by omega) (by omega)
    refine ⟨Q2, ?_, k2, fun K j S => ?_, ?_⟩
    · rw [ev12_resets_230]
      unfold bv12_resets_230
      simp only [if_pos l4, cntk (i := i) (by omega), cnsucc]
      exact k1
    · rw [k3 K j S]
      simp only [pI_1]
      unfold u3
      by_cases hSi : S = i
      · subst hSi
        have a1 : ¬ S + 1 ≤ S := by omega
        have a2 : S < 4 := by omega
        simp only [a1, a2, Nat.le_refl, and_true, true_and, false_and, and_false, if_false]
        repeat' split
        all_goals first
          | rfl
          | (exfalso; omega)
          | (rename_i h8 h9; exact absurd h9 h8)
          | (rename_i h8 h9; exact absurd h8 h9)
      · have a1 : (i + 1 ≤ S) = (i ≤ S) := propext ⟨fun h => by omega, fun h => by omega⟩
        simp only [hSi, a1, and_false, if_false]
    · have k5 := k4
      have iN := hi 4 (by decide) (by decide)
      rw [eg12_resets_230]
      unfold bg12_resets_230
      simp only [if_pos l4, cntk (i := i) (by omega), cnsucc]
      repeat' first
        | with_reducible exact iN
        | with_reducible exact k5
        | exact trivial
        | exact not_false
        | apply And.intro
        | (split <;> rename_i h9 <;> first | simp only [if_neg h9, if_true, if_false] | simp only [if_pos h9, if_true, if_false] | skip)
theorem rz_23 {F : Nat} (hF : FU = F) : ∀ (d i n : Nat) (Q : PM), i + d = 9 → d < n → ∃ Q2 : PM, v12_resets_23 n Q (cn i) = v12_resets_44 F Q2 (cn 0) ∧ Q2.1 = Q.1 ∧ Q2.2.2 = Q.2.2 ∧ (∀ K j S, Q2.2.1 K j S = if K = 14 ∧ j = 1 ∧ i ≤ S ∧ S < 9 then cl 0 else Q.2.1 K j S) ∧ (g12_resets_44 F Q2 (cn 0) → g12_resets_23 n Q (cn i)) := by
  intro d
  induction d with
  | zero =>
    intro i n Q h1 h2
    obtain ⟨n1, rfl⟩ : ∃ z9, n = z9 + 1 := ⟨n - 1, by omega⟩
    have e : i = 9 := by omega
    subst e
    have hn := lpf (i := 9) (N := 9) (by omega) (by omega) (by omega)
    refine ⟨Q, ?_, rfl, rfl, fun K j S => ?_, fun g => ?_⟩
    · rw [ev12_resets_23, hF]
      unfold bv12_resets_23
      rw [if_neg hn]
    · repeat' split
      all_goals first
        | rfl
        | (exfalso; omega)
    · rw [eg12_resets_23, hF]
      unfold bg12_resets_23
      rw [if_neg hn]
      exact g
  | succ d ih =>
    intro i n Q h1 h2
    obtain ⟨n1, rfl⟩ : ∃ z9, n = z9 + 1 := ⟨n - 1, by omega⟩
    have l4 : cn (i : Int) < cn 9 := lpt (by omega) (by omega)
    have hi := cninb (i := i) (n := 9) (by omega) (by omega)
    obtain ⟨Q2, k1, k2, k3, k4, k5⟩ := ih (i + 1) n1 (pJ Q 14 1 i (cl 0)) (by omega) (by omega)
    refine ⟨Q2, ?_, k2, k3, fun K j S => ?_, fun g => ?_⟩
    · rw [ev12_resets_23]
      unfold bv12_resets_23
      simp only [if_pos l4, cntk (i := i) (by omega), cnsucc]
      exact k1
    · rw [k4 K j S]
      simp only [pJ_J]
      unfold u3
      repeat' split
      all_goals first
        | rfl
        | (exfalso; omega)
    · have k6 := k5 g
      rw [eg12_resets_23]
      unfold bg12_resets_23
      simp only [if_pos l4, cntk (i := i) (by omega), cnsucc]
      exact ⟨hi, k6⟩
end Resets
