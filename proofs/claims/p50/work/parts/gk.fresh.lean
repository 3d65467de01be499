/-! both begin anew -/
section Fresh
variable {p q : PM} {lg : Nat → Int32}
theorem rv2_54 {kv : PM → Int32 → PM} {kg : PM → Int32 → Prop} {v4 s : Nat} (h20 : 20 ≤ v4) (h23 : v4 ≤ 23) : ∀ (d i n : Nat) (P : PM), i + d = 4 → d < n → ∃ P2 : PM, v2_restore_54 kv n P (cn s) v4 (cn i) = kv P2 (cn ((s + 1 : Nat) : Int)) ∧ (kg P2 (cn ((s + 1 : Nat) : Int)) → g2_restore_54 kg n P (cn s) v4 (cn i)) ∧ P2.2 = P.2 ∧ ∀ K j S, P2.1 K j S = if K = 13 ∧ j = v4 ∧ i ≤ S ∧ S < 4 then cn 0 else P.1 K j S := by
  intro d
  induction d with
  | zero =>
    intro i n P h1 h2
    obtain ⟨n1, rfl⟩ : ∃ z9, n = z9 + 1 := ⟨n - 1, by omega⟩
    have e : i = 4 := by omega
    subst e
    have hn := lpf (i := 4) (N := 4) (by omega) (by omega) (by omega)
    refine ⟨P, ?_, fun g => ?_, rfl, fun K j S => ?_⟩
    · rw [ev2_restore_54]
      unfold bv2_restore_54
      rw [if_neg hn, cnsucc]
    · rw [eg2_restore_54]
      unfold bg2_restore_54
      rw [if_neg hn, cnsucc]
      exact ⟨⟨h20, h23⟩, g⟩
    · rw [if_neg (by omega)]
  | succ d ih =>
    intro i n P h1 h2
    obtain ⟨n1, rfl⟩ : ∃ z9, n = z9 + 1 := ⟨n - 1, by omega⟩
    have l4 : cn (i : Int) < cn 4 := lpt (by omega) (by omega)
    have hi := cninb (i := i) (n := 4) (by omega) (by omega)
    obtain ⟨P2, k1, k2, k3, k4⟩ := ih (i + 1) n1 (pI P 13 v4 i (cn 0)) (by omega) (by omega)
    refine ⟨P2, ?_, fun g => ?_, k3, fun K j S => ?_⟩
    · rw [ev2_restore_54]
      unfold bv2_restore_54
      simp only [if_pos l4, cntk (i := i) (by omega), cnsucc]
      exact k1
    · have g' := k2 g
      rw [eg2_restore_54]
      unfold bg2_restore_54
      simp only [if_pos l4, cntk (i := i) (by omega), cnsucc]
      exact ⟨⟨h20, h23⟩, ⟨⟨h20, h23⟩, hi⟩, g'⟩
    · rw [k4 K j S, pI_1]
      unfold u3
      repeat' split
      all_goals first
        | rfl
        | (exfalso; omega)
theorem rv2_41 {F : Nat} (hF : FU = F) (hF2 : 100 < F) : ∀ (d s n : Nat) (P : PM), s + d = 4 → d < n → ∃ P2 : PM, v2_restore_41 n P (cn s) = P2 ∧ g2_restore_41 n P (cn s) ∧ P2.2 = P.2 ∧ ∀ K j S, P2.1 K j S = if K = 2 ∧ j = 1 ∧ S = 4 then cn 0 else if K = 2 ∧ j = 1 ∧ S = 5 then cn 500 else if K = 2 ∧ j = 1 ∧ S = 6 then cn (-100000) else if K = 13 ∧ 20 + s ≤ j ∧ j < 24 ∧ S < 4 then cn 0 else P.1 K j S := by
  intro d
  induction d with
  | zero =>
    intro s n P h1 h2
    obtain ⟨n1, rfl⟩ : ∃ z9, n = z9 + 1 := ⟨n - 1, by omega⟩
    have e : s = 4 := by omega
    subst e
    have hn := lpf (i := 4) (N := 4) (by omega) (by omega) (by omega)
    refine ⟨pI (pI (pI P 2 1 4 (cn 0)) 2 1 5 (cn 500)) 2 1 6 (cn (-100000)), ?_, ?_, rfl, fun K j S => ?_⟩
    · rw [ev2_restore_41]
      unfold bv2_restore_41
      rw [if_neg hn]
    · rw [eg2_restore_41]
      unfold bg2_restore_41
      rw [if_neg hn]
      exact trivial
    · simp only [pI_1]
      unfold u3
      repeat' split
      all_goals first
        | rfl
        | (exfalso; omega)
  | succ d ih =>
    intro s n P h1 h2
    obtain ⟨n1, rfl⟩ : ∃ z9, n = z9 + 1 := ⟨n - 1, by omega⟩
    have l4 : cn (s : Int) < cn 4 := lpt (by omega) (by omega)
    have hi := cninb (i := s) (n := 4) (by omega) (by omega)
    have z00 : cn ((0 : Nat) : Int) = cn 0 := rfl
    obtain ⟨P1, f1, f2, f3, f4⟩ := rv2_54 (kv := v2_restore_41 n1) (kg := g2_restore_41 n1) (v4 := s + 20) (s := s) (by omega) (by omega) 4 0 F P rfl (by omega)
    obtain ⟨P2, k1, k2, k3, k4⟩ := ih (s + 1) n1 P1 (by omega) (by omega)
    rw [z00] at f1 f2
    refine ⟨P2, ?_, ?_, k3.trans f3, fun K j S => ?_⟩
    · rw [ev2_restore_41, hF]
      unfold bv2_restore_41
      rw [if_pos l4, cntk (by omega), f1]
      exact k1
    · rw [eg2_restore_41, hF]
      unfold bg2_restore_41
      rw [if_pos l4, cntk (by omega)]
      exact ⟨hi, f2 k2⟩
    · rw [k4 K j S, f4 K j S]
      repeat' split
      all_goals first
        | rfl
        | (exfalso; omega)
theorem rv2_10 {F : Nat} (hF : FU = F) (hF2 : 100 < F) : ∀ (d i n : Nat) (P : PM), i + d = 4 → d < n → ∃ P2 : PM, v2_restore_10 n P (cn i) = P2 ∧ g2_restore_10 n P (cn i) ∧ P2.2 = P.2 ∧ ∀ K j S, P2.1 K j S = if K = 2 ∧ j = 1 ∧ S = 4 then cn 0 else if K = 2 ∧ j = 1 ∧ S = 5 then cn 500 else if K = 2 ∧ j = 1 ∧ S = 6 then cn (-100000) else if K = 13 ∧ 20 ≤ j ∧ j < 24 ∧ S < 4 then cn 0 else if K = 9 ∧ i + 1 ≤ j ∧ j ≤ 4 ∧ S ≤ 5 then (if S = 2 then cn 200 else cn 0) else P.1 K j S := by
  intro d
  induction d with
  | zero =>
    intro i n P h1 h2
    obtain ⟨n1, rfl⟩ : ∃ z9, n = z9 + 1 := ⟨n - 1, by omega⟩
    have e : i = 4 := by omega
    subst e
    have hn := lpf (i := 4) (N := 4) (by omega) (by omega) (by omega)
    have z00 : cn ((0 : Nat) : Int) = cn 0 := rfl
    obtain ⟨P2, k1, k2, k3, k4⟩ := rv2_41 hF hF2 4 0 F P rfl (by omega)
    rw [z00] at k1 k2
    refine ⟨P2, ?_, ?_, k3, fun K j S => ?_⟩
    · rw [ev2_restore_10, hF]
      unfold bv2_restore_10
      rw [if_neg hn]
      exact k1
    · rw [eg2_restore_10, hF]
      unfold bg2_restore_10
      rw [if_neg hn]
      exact k2
    · rw [k4 K j S]
      repeat' split
      all_goals first
        | rfl
        | (exfalso; omega)
  | succ d ih =>
    intro i n P h1 h2
    obtain ⟨n1, rfl⟩ : ∃ z9, n = z9 + 1 := ⟨n - 1, by omega⟩
    have l4 : cn (i : Int) < cn 4 := lpt (by omega) (by omega)
    have hi := cninb (i := i) (n := 4) (by omega) (by omega)
    have hz : ¬ i + 1 = 0 := by omega
    obtain ⟨P1, hP1⟩ : ∃ P1, pI (pI (pI (pI (pI (pI P 9 (i + 1) 0 (cn 0)) 9 (i + 1) 1 (cn 0)) 9 (i + 1) 2 (cn 200)) 9 (i + 1) 3 (cn 0)) 9 (i + 1) 4 (cn 0)) 9 (i + 1) 5 (cn 0) = P1 := ⟨_, rfl⟩
    have f1 : v9_restore P (i + 1) = P1 ∧ g9_restore P (i + 1) := by
      refine ⟨hP1, hz, hz, hz, hz, hz, ⟨hz, hz, trivial⟩, trivial⟩
    have f4 : ∀ K j S, P1.1 K j S = if K = 9 ∧ j = i + 1 ∧ S ≤ 5 then (if S = 2 then cn 200 else cn 0) else P.1 K j S := by
      intro K j S
      rw [← hP1]
      simp only [pI_1]
      unfold u3
      repeat' split
      all_goals first
        | rfl
        | (exfalso; omega)
    have f3 : P1.2 = P.2 := by rw [← hP1]; rfl
    obtain ⟨P2, k1, k2, k3, k4⟩ := ih (i + 1) n1 P1 (by omega) (by omega)
    refine ⟨P2, ?_, ?_, k3.trans f3, fun K j S => ?_⟩
    · rw [ev2_restore_10]
      unfold bv2_restore_10
      simp only [if_pos l4, cntk (i := i) (by omega), f1.1, cnsucc]
      exact k1
    · rw [eg2_restore_10]
      unfold bg2_restore_10
      simp only [if_pos l4, cntk (i := i) (by omega), f1.1, cnsucc]
      exact ⟨hi, f1.2, k2⟩
    · rw [k4 K j S, f4 K j S]
      repeat' split
      all_goals first
        | rfl
        | (exfalso; omega)
/-- all that the class sets anew -/
theorem rv5 (hK : CK p) : ∃ P : PM, v5_restore p = P ∧ g5_restore p ∧ P.2.2 = p.2.2 ∧ (∀ j, 1 ≤ j → j ≤ 9 → P.2.1 0 j 4 = cl 0) ∧ (∀ S, 2 ≤ S → S ≤ 5 → P.1 6 1 S = cn 0) ∧ (∀ j, 1 ≤ j → j ≤ 40 → P.1 10 j 2 = cn 0) ∧ (∀ j, 1 ≤ j → j ≤ 6 → P.1 1 j 3 = (if j < 5 then cn 100 else cn 0) ∧ P.1 1 j 4 = (if j < 5 then cn 100 else cn 0) ∧ ∀ S, 5 ≤ S → S ≤ 12 → P.1 1 j S = cn 0) ∧ P.1 7 1 2 = cn 0 ∧ (∀ j, 1 ≤ j → j ≤ 60 → P.1 4 j 6 = cn 0) ∧ (∀ j S, 1 ≤ j → j ≤ 18 → S < 4 → P.1 13 j S = if j % 2 = 1 then cn 0 else cn 999) ∧ (∀ j S, 1 ≤ j → j ≤ 9 → 5 ≤ S → S ≤ 8 → P.1 0 j S = cn 0) ∧ (P.1 2 1 4 = cn 0 ∧ P.1 2 1 5 = cn 500 ∧ P.1 2 1 6 = cn (-100000)) ∧ (∀ j S, 20 ≤ j → j < 24 → S < 4 → P.1 13 j S = cn 0) ∧ (∀ j S, 1 ≤ j → j ≤ 4 → S ≤ 5 → P.1 9 j S = if S = 2 then cn 200 else cn 0) ∧ CK P := by
  obtain ⟨F, hF, hF2⟩ : ∃ F, FU = F ∧ 100 < F := ⟨FU, rfl, by decide⟩
  have z00 : cn ((0 : Nat) : Int) = cn 0 := rfl
  obtain ⟨P1, a1, a2, a3, a4⟩ := rv6 p (fun b hb => (hK.2 b hb).2.2)
  obtain ⟨P2, b1', b2', b3', b4', b5'⟩ := rv7 P1
  obtain ⟨P3, c1, c2, c3, c4⟩ := rv2_10 hF hF2 4 0 F P2 rfl (by omega)
  rw [z00] at c1 c2
  have e2 : v2_restore P2 = P3 := by
    unfold v2_restore bv2_restore
    rw [hF]
    exact c1
  have g2 : g2_restore P2 := by
    unfold g2_restore bg2_restore
    rw [hF]
    exact c2
  refine ⟨P3, ?_, ?_, ?_, fun j h h' => ?_, fun S h h' => ?_, fun j h h' => ?_, fun j h h' => ⟨?_, ?_, fun S k k' => ?_⟩, ?_, fun j h h' => ?_, fun j S h h' k => ?_, fun j S h h' k k' => ?_, ⟨?_, ?_, ?_⟩, fun j S h h' k => ?_, fun j S h h' k => ?_, ?_⟩
  · unfold v5_restore bv5_restore
    simp only [a1, b1', e2]
  · unfold g5_restore bg5_restore
    simp only [a1, b1', e2]
    exact ⟨a2, b2', g2, trivial⟩
  · rw [c3, b3', a3]
  · rw [c3, b4', if_pos (by omega)]
  · rw [c4, if_neg (by omega), if_neg (by omega), if_neg (by omega), if_neg (by omega), if_neg (by omega), b5', if_neg (by omega), if_neg (by omega), if_neg (by omega), if_neg (by omega), a4, if_pos (by omega)]
  · rw [c4, if_neg (by omega), if_neg (by omega), if_neg (by omega), if_neg (by omega), if_neg (by omega), b5', if_neg (by omega), if_neg (by omega), if_neg (by omega), if_neg (by omega), a4, if_neg (by omega), if_pos (by omega)]
  · rw [c4, if_neg (by omega), if_neg (by omega), if_neg (by omega), if_neg (by omega), if_neg (by omega), b5', if_neg (by omega), if_neg (by omega), if_neg (by omega), if_neg (by omega), a4, if_neg (by omega), if_neg (by omega), if_pos (by omega)]
  · rw [c4, if_neg (by omega), if_neg (by omega), if_neg (by omega), if_neg (by omega), if_neg (by omega), b5', if_neg (by omega), if_neg (by omega), if_neg (by omega), if_neg (by omega), a4, if_neg (by omega), if_neg (by omega), if_pos (by omega)]
  · rw [c4, if_neg (by omega), if_neg (by omega), if_neg (by omega), if_neg (by omega), if_neg (by omega), b5', if_neg (by omega), if_neg (by omega), if_neg (by omega), if_neg (by omega), a4, if_neg (by omega), if_neg (by omega), if_neg (by omega), if_pos (by omega)]
  · rw [c4, if_neg (by omega), if_neg (by omega), if_neg (by omega), if_neg (by omega), if_neg (by omega), b5', if_pos (by omega)]
  · rw [c4, if_neg (by omega), if_neg (by omega), if_neg (by omega), if_neg (by omega), if_neg (by omega), b5', if_neg (by omega), if_pos (by omega)]
  · rw [c4, if_neg (by omega), if_neg (by omega), if_neg (by omega), if_neg (by omega), if_neg (by omega), b5', if_neg (by omega), if_neg (by omega), if_pos (by omega)]
  · rw [c4, if_neg (by omega), if_neg (by omega), if_neg (by omega), if_neg (by omega), if_neg (by omega), b5', if_neg (by omega), if_neg (by omega), if_neg (by omega), if_pos (by omega)]
  · rw [c4, if_pos (by omega)]
  · rw [c4, if_neg (by omega), if_pos (by omega)]
  · rw [c4, if_neg (by omega), if_neg (by omega), if_pos (by omega)]
  · rw [c4, if_neg (by omega), if_neg (by omega), if_neg (by omega), if_pos (by omega)]
  · rw [c4, if_neg (by omega), if_neg (by omega), if_neg (by omega), if_neg (by omega), if_pos (by omega)]
  · have e0 : ∀ j S, S < 2 → P3.1 0 j S = p.1 0 j S := fun j S h => by
      rw [c4, if_neg (by omega), if_neg (by omega), if_neg (by omega), if_neg (by omega), if_neg (by omega), b5', if_neg (by omega), if_neg (by omega), if_neg (by omega), if_neg (by omega), a4, if_neg (by omega), if_neg (by omega), if_neg (by omega), if_neg (by omega)]
    have e1 : ∀ j S, S < 3 → P3.1 1 j S = p.1 1 j S := fun j S h => by
      rw [c4, if_neg (by omega), if_neg (by omega), if_neg (by omega), if_neg (by omega), if_neg (by omega), b5', if_neg (by omega), if_neg (by omega), if_neg (by omega), if_neg (by omega), a4, if_neg (by omega), if_neg (by omega), if_neg (by omega), if_neg (by omega)]
    refine ⟨fun a ha => ?_, fun b hb => ?_⟩
    · rw [e0 _ 0 (by decide), e0 _ 1 (by decide)]
      exact hK.1 a ha
    · rw [e1 _ 0 (by decide), e1 _ 1 (by decide), e1 _ 2 (by decide)]
      exact hK.2 b hb
end Fresh
