/-! anew, class and reference agree -/
section Fresh2
variable {p q : PM} {lg : Nat → Int32}
/-- all that the reference sets anew -/
theorem rq_all0 (q : PM) : ∃ Q : PM, bv12_resets (v12_resets_2 FU) q = Q ∧ bg12_resets (g12_resets_2 FU) q ∧ Q.2.2 = q.2.2 ∧ (∀ S, S < 9 → Q.2.1 14 1 S = cl 0) ∧ (∀ S, S < 36 → Q.1 13 1 S = cn 0) ∧ (∀ S, S < 32 → Q.1 13 2 S = cn 999) ∧ (∀ S, S < 8 → Q.1 13 3 S = cn 0 ∧ Q.1 13 4 S = cn 0 ∧ Q.1 15 1 S = cn 0 ∧ Q.1 13 5 S = cn 0) ∧ (∀ S, S < 6 → Q.1 13 6 S = cn 0 ∧ Q.1 13 7 S = cn 0 ∧ Q.1 13 8 S = cn 0 ∧ Q.1 13 9 S = cn 0 ∧ Q.1 13 10 S = (if S < 4 then cn 100 else cn 0) ∧ Q.1 13 11 S = (if S < 4 then cn 100 else cn 0) ∧ Q.1 13 12 S = cn (-100000)) ∧ (∀ S, S < 44 → Q.1 15 3 S = cn 0) ∧ (∀ S, S < 16 → Q.1 13 35 S = cn 0) ∧ (∀ S, S < 4 → Q.1 13 36 S = cn 0 ∧ Q.1 13 37 S = cn 0 ∧ Q.1 13 38 S = cn 200 ∧ Q.1 15 9 S = cn 0 ∧ Q.1 15 10 S = cn 0) ∧ (Q.1 12 1 50 = cn 0 ∧ Q.1 12 1 57 = cn (-1) ∧ Q.1 12 1 58 = cn 500 ∧ Q.1 12 1 17 = cn 0 ∧ Q.1 12 1 18 = cn 0 ∧ Q.1 12 1 39 = cn 0 ∧ Q.1 12 1 40 = cn 0 ∧ Q.1 12 1 48 = cn 0) ∧ (∀ S, Q.1 13 40 S = q.1 13 40 S) ∧ (∀ S, Q.1 15 8 S = q.1 15 8 S) ∧ (∀ S, S = 0 ∨ S = 60 ∨ S = 61 → Q.1 12 1 S = q.1 12 1 S) ∧ Q.1 13 4 8 = q.1 13 4 8 ∧ Q.1 12 1 95 = q.1 12 1 95 := by
  obtain ⟨F, hF, hF2⟩ : ∃ F, FU = F ∧ 100 < F := ⟨FU, rfl, by decide⟩
  have z00 : cn ((0 : Nat) : Int) = cn 0 := rfl
  obtain ⟨q1, a1, a2, a3, a4⟩ := rz_2 hF 36 0 F q rfl (by omega)
  obtain ⟨q2, b1', b2', b3', b4', b5'⟩ := rz_23 hF 9 0 F q1 rfl (by omega)
  obtain ⟨q3, c1, c2, c3, c4⟩ := rz_44 hF 32 0 F q2 rfl (by omega)
  obtain ⟨q4, d1, d2, d3, d4⟩ := rz_67 hF 8 0 F q3 rfl (by omega)
  obtain ⟨q5, e1, e2, e3, e4⟩ := rz_109 hF 6 0 F q4 rfl (by omega)
  obtain ⟨q6, f1, f2, f3, f4⟩ := rz_188 hF 44 0 F q5 rfl (by omega)
  obtain ⟨q7, g1, g2, g3, g4⟩ := rz_209 hF 16 0 F q6 rfl (by omega)
  obtain ⟨q8, h1, h2, h3, h4⟩ := rz_230 hF 4 0 F q7 rfl (by omega)
  rw [z00] at a1 a4 b1' b5' c1 c4 d1 d4 e1 e4 f1 f4 g1 g4 h1 h4
  have r9 : ∀ K j S, ¬ K = 12 → (rz9 q8).1 K j S = q8.1 K j S := by
    intro K j S h
    unfold rz9
    rw [pI_1, u3_k h, pI_1, u3_k h, pI_1, u3_k h, pI_1, u3_k h, pI_1, u3_k h, pI_1, u3_k h, pI_1, u3_k h, pI_1, u3_k h]
  have r12 : ∀ S, S = 0 ∨ S = 60 ∨ S = 61 ∨ S = 95 → (rz9 q8).1 12 1 S = q8.1 12 1 S := by
    intro S h
    unfold rz9
    rw [pI_1, u3_s (by omega), pI_1, u3_s (by omega), pI_1, u3_s (by omega), pI_1, u3_s (by omega), pI_1, u3_s (by omega), pI_1, u3_s (by omega), pI_1, u3_s (by omega), pI_1, u3_s (by omega)]
  have k12 : ∀ S, q8.1 12 1 S = q.1 12 1 S := by
    intro S
    rw [h3, if_neg (by omega), if_neg (by omega), if_neg (by omega), if_neg (by omega), if_neg (by omega), g3, if_neg (by omega), f3, if_neg (by omega), e3, if_neg (by omega), if_neg (by omega), if_neg (by omega), if_neg (by omega), if_neg (by omega), if_neg (by omega), if_neg (by omega), d3, if_neg (by omega), if_neg (by omega), if_neg (by omega), if_neg (by omega), c3, if_neg (by omega), b2', a3, if_neg (by omega)]
  refine ⟨rz9 q8, ?_, ?_, ?_, fun S hS => ?_, fun S hS => ?_, fun S hS => ?_, fun S hS => ?_, fun S hS => ?_, fun S hS => ?_, fun S hS => ?_, fun S hS => ?_, ?_, fun S => ?_, fun S => ?_, fun S hS => ?_, ?_, ?_⟩
  · unfold bv12_resets
    rw [hF, a1, b1', c1, d1, e1, f1, g1, h1]
  · unfold bg12_resets
    rw [hF]
    exact a4 (b5' (c4 (d4 (e4 (f4 (g4 h4))))))
  · show q8.2.2 = _
    rw [h2, g2, f2, e2, d2, c2, b3', a2]
  · show q8.2.1 14 1 S = _
    rw [h2, g2, f2, e2, d2, c2, b4' 14 1 S, if_pos ⟨rfl, rfl, by omega, hS⟩]
  · rw [r9 _ _ _ (by decide), h3, if_neg (by omega), if_neg (by omega), if_neg (by omega), if_neg (by omega), if_neg (by omega), g3, if_neg (by omega), f3, if_neg (by omega), e3, if_neg (by omega), if_neg (by omega), if_neg (by omega), if_neg (by omega), if_neg (by omega), if_neg (by omega), if_neg (by omega), d3, if_neg (by omega), if_neg (by omega), if_neg (by omega), if_neg (by omega), c3, if_neg (by omega), b2', a3, if_pos (by omega)]
  · rw [r9 _ _ _ (by decide), h3, if_neg (by omega), if_neg (by omega), if_neg (by omega), if_neg (by omega), if_neg (by omega), g3, if_neg (by omega), f3, if_neg (by omega), e3, if_neg (by omega), if_neg (by omega), if_neg (by omega), if_neg (by omega), if_neg (by omega), if_neg (by omega), if_neg (by omega), d3, if_neg (by omega), if_neg (by omega), if_neg (by omega), if_neg (by omega), c3, if_pos (by omega)]
  · refine ⟨?_, ?_, ?_, ?_⟩
    · rw [r9 _ _ _ (by decide), h3, if_neg (by omega), if_neg (by omega), if_neg (by omega), if_neg (by omega), if_neg (by omega), g3, if_neg (by omega), f3, if_neg (by omega), e3, if_neg (by omega), if_neg (by omega), if_neg (by omega), if_neg (by omega), if_neg (by omega), if_neg (by omega), if_neg (by omega), d3, if_pos (by omega)]
    · rw [r9 _ _ _ (by decide), h3, if_neg (by omega), if_neg (by omega), if_neg (by omega), if_neg (by omega), if_neg (by omega), g3, if_neg (by omega), f3, if_neg (by omega), e3, if_neg (by omega), if_neg (by omega), if_neg (by omega), if_neg (by omega), if_neg (by omega), if_neg (by omega), if_neg (by omega), d3, if_neg (by omega), if_pos (by omega)]
    · rw [r9 _ _ _ (by decide), h3, if_neg (by omega), if_neg (by omega), if_neg (by omega), if_neg (by omega), if_neg (by omega), g3, if_neg (by omega), f3, if_neg (by omega), e3, if_neg (by omega), if_neg (by omega), if_neg (by omega), if_neg (by omega), if_neg (by omega), if_neg (by omega), if_neg (by omega), d3, if_neg (by omega), if_neg (by omega), if_pos (by omega)]
    · rw [r9 _ _ _ (by decide), h3, if_neg (by omega), if_neg (by omega), if_neg (by omega), if_neg (by omega), if_neg (by omega), g3, if_neg (by omega), f3, if_neg (by omega), e3, if_neg (by omega), if_neg (by omega), if_neg (by omega), if_neg (by omega), if_neg (by omega), if_neg (by omega), if_neg (by omega), d3, if_neg (by omega), if_neg (by omega), if_neg (by omega), if_pos (by omega)]
  · refine ⟨?_, ?_, ?_, ?_, ?_, ?_, ?_⟩
    · rw [r9 _ _ _ (by decide), h3, if_neg (by omega), if_neg (by omega), if_neg (by omega), if_neg (by omega), if_neg (by omega), g3, if_neg (by omega), f3, if_neg (by omega), e3, if_pos (by omega)]
    · rw [r9 _ _ _ (by decide), h3, if_neg (by omega), if_neg (by omega), if_neg (by omega), if_neg (by omega), if_neg (by omega), g3, if_neg (by omega), f3, if_neg (by omega), e3, if_neg (by omega), if_pos (by omega)]
    · rw [r9 _ _ _ (by decide), h3, if_neg (by omega), if_neg (by omega), if_neg (by omega), if_neg (by omega), if_neg (by omega), g3, if_neg (by omega), f3, if_neg (by omega), e3, if_neg (by omega), if_neg (by omega), if_pos (by omega)]
    · rw [r9 _ _ _ (by decide), h3, if_neg (by omega), if_neg (by omega), if_neg (by omega), if_neg (by omega), if_neg (by omega), g3, if_neg (by omega), f3, if_neg (by omega), e3, if_neg (by omega), if_neg (by omega), if_neg (by omega), if_pos (by omega)]
    · rw [r9 _ _ _ (by decide), h3, if_neg (by omega), if_neg (by omega), if_neg (by omega), if_neg (by omega), if_neg (by omega), g3, if_neg (by omega), f3, if_neg (by omega), e3, if_neg (by omega), if_neg (by omega), if_neg (by omega), if_neg (by omega), if_pos (by omega)]
    · rw [r9 _ _ _ (by decide), h3, if_neg (by omega), if_neg (by omega), if_neg (by omega), if_neg (by omega), if_neg (by omega), g3, if_neg (by omega), f3, if_neg (by omega), e3, if_neg (by omega), if_neg (by omega), if_neg (by omega), if_neg (by omega), if_neg (by omega), if_pos (by omega)]
    · rw [r9 _ _ _ (by decide), h3, if_neg (by omega), if_neg (by omega), if_neg (by omega), if_neg (by omega), if_neg (by omega), g3, if_neg (by omega), f3, if_neg (by omega), e3, if_neg (by omega), if_neg (by omega), if_neg (by omega), if_neg (by omega), if_neg (by omega), if_neg (by omega), if_pos (by omega)]
  · rw [r9 _ _ _ (by decide), h3, if_neg (by omega), if_neg (by omega), if_neg (by omega), if_neg (by omega), if_neg (by omega), g3, if_neg (by omega), f3, if_pos (by omega)]
  · rw [r9 _ _ _ (by decide), h3, if_neg (by omega), if_neg (by omega), if_neg (by omega), if_neg (by omega), if_neg (by omega), g3, if_pos (by omega)]
  · refine ⟨?_, ?_, ?_, ?_, ?_⟩
    · rw [r9 _ _ _ (by decide), h3, if_pos (by omega)]
    · rw [r9 _ _ _ (by decide), h3, if_neg (by omega), if_pos (by omega)]
    · rw [r9 _ _ _ (by decide), h3, if_neg (by omega), if_neg (by omega), if_pos (by omega)]
    · rw [r9 _ _ _ (by decide), h3, if_neg (by omega), if_neg (by omega), if_neg (by omega), if_pos (by omega)]
    · rw [r9 _ _ _ (by decide), h3, if_neg (by omega), if_neg (by omega), if_neg (by omega), if_neg (by omega), if_pos (by omega)]
  · unfold rz9
    exact ⟨by simp (decide := true) only [pI_1, u3_same, u3_s, not_false_eq_true], by simp (decide := true) only [pI_1, u3_same, u3_s, not_false_eq_true], by simp (decide := true) only [pI_1, u3_same, u3_s, not_false_eq_true], by simp (decide := true) only [pI_1, u3_same, u3_s, not_false_eq_true], by simp (decide := true) only [pI_1, u3_same, u3_s, not_false_eq_true], by simp (decide := true) only [pI_1, u3_same, u3_s, not_false_eq_true], by simp (decide := true) only [pI_1, u3_same, u3_s, not_false_eq_true], by simp (decide := true) only [pI_1, u3_same, u3_s, not_false_eq_true]⟩
  · rw [r9 _ _ _ (by decide), h3, if_neg (by omega), if_neg (by omega), if_neg (by omega), if_neg (by omega), if_neg (by omega), g3, if_neg (by omega), f3, if_neg (by omega), e3, if_neg (by omega), if_neg (by omega), if_neg (by omega), if_neg (by omega), if_neg (by omega), if_neg (by omega), if_neg (by omega), d3, if_neg (by omega), if_neg (by omega), if_neg (by omega), if_neg (by omega), c3, if_neg (by omega), b2', a3, if_neg (by omega)]
  · rw [r9 _ _ _ (by decide), h3, if_neg (by omega), if_neg (by omega), if_neg (by omega), if_neg (by omega), if_neg (by omega), g3, if_neg (by omega), f3, if_neg (by omega), e3, if_neg (by omega), if_neg (by omega), if_neg (by omega), if_neg (by omega), if_neg (by omega), if_neg (by omega), if_neg (by omega), d3, if_neg (by omega), if_neg (by omega), if_neg (by omega), if_neg (by omega), c3, if_neg (by omega), b2', a3, if_neg (by omega)]
  · rw [r12 S (by omega), k12]
  · rw [r9 _ _ _ (by decide), h3, if_neg (by omega), if_neg (by omega), if_neg (by omega), if_neg (by omega), if_neg (by omega), g3, if_neg (by omega), f3, if_neg (by omega), e3, if_neg (by omega), if_neg (by omega), if_neg (by omega), if_neg (by omega), if_neg (by omega), if_neg (by omega), if_neg (by omega), d3, if_neg (by omega), if_neg (by omega), if_neg (by omega), if_neg (by omega), c3, if_neg (by omega), b2', a3, if_neg (by omega)]
  · rw [r12 95 (by omega), k12]
theorem rq_all (q : PM) : ∃ Q : PM, v12_resets q = Q ∧ g12_resets q ∧ Q.2.2 = q.2.2 ∧ (∀ S, S < 9 → Q.2.1 14 1 S = cl 0) ∧ (∀ S, S < 36 → Q.1 13 1 S = cn 0) ∧ (∀ S, S < 32 → Q.1 13 2 S = cn 999) ∧ (∀ S, S < 8 → Q.1 13 3 S = cn 0 ∧ Q.1 13 4 S = cn 0 ∧ Q.1 15 1 S = cn 0 ∧ Q.1 13 5 S = cn 0) ∧ (∀ S, S < 6 → Q.1 13 6 S = cn 0 ∧ Q.1 13 7 S = cn 0 ∧ Q.1 13 8 S = cn 0 ∧ Q.1 13 9 S = cn 0 ∧ Q.1 13 10 S = (if S < 4 then cn 100 else cn 0) ∧ Q.1 13 11 S = (if S < 4 then cn 100 else cn 0) ∧ Q.1 13 12 S = cn (-100000)) ∧ (∀ S, S < 44 → Q.1 15 3 S = cn 0) ∧ (∀ S, S < 16 → Q.1 13 35 S = cn 0) ∧ (∀ S, S < 4 → Q.1 13 36 S = cn 0 ∧ Q.1 13 37 S = cn 0 ∧ Q.1 13 38 S = cn 200 ∧ Q.1 15 9 S = cn 0 ∧ Q.1 15 10 S = cn 0) ∧ (Q.1 12 1 50 = cn 0 ∧ Q.1 12 1 57 = cn (-1) ∧ Q.1 12 1 58 = cn 500 ∧ Q.1 12 1 17 = cn 0 ∧ Q.1 12 1 18 = cn 0 ∧ Q.1 12 1 39 = cn 0 ∧ Q.1 12 1 40 = cn 0 ∧ Q.1 12 1 48 = cn 0) ∧ (∀ S, Q.1 13 40 S = q.1 13 40 S) ∧ (∀ S, Q.1 15 8 S = q.1 15 8 S) ∧ (∀ S, S = 0 ∨ S = 60 ∨ S = 61 → Q.1 12 1 S = q.1 12 1 S) ∧ Q.1 13 4 8 = cn 0 ∧ Q.1 12 1 95 = cn 0 := by
  obtain ⟨Q, h1, h2, h3, h4, h5, h6, h7, h8, h9, ha, hb, hc, hd, he, hf, hg, hh⟩ := rq_all0 (z0Q q)
  have k1 : ∀ K i S, ¬ (K = 13 ∧ i = 4 ∧ S = 8) → ¬ (K = 12 ∧ i = 1 ∧ S = 95) → (z0Q q).1 K i S = q.1 K i S := by
    intro K i S g1 g2
    unfold z0Q
    rw [pI_1, u3_ne g2, pI_1, u3_ne g1]
  refine ⟨Q, h1, h2, h3, h4, h5, h6, h7, h8, h9, ha, hb, hc, fun S => ?_, fun S => ?_, fun S hS => ?_, ?_, ?_⟩
  · rw [hd S, k1 13 40 S (by omega) (by omega)]
  · rw [he S, k1 15 8 S (by omega) (by omega)]
  · rw [hf S hS, k1 12 1 S (by omega) (by omega)]
  · rw [hg]
    unfold z0Q
    rw [pI_1, u3_k (by decide), pI_at]
  · rw [hh]
    exact pI_at
end Fresh2
