/-! a row is played -/
section Play
variable {P0 P1 Q : PM} {cl : Nat → Int32} {tl kp fo : Int32} {ou : Int64} {L e : Nat} {xs : Nat → Int32} {a b c d x f : Int32}
theorem x_play0 {k t : Nat} (hk : k < 27) (ht : t < 512) (h0 : cl (7 * t) = cn ((k + 1 : Nat) : Int)) (h1 : cl (7 * t + 1) = a) (h2 : cl (7 * t + 2) = b) (h3 : cl (7 * t + 3) = c) (h4 : cl (7 * t + 4) = d) (h5 : cl (7 * t + 5) = x) (h6 : cl (7 * t + 6) = f) (hg : Gr 0 P0) (G : gE P0 a b c d x f k) (W : g5_work (vE P0 a b c d x f k).2) : X 201 0 [rR 3 11 1, rR 0 5 1, vI (cn t), vJ, vJ, vJ, vJ, vJ, vJ, vJ, vJ] [] (mm P0 P1 Q cl tl kp fo ou L xs e) = some (.inl (some (vI (vE P0 a b c d x f k).1)), mm (v5_work (vE P0 a b c d x f k).2) P1 Q cl tl kp fo ou L xs e) ∧ Gr 0 (v5_work (vE P0 a b c d x f k).2) := by
  rw [p_head ht, h0, h1, h2, h3, h4, h5, h6]
  have hh : k = 0 ∨ k = 1 ∨ k = 2 ∨ k = 3 ∨ k = 4 ∨ k = 5 ∨ k = 6 ∨ k = 7 ∨ k = 8 ∨ k = 9 ∨ k = 10 ∨ k = 11 ∨ k = 12 ∨ k = 13 ∨ k = 14 ∨ k = 15 ∨ k = 16 ∨ k = 17 ∨ k = 18 ∨ k = 19 ∨ k = 20 ∨ k = 21 ∨ k = 22 ∨ k = 23 ∨ k = 24 ∨ k = 25 ∨ k = 26 := by omega
  rcases hh with rfl | rfl | rfl | rfl | rfl | rfl | rfl | rfl | rfl | rfl | rfl | rfl | rfl | rfl | rfl | rfl | rfl | rfl | rfl | rfl | rfl | rfl | rfl | rfl | rfl | rfl | rfl
  · exact p_c0_0 hg G W
  · exact p_c1_0 hg G W
  · exact p_c2_0 hg G W
  · exact p_c3_0 hg G W
  · exact p_c4_0 hg G W
  · exact p_c5_0 hg G W
  · exact p_c6_0 hg G W
  · exact p_c7_0 hg G W
  · exact p_c8_0 hg G W
  · exact p_c9_0 hg G W
  · exact p_c10_0 hg G W
  · exact p_c11_0 hg G W
  · exact p_c12_0 hg G W
  · exact p_c13_0 hg G W
  · exact p_c14_0 hg G W
  · exact p_c15_0 hg G W
  · exact p_c16_0 hg G W
  · exact p_c17_0 hg G W
  · exact p_c18_0 hg G W
  · exact p_c19_0 hg G W
  · exact p_c20_0 hg G W
  · exact p_c21_0 hg G W
  · exact p_c22_0 hg G W
  · exact p_c23_0 hg G W
  · exact p_c24_0 hg G W
  · exact p_c25_0 hg G W
  · exact p_c26_0 hg G W
theorem x_play1 {k t : Nat} (hk : k < 27) (ht : t < 512) (h0 : cl (7 * t) = cn ((k + 1 : Nat) : Int)) (h1 : cl (7 * t + 1) = a) (h2 : cl (7 * t + 2) = b) (h3 : cl (7 * t + 3) = c) (h4 : cl (7 * t + 4) = d) (h5 : cl (7 * t + 5) = x) (h6 : cl (7 * t + 6) = f) (hg : Gr 0 P1) (G : gE P1 a b c d x f k) (W : g5_work (vE P1 a b c d x f k).2) : X 201 0 [rR 3 11 1, rR 1 5 1, vI (cn t), vJ, vJ, vJ, vJ, vJ, vJ, vJ, vJ] [] (mm P0 P1 Q cl tl kp fo ou L xs e) = some (.inl (some (vI (vE P1 a b c d x f k).1)), mm P0 (v5_work (vE P1 a b c d x f k).2) Q cl tl kp fo ou L xs e) ∧ Gr 0 (v5_work (vE P1 a b c d x f k).2) := by
  rw [p_head ht, h0, h1, h2, h3, h4, h5, h6]
  have hh : k = 0 ∨ k = 1 ∨ k = 2 ∨ k = 3 ∨ k = 4 ∨ k = 5 ∨ k = 6 ∨ k = 7 ∨ k = 8 ∨ k = 9 ∨ k = 10 ∨ k = 11 ∨ k = 12 ∨ k = 13 ∨ k = 14 ∨ k = 15 ∨ k = 16 ∨ k = 17 ∨ k = 18 ∨ k = 19 ∨ k = 20 ∨ k = 21 ∨ k = 22 ∨ k = 23 ∨ k = 24 ∨ k = 25 ∨ k = 26 := by omega
  rcases hh with rfl | rfl | rfl | rfl | rfl | rfl | rfl | rfl | rfl | rfl | rfl | rfl | rfl | rfl | rfl | rfl | rfl | rfl | rfl | rfl | rfl | rfl | rfl | rfl | rfl | rfl | rfl
  · exact p_c0_1 hg G W
  · exact p_c1_1 hg G W
  · exact p_c2_1 hg G W
  · exact p_c3_1 hg G W
  · exact p_c4_1 hg G W
  · exact p_c5_1 hg G W
  · exact p_c6_1 hg G W
  · exact p_c7_1 hg G W
  · exact p_c8_1 hg G W
  · exact p_c9_1 hg G W
  · exact p_c10_1 hg G W
  · exact p_c11_1 hg G W
  · exact p_c12_1 hg G W
  · exact p_c13_1 hg G W
  · exact p_c14_1 hg G W
  · exact p_c15_1 hg G W
  · exact p_c16_1 hg G W
  · exact p_c17_1 hg G W
  · exact p_c18_1 hg G W
  · exact p_c19_1 hg G W
  · exact p_c20_1 hg G W
  · exact p_c21_1 hg G W
  · exact p_c22_1 hg G W
  · exact p_c23_1 hg G W
  · exact p_c24_1 hg G W
  · exact p_c25_1 hg G W
  · exact p_c26_1 hg G W
end Play
