/-! a day ends: who is gone -/
section Day
variable {F : Nat}
theorem day_tail {q : PM} {c : Int32} (hF : FU = F) (hd : ∀ i, 40 ≤ i → i < 44 → q.1 15 3 i = cn 0) : ∀ (d i n : Nat), i + d = 44 → 40 ≤ i → d < n → v12_doEndDay_51 n q (cn 1) c (cn i) = v12_doEndDay_101 F q (cn 1) c (cn 0) ∧ (g12_doEndDay_101 F q (cn 1) c (cn 0) → g12_doEndDay_51 n q (cn 1) c (cn i)) := by
  intro d
  induction d with
  | zero =>
    intro i n h1 h2 h3
    obtain ⟨n1, rfl⟩ : ∃ m, n = m + 1 := ⟨n - 1, by omega⟩
    have hn := lpf (i := i) (N := 44) (by omega) (by omega) (by omega)
    rw [ev12_doEndDay_51, eg12_doEndDay_51, hF]
    unfold bv12_doEndDay_51 bg12_doEndDay_51
    rw [if_neg hn, if_neg hn]
    exact ⟨rfl, id⟩
  | succ d ih =>
    intro i n h1 h2 h3
    obtain ⟨n1, rfl⟩ : ∃ m, n = m + 1 := ⟨n - 1, by omega⟩
    have hi := cninb (i := i) (n := 44) (by omega) (by omega)
    have h0 : q.1 15 3 i = 0 := hd i h2 (by omega)
    obtain ⟨k1, k2⟩ := ih (i + 1) n1 (by omega) (by omega) (by omega)
    rw [ev12_doEndDay_51, eg12_doEndDay_51, hF]
    unfold bv12_doEndDay_51 bg12_doEndDay_51
    simp only [if_pos (lpt (i := i) (N := 44) (by omega) (by omega)), cntk (i := i) (by omega), if_neg cn01, if_pos h0, cnsucc]
    exact ⟨k1, fun h => ⟨hi, k2 h⟩⟩
theorem day_loop (hF : FU = F) : ∀ (d i n n' : Nat) (p q : PM) (c : Int32), i + d = 40 → d < n → d + 4 < n' → OR p q 99 99 → p.1 6 1 3 = q.1 12 1 18 → ∃ (P Q : PM) (C : Int32), v6_turnDay_13 n p c (cn i) = v6_turnDay_71 F P C (cn 0) ∧ (g6_turnDay_71 F P C (cn 0) → g6_turnDay_13 n p c (cn i)) ∧ v12_doEndDay_51 n' q (cn 1) c (cn i) = v12_doEndDay_101 F Q (cn 1) C (cn 0) ∧ (g12_doEndDay_101 F Q (cn 1) C (cn 0) → g12_doEndDay_51 n' q (cn 1) c (cn i)) ∧ Mk p P q Q := by
  intro d
  induction d with
  | zero =>
    intro i n n' p q c h1 h2 h3 H hday
    obtain ⟨n1, rfl⟩ : ∃ m, n = m + 1 := ⟨n - 1, by omega⟩
    have e : i = 40 := by omega
    subst e
    have hn := lpf (i := 40) (N := 40) (by omega) (by omega) (by omega)
    obtain ⟨k1, k2⟩ := day_tail (c := c) hF H.2 4 40 n' rfl (by omega) (by omega)
    refine ⟨p, q, c, ?_, ?_, k1, k2, mk_refl p q⟩
    · rw [ev6_turnDay_13, hF]
      unfold bv6_turnDay_13
      rw [if_neg hn]
    · rw [eg6_turnDay_13, hF]
      unfold bg6_turnDay_13
      rw [if_neg hn]
      exact id
  | succ d ih =>
    intro i n n' p q c h1 h2 h3 H hday
    obtain ⟨n1, rfl⟩ : ∃ m, n = m + 1 := ⟨n - 1, by omega⟩
    obtain ⟨n2, rfl⟩ : ∃ m, n' = m + 1 := ⟨n' - 1, by omega⟩
    have hi40 := cninb (i := i) (n := 40) (by omega) (by omega)
    have hi := cninb (i := i) (n := 44) (by omega) (by omega)
    have l40 : cn (i : Int) < cn 40 := lpt (by omega) (by omega)
    have l44 : cn (i : Int) < cn 44 := lpt (by omega) (by omega)
    rcases H.1 i (by omega) with ⟨s1, s2⟩ | ⟨s1, ai, bi, r, s, z, hL⟩
    · obtain ⟨P, Q, C, k1, k2, k3, k4, k5⟩ := ih (i + 1) n1 n2 p q c (by omega) (by omega) (by omega) H hday
      have s1' : p.1 10 (i + 1) 2 = 0 := s1
      have s2' : q.1 15 3 i = 0 := s2
      refine ⟨P, Q, C, ?_, ?_, ?_, ?_, k5⟩
      · rw [ev6_turnDay_13]
        unfold bv6_turnDay_13
        simp only [if_pos l40, cntk (i := i) (by omega), if_pos s1', cnsucc]
        exact k1
      · intro h
        rw [eg6_turnDay_13]
        unfold bg6_turnDay_13
        simp only [if_pos l40, cntk (i := i) (by omega), if_pos s1', cnsucc]
        exact ⟨hi40, k2 h⟩
      · rw [ev12_doEndDay_51]
        unfold bv12_doEndDay_51
        simp only [if_pos l44, cntk (i := i) (by omega), if_neg cn01, if_pos s2', cnsucc]
        exact k3
      · intro h
        rw [eg12_doEndDay_51]
        unfold bg12_doEndDay_51
        simp only [if_pos l44, cntk (i := i) (by omega), if_neg cn01, if_pos s2', cnsucc]
        exact ⟨hi, k4 h⟩
    · have s1' : ¬ q.1 15 3 i = 0 := by
        rw [s1]
        exact cn01
      have p1' : ¬ p.1 10 (i + 1) 2 = 0 := lv_nogone hL
      have h8 := hL.2.2.2.2.2.2.1
      by_cases hl : q.1 12 1 18 < q.1 13 20 i
      · obtain ⟨P, Q, C, k1, k2, k3, k4, k5⟩ := ih (i + 1) n1 n2 p q c (by omega) (by omega) (by omega) H hday
        refine ⟨P, Q, C, ?_, ?_, ?_, ?_, k5⟩
        · rw [ev6_turnDay_13]
          unfold bv6_turnDay_13
          simp only [if_pos l40, cntk (i := i) (by omega), if_neg p1', hday, h8, if_pos hl, cnsucc]
          exact k1
        · intro h
          rw [eg6_turnDay_13]
          unfold bg6_turnDay_13
          simp only [if_pos l40, cntk (i := i) (by omega), if_neg p1', hday, h8, if_pos hl, cnsucc]
          exact ⟨hi40, k2 h⟩
        · rw [ev12_doEndDay_51]
          unfold bv12_doEndDay_51
          simp only [if_pos l44, cntk (i := i) (by omega), if_neg cn01, if_neg s1', if_pos hl, cnsucc]
          exact k3
        · intro h
          rw [eg12_doEndDay_51]
          unfold bg12_doEndDay_51
          simp only [if_pos l44, cntk (i := i) (by omega), if_neg cn01, if_neg s1', if_pos hl, cnsucc]
          exact ⟨hi, hi, k4 h⟩
      · have M := mk_one (p := p) (q := q) (o := i) (by omega)
        obtain ⟨P, Q, C, k1, k2, k3, k4, k5⟩ := ih (i + 1) n1 n2 _ _ (c + cn 1) (by omega) (by omega) (by omega) (or_mk M H) (by
          rw [pI_1, u3_k (by decide), pI_1, u3_k (by decide)]
          exact hday)
        refine ⟨P, Q, C, ?_, ?_, ?_, ?_, mk_trans M k5⟩
        · rw [ev6_turnDay_13]
          unfold bv6_turnDay_13
          simp only [if_pos l40, cntk (i := i) (by omega), if_neg p1', hday, h8, if_neg hl, cnsucc]
          exact k1
        · intro h
          rw [eg6_turnDay_13]
          unfold bg6_turnDay_13
          simp only [if_pos l40, cntk (i := i) (by omega), if_neg p1', hday, h8, if_neg hl, cnsucc]
          exact ⟨hi40, k2 h⟩
        · rw [ev12_doEndDay_51]
          unfold bv12_doEndDay_51
          simp only [if_pos l44, cntk (i := i) (by omega), if_neg cn01, if_neg s1', if_neg hl, cnsucc]
          exact k3
        · intro h
          rw [eg12_doEndDay_51]
          unfold bg12_doEndDay_51
          simp only [if_pos l44, cntk (i := i) (by omega), if_neg cn01, if_neg s1', if_neg hl, cnsucc]
          exact ⟨hi, hi, hi, k4 h⟩
end Day
