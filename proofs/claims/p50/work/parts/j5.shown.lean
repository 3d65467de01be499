/-! at the best price something is shown -/
section ShownB
variable {p q : PM} {B : Nat} {t : Int32}
theorem best_wit : ∀ (d i n : Nat) (acc : Int32), i + d = 40 → d < n → v6_bestPrice_18 p n B t (cn 1) acc (cn i) = acc ∨ ∃ j, i ≤ j ∧ j < 40 ∧ ¬ v10_standsIn p (j + 1) B t = 0 ∧ p.1 10 (j + 1) 7 = v6_bestPrice_18 p n B t (cn 1) acc (cn i) ∧ ¬ v6_bestPrice_18 p n B t (cn 1) acc (cn i) = cn (-100000) := by
  intro d
  induction d with
  | zero =>
    intro i n acc h1 h2
    obtain ⟨m, rfl⟩ : ∃ m, n = m + 1 := ⟨n - 1, by omega⟩
    rw [ev6_bestPrice_18]
    unfold bv6_bestPrice_18
    rw [if_neg (lpf (i := i) (N := 40) (by omega) (by omega) (by omega))]
    exact Or.inl rfl
  | succ d ih =>
    intro i n acc h1 h2
    obtain ⟨m, rfl⟩ : ∃ m, n = m + 1 := ⟨n - 1, by omega⟩
    have up : ∀ a, (v6_bestPrice_18 p m B t (cn 1) a (cn i + cn 1) = a ∨ ∃ j, i ≤ j ∧ j < 40 ∧ ¬ v10_standsIn p (j + 1) B t = 0 ∧ p.1 10 (j + 1) 7 = v6_bestPrice_18 p m B t (cn 1) a (cn i + cn 1) ∧ ¬ v6_bestPrice_18 p m B t (cn 1) a (cn i + cn 1) = cn (-100000)) := fun a => by
      rw [cnsucc]
      rcases ih (i + 1) m a (by omega) (by omega) with h | ⟨j, j1, j2, j3⟩
      · exact Or.inl h
      · exact Or.inr ⟨j, by omega, j2, j3⟩
    have tk : ¬ v10_standsIn p (i + 1) B t = 0 → ¬ p.1 10 (i + 1) 7 = cn (-100000) → ∃ j, i ≤ j ∧ j < 40 ∧ ¬ v10_standsIn p (j + 1) B t = 0 ∧ p.1 10 (j + 1) 7 = v6_bestPrice_18 p m B t (cn 1) (p.1 10 (i + 1) 7) (cn i + cn 1) ∧ ¬ v6_bestPrice_18 p m B t (cn 1) (p.1 10 (i + 1) 7) (cn i + cn 1) = cn (-100000) := fun h3 h4 => by
      rcases up (p.1 10 (i + 1) 7) with h | h
      · exact ⟨i, by omega, by omega, h3, h.symm, by rw [h]; exact h4⟩
      · exact h
    rw [ev6_bestPrice_18]
    unfold bv6_bestPrice_18
    simp only [if_pos (lpt (i := i) (N := 40) (by omega) (by omega)), cntk (i := i) (by omega), if_neg (show ¬ cn 1 = (0 : Int32) by decide)]
    by_cases h3 : v10_standsIn p (i + 1) B t = 0
    · simp only [if_pos h3]
      exact up acc
    simp only [if_neg h3]
    by_cases h4 : p.1 10 (i + 1) 7 = cn (-100000)
    · simp only [if_pos h4]
      exact up acc
    simp only [if_neg h4]
    by_cases h5 : acc = cn (-100000)
    · simp only [if_pos h5]
      exact Or.inr (tk h3 h4)
    simp only [if_neg h5]
    split
    · exact up acc
    · exact Or.inr (tk h3 h4)
theorem sum_pos {v : Int32} (hv : ¬ v = cn (-100000)) (hs : ∀ i, i < 40 → ¬ v10_standsIn p (i + 1) B t = 0 → ∃ h : Int, 1 ≤ h ∧ h ≤ 50 ∧ p.1 10 (i + 1) 11 = cn h) : ∀ (d i n : Nat) (A : Int), i + d = 40 → d < n → 0 ≤ A → A ≤ 50 * i → ∃ R : Int, v6_sumShown_17 p n B t v (cn A) (cn i) = cn R ∧ A ≤ R ∧ R ≤ 2000 ∧ ((∃ j, i ≤ j ∧ j < 40 ∧ ¬ v10_standsIn p (j + 1) B t = 0 ∧ p.1 10 (j + 1) 7 = v) → A < R) := by
  intro d
  induction d with
  | zero =>
    intro i n A h1 h2 h3 h4
    obtain ⟨m, rfl⟩ : ∃ m, n = m + 1 := ⟨n - 1, by omega⟩
    rw [ev6_sumShown_17]
    unfold bv6_sumShown_17
    rw [if_neg (lpf (i := i) (N := 40) (by omega) (by omega) (by omega))]
    exact ⟨A, rfl, by omega, by omega, fun ⟨j, j1, j2, j3⟩ => absurd j1 (by omega)⟩
  | succ d ih =>
    intro i n A h1 h2 h3 h4
    obtain ⟨m, rfl⟩ : ∃ m, n = m + 1 := ⟨n - 1, by omega⟩
    rw [ev6_sumShown_17]
    unfold bv6_sumShown_17
    simp only [if_pos (lpt (i := i) (N := 40) (by omega) (by omega)), cntk (i := i) (by omega), cnsucc, if_neg hv]
    by_cases k3 : v10_standsIn p (i + 1) B t = 0
    · simp only [if_pos k3]
      obtain ⟨R, r1, r2, r3, r4⟩ := ih (i + 1) m A (by omega) (by omega) h3 (by omega)
      refine ⟨R, r1, r2, r3, fun ⟨j, j1, j2, j3, j4⟩ => ?_⟩
      by_cases e : j = i
      · rw [e] at j3
        exact absurd k3 j3
      · exact r4 ⟨j, by omega, j2, j3, j4⟩
    simp only [if_neg k3]
    by_cases k4 : p.1 10 (i + 1) 7 = v
    · simp only [if_pos k4]
      obtain ⟨h, a1, a2, a3⟩ := hs i (by omega) k3
      rw [a3, cnadd]
      obtain ⟨R, r1, r2, r3, r4⟩ := ih (i + 1) m (A + h) (by omega) (by omega) (by omega) (by omega)
      exact ⟨R, r1, by omega, r3, fun _ => by omega⟩
    · simp only [if_neg k4]
      obtain ⟨R, r1, r2, r3, r4⟩ := ih (i + 1) m A (by omega) (by omega) h3 (by omega)
      refine ⟨R, r1, r2, r3, fun ⟨j, j1, j2, j3, j4⟩ => ?_⟩
      by_cases e : j = i
      · rw [e] at j4
        exact absurd j4 k4
      · exact r4 ⟨j, by omega, j2, j3, j4⟩
theorem sh_one {lg : Nat → Int32} {N T D b : Nat} (W : WW p q lg 99 99 (fun _ => False) N T D 6 (fun _ => 0)) (hb : b < 6) : ∀ i, i < 40 → ¬ v10_standsIn p (i + 1) (b + 1) t = 0 → ∃ h : Int, 1 ≤ h ∧ h ≤ 50 ∧ p.1 10 (i + 1) 11 = cn h := by
  intro i hi h0
  have hS := W.1.1.1 i hi
  rw [stands_eq hb hi t hS] at h0
  obtain ⟨e1, e2, -, e4, -, a, r, s, z, w, hL, hBk⟩ := there_inv hb hi hS h0
  obtain ⟨h, b1, b2, b3, b4, b5⟩ := hBk.2.2.1 (by omega)
  have hr := hL.2.2.2.2.2.2.2.1
  refine ⟨h, ?_, by omega, b4⟩
  rcases b5 with ⟨x1, x2⟩ | ⟨x1, x2⟩
  · obtain ⟨h', c1, c2, c3⟩ := W.2.2.2.2.2.2.1.2.1 i hi (fun h => h) ⟨e1, e2⟩ (by
      rw [hL.2.1.2.1, cneq (by omega) (by decide)]
      omega) x1
    rw [x2] at c3
    rw [cneq ⟨by omega, by omega⟩ ⟨by omega, by omega⟩] at c3
    omega
  · omega
/-- what is shown at the best price -/
theorem bs_pos {lg : Nat → Int32} {N T D b : Nat} (W : WW p q lg 99 99 (fun _ => False) N T D 6 (fun _ => 0)) (hb : b < 6) (h : ¬ v6_bestPrice p (b + 1) t (cn 1) = cn (-100000)) : 0 < v6_sumShown p (b + 1) t (v6_bestPrice p (b + 1) t (cn 1)) := by
  obtain ⟨F, hF, hF2⟩ : ∃ F, FU = F ∧ 100 < F := ⟨FU, rfl, by decide⟩
  have e1 : v6_bestPrice p (b + 1) t (cn 1) = v6_bestPrice_18 p F (b + 1) t (cn 1) (cn (-100000)) (cn (0 : Nat)) := by
    unfold v6_bestPrice bv6_bestPrice
    rw [hF]
    rfl
  rcases best_wit (p := p) (B := b + 1) (t := t) 40 0 F (cn (-100000)) rfl (by omega) with h1 | ⟨j, j1, j2, j3, j4, j5⟩
  · exact absurd (e1.trans h1) h
  · rw [← e1] at j4
    obtain ⟨R, r1, r2, r3, r4⟩ := sum_pos h (sh_one W hb) 40 0 F 0 rfl (by omega) (by decide) (by decide)
    have hR := r4 ⟨j, j1, j2, j3, j4⟩
    have e2 : v6_sumShown p (b + 1) t (v6_bestPrice p (b + 1) t (cn 1)) = cn R := by
      unfold v6_sumShown bv6_sumShown
      rw [hF]
      exact r1
    rw [e2]
    exact (cnlt (by decide) ⟨by omega, by omega⟩).mpr hR
end ShownB
