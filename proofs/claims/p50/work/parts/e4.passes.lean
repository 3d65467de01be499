/-! the auctions that end in a tick -/
theorem ww_l {p q : PM} {lg : Nat → Int32} {x y N T D l l' : Nat} {w : Nat → Prop} {f : Nat → Int} (H : WW p q lg x y w N T D l f) (h : ∀ c, c < 6 → ¬ q.1 13 12 c = cn (-100000) → ∃ e t : Nat, e ≤ 1000000 ∧ q.1 13 12 c = cn e ∧ q.1 12 1 17 = cn t ∧ t ≤ 900000 ∧ t + (if c < l' then 1 else 0) ≤ e) : WW p q lg x y w N T D l' f := by
  obtain ⟨hO, hA, hB, hD, hK, hI0, ⟨i1, i2, i3, -⟩, hF⟩ := H
  exact ⟨hO, hA, hB, hD, hK, hI0, ⟨i1, i2, i3, h⟩, hF⟩
section Passes
variable {lg : Nat → Int32} {N t : Nat} {kvC : PM → Int32 → Int32 → Int32 × PM} {kgC : PM → Int32 → Int32 → Prop} {kvQ : PM → Int32 → Int32 → PM} {kgQ : PM → Int32 → Int32 → Prop} {v1 v2 : Int32}
theorem p94_loop (ht : t ≤ 900000) : ∀ (d b n n' : Nat) (p q : PM) (T D : Nat), b + d = 6 → d < n → d < n' → WW p q lg 99 99 (fun _ => False) N T D b (fun _ => 0) → NPA q → q.1 12 1 17 = cn t → T + RS q 40 + 80 * d + 2200 ≤ 1000000000 → D + RS q 40 + 4400 ≤ 1000000000 → ∃ (P Q : PM) (T2 D2 : Nat), v5_letPass_42 kvC n p v1 v2 (cn b) = kvC P v1 (v2 + cn 1) ∧ (kgC P v1 (v2 + cn 1) → g5_letPass_42 kgC n p v1 v2 (cn b)) ∧ v12_passes_94 kvQ n' q v1 v2 (cn b) = kvQ Q v1 (v2 + cn 1) ∧ (kgQ Q v1 (v2 + cn 1) → g12_passes_94 kgQ n' q v1 v2 (cn b)) ∧ WW P Q lg 99 99 (fun _ => False) N T2 D2 6 (fun _ => 0) ∧ NPA Q ∧ Q.1 12 1 17 = cn t ∧ (T ≤ T2 ∧ D ≤ D2) ∧ T2 + RS Q 40 ≤ T + RS q 40 + 80 * d ∧ D2 + RS Q 40 ≤ D + RS q 40 := by
  intro d
  induction d with
  | zero =>
    intro b n n' p q T D h1 h2 h3 H hn h17 hT hD
    obtain ⟨n1, rfl⟩ : ∃ m, n = m + 1 := ⟨n - 1, by omega⟩
    obtain ⟨n2, rfl⟩ : ∃ m, n' = m + 1 := ⟨n' - 1, by omega⟩
    have e : b = 6 := by omega
    subst e
    have hnl := lpf (i := 6) (N := 6) (by omega) (by omega) (by omega)
    refine ⟨p, q, T, D, ?_, ?_, ?_, ?_, H, hn, h17, ⟨Nat.le_refl _, Nat.le_refl _⟩, by omega, by omega⟩
    · rw [ev5_letPass_42]
      unfold bv5_letPass_42
      rw [if_neg hnl]
    · rw [eg5_letPass_42]
      unfold bg5_letPass_42
      rw [if_neg hnl]
      exact id
    · rw [ev12_passes_94]
      unfold bv12_passes_94
      rw [if_neg hnl]
    · rw [eg12_passes_94]
      unfold bg12_passes_94
      rw [if_neg hnl]
      exact id
  | succ d ih =>
    intro b n n' p q T D h1 h2 h3 H hn h17 hT hD
    obtain ⟨n1, rfl⟩ : ∃ m, n = m + 1 := ⟨n - 1, by omega⟩
    obtain ⟨n2, rfl⟩ : ∃ m, n' = m + 1 := ⟨n' - 1, by omega⟩
    have hb : b < 6 := by omega
    have hib := cninb (i := b) (n := 6) hb (by omega)
    have l6 : cn (b : Int) < cn 6 := lpt (by omega) (by omega)
    have hzb : ¬ b + 1 = 0 := by omega
    have hnow : p.1 6 1 2 = cn t := by
      obtain ⟨t', -, w1, w2⟩ := H.2.2.2.2.2.1.2.2.2.2.2.1
      rw [w1, ← w2, h17]
    have R0 := RS_rng H.1.1 40 (by decide)
    by_cases hin : q.1 13 12 b = cn (-100000)
    · -- open
      have p5 : p.1 1 (b + 1) 5 = 0 := by
        rcases (H.2.2.1 b hb).2.2.1 with ⟨w, -⟩ | ⟨-, -, ⟨e, e1, e2, e3⟩, -⟩
        · exact w
        · rw [hin, cneq (by decide) ⟨by omega, by omega⟩] at e3
          omega
      have nq : ¬ q.1 13 12 b = cn t := by
        rw [hin, cneq (by decide) ⟨by omega, by omega⟩]
        omega
      obtain ⟨P, Q, T2, D2, k1, k2, k3, k4, k5⟩ := ih (b + 1) n1 n2 p q T D (by omega) (by omega) (by omega) (ww_l H fun c hc h => by
        obtain ⟨e, t', w1, w2, w3, w4, w5⟩ := H.2.2.2.2.2.2.1.2.2.2 c hc h
        have hne : ¬ c = b := fun e => h (by rw [e]; exact hin)
        refine ⟨e, t', w1, w2, w3, w4, ?_⟩
        by_cases hcb : c < b
        · rw [if_pos hcb] at w5
          rw [if_pos (by omega)]
          exact w5
        · rw [if_neg hcb] at w5
          rw [if_neg (by omega)]
          exact w5) hn h17 (by omega) (by omega)
      refine ⟨P, Q, T2, D2, ?_, ?_, ?_, ?_, k5.1, k5.2.1, k5.2.2.1, k5.2.2.2.1, by omega, k5.2.2.2.2.2⟩
      · rw [ev5_letPass_42]
        unfold bv5_letPass_42
        simp only [if_pos l6, cntk (i := b) (by omega), if_pos p5, cnsucc]
        exact k1
      · intro h
        rw [eg5_letPass_42]
        unfold bg5_letPass_42
        simp only [if_pos l6, cntk (i := b) (by omega), if_pos p5, cnsucc]
        exact ⟨hib, k2 h⟩
      · rw [ev12_passes_94]
        unfold bv12_passes_94
        simp only [if_pos l6, cntk (i := b) (by omega), h17, if_neg nq, cnsucc]
        exact k3
      · intro h
        rw [eg12_passes_94]
        unfold bg12_passes_94
        simp only [if_pos l6, cntk (i := b) (by omega), h17, if_neg nq, cnsucc]
        exact ⟨hib, k4 h⟩
    · obtain ⟨e, t', w1, w2, w3, w4, w5⟩ := H.2.2.2.2.2.2.1.2.2.2 b hb hin
      rw [h17, cneq ⟨by omega, by omega⟩ ⟨by omega, by omega⟩] at w3
      rw [if_neg (by omega)] at w5
      have hA := (H.2.2.1 b hb).2.2.1
      have p57 : p.1 1 (b + 1) 5 = cn 1 ∧ p.1 1 (b + 1) 7 = cn e := by
        rcases hA with ⟨-, w⟩ | ⟨u1, u2, -⟩
        · exact absurd w hin
        · exact ⟨u1, u2.trans w2⟩
      have p5 : ¬ p.1 1 (b + 1) 5 = 0 := by
        rw [p57.1]
        exact cn01
      by_cases het : e = t
      · -- it ends
        obtain ⟨⟨g1, g2⟩, a, P0, eC, T1, D1, P', hcase, ⟨t1, t2⟩, W1, n1', s1, s2⟩ := ends_ev H hb hn hin h17 ht (by omega) (by omega)
        have h17' : (v12_endsAuction q (cn b)).1 12 1 17 = cn t := (ft_v12_endsAuction _ (ft_refl q)).trans h17
        have RQ := RS_rng W1.1.1 40 (by decide)
        obtain ⟨P, Q, T2, D2, k1, k2, k3, k4, k5⟩ := ih (b + 1) n1 n2 P' (v12_endsAuction q (cn b)) T1 D1 (by omega) (by omega) (by omega) W1 n1' h17' (by omega) (by omega)
        have nlt : ¬ cn (t : Int) < cn (e : Int) := by
          rw [cnlt ⟨by omega, by omega⟩ ⟨by omega, by omega⟩]
          omega
        have qe : q.1 13 12 b = cn t := by rw [w2, het]
        refine ⟨P, Q, T2, D2, ?_, ?_, ?_, ?_, k5.1, k5.2.1, k5.2.2.1, ⟨by have := k5.2.2.2.1.1; omega, by have := k5.2.2.2.1.2; omega⟩, by have := k5.2.2.2.2.1; omega, by have := k5.2.2.2.2.2; omega⟩
        · rw [ev5_letPass_42]
          unfold bv5_letPass_42
          simp only [if_pos l6, cntk (i := b) (by omega), if_neg p5, hnow, p57.2, if_neg nlt, eC, cnsucc]
          rcases hcase with ⟨c1, c2⟩ | ⟨c1, c2, c3⟩
          · rw [c1, if_pos cn0e', ← c2]
            exact k1
          · rw [c1, if_neg cn01, ← c3]
            exact k1
        · intro h
          rw [eg5_letPass_42]
          unfold bg5_letPass_42
          simp only [if_pos l6, cntk (i := b) (by omega), if_neg p5, hnow, p57.2, if_neg nlt, eC, cnsucc]
          rcases hcase with ⟨c1, c2⟩ | ⟨c1, c2, c3⟩
          · rw [c1, if_pos cn0e', ← c2]
            exact ⟨hib, g1, k2 h⟩
          · rw [c1, if_neg cn01, ← c3]
            exact ⟨hib, g1, c2, k2 h⟩
        · rw [ev12_passes_94]
          unfold bv12_passes_94
          simp only [if_pos l6, cntk (i := b) (by omega), h17, if_pos qe, cnsucc]
          exact k3
        · intro h
          rw [eg12_passes_94]
          unfold bg12_passes_94
          simp only [if_pos l6, cntk (i := b) (by omega), h17, if_pos qe, cnsucc]
          exact ⟨hib, g2, k4 h⟩
      · have lt : cn (t : Int) < cn (e : Int) := by
          rw [cnlt ⟨by omega, by omega⟩ ⟨by omega, by omega⟩]
          omega
        have nq : ¬ q.1 13 12 b = cn t := by
          rw [w2, cneq ⟨by omega, by omega⟩ ⟨by omega, by omega⟩]
          omega
        obtain ⟨P, Q, T2, D2, k1, k2, k3, k4, k5⟩ := ih (b + 1) n1 n2 p q T D (by omega) (by omega) (by omega) (ww_l H fun c hc h => by
          obtain ⟨e', t'', u1, u2, u3, u4, u5⟩ := H.2.2.2.2.2.2.1.2.2.2 c hc h
          refine ⟨e', t'', u1, u2, u3, u4, ?_⟩
          by_cases hcb : c < b
          · rw [if_pos hcb] at u5
            rw [if_pos (by omega)]
            exact u5
          · rw [if_neg hcb] at u5
            by_cases hcb2 : c = b
            · rw [hcb2, w2, cneq ⟨by omega, by omega⟩ ⟨by omega, by omega⟩] at u2
              rw [h17, cneq ⟨by omega, by omega⟩ ⟨by omega, by omega⟩] at u3
              rw [if_pos (by omega)]
              omega
            · rw [if_neg (by omega)]
              exact u5) hn h17 (by omega) (by omega)
        refine ⟨P, Q, T2, D2, ?_, ?_, ?_, ?_, k5.1, k5.2.1, k5.2.2.1, k5.2.2.2.1, by omega, k5.2.2.2.2.2⟩
        · rw [ev5_letPass_42]
          unfold bv5_letPass_42
          simp only [if_pos l6, cntk (i := b) (by omega), if_neg p5, hnow, p57.2, if_pos lt, cnsucc]
          exact k1
        · intro h
          rw [eg5_letPass_42]
          unfold bg5_letPass_42
          simp only [if_pos l6, cntk (i := b) (by omega), if_neg p5, hnow, p57.2, if_pos lt, cnsucc]
          exact ⟨hib, k2 h⟩
        · rw [ev12_passes_94]
          unfold bv12_passes_94
          simp only [if_pos l6, cntk (i := b) (by omega), h17, if_neg nq, cnsucc]
          exact k3
        · intro h
          rw [eg12_passes_94]
          unfold bg12_passes_94
          simp only [if_pos l6, cntk (i := b) (by omega), h17, if_neg nq, cnsucc]
          exact ⟨hib, k4 h⟩
end Passes
