/-! what is asked, the fourth part: what a book shows at a price -/
section Shown
variable {p q : PM} {lg : Nat → Int32} {N T D : Nat} {t v : Int32}
theorem shown_tail {Q : PM} {b : Nat} (hd : ∀ i, 40 ≤ i → i < 44 → Q.1 15 3 i = cn 0) (hB : g12_isBook Q (cn b) ∧ v12_isBook Q (cn b) = (cn 1, Q)) : ∀ (d i n : Nat) (acc : Int32), i + d = 44 → 40 ≤ i → d < n → v12_shown_6 n Q (cn b) t v acc (cn i) = (acc, Q) ∧ g12_shown_6 n Q (cn b) t v acc (cn i) := by
  intro d
  induction d with
  | zero =>
    intro i n acc h1 h2 h3
    obtain ⟨n1, rfl⟩ : ∃ z9, n = z9 + 1 := ⟨n - 1, by omega⟩
    have hn := lpf (i := i) (N := 44) (by omega) (by omega) (by omega)
    rw [ev12_shown_6, eg12_shown_6]
    unfold bv12_shown_6 bg12_shown_6
    rw [if_neg hn, if_neg hn]
    exact ⟨rfl, trivial⟩
  | succ d ih =>
    intro i n acc h1 h2 h3
    obtain ⟨n1, rfl⟩ : ∃ z9, n = z9 + 1 := ⟨n - 1, by omega⟩
    have l4 : cn (i : Int) < cn 44 := lpt (by omega) (by omega)
    have hz := there_dead (q := Q) (i := i) (by omega) (B := cn b) (t := t) (hd i h2 (by omega))
    have ha : v12_isAt Q (cn i) (cn b) t v = 0 := by
      rw [at_e Q i (by omega), if_pos hz]
      rfl
    have gA := g_at (q := Q) (i := i) (by omega) (cn b) t v
    obtain ⟨k1, k2⟩ := ih (i + 1) n1 acc (by omega) (by omega) (by omega)
    have ac : acc + cn 0 = acc := addz _
    rw [ev12_shown_6, eg12_shown_6]
    unfold bv12_shown_6 bg12_shown_6
    simp only [if_pos l4, hB.2, if_neg cn01, if_pos ha, ac, cnsucc]
    exact ⟨k1, hB.1, gA, k2⟩
theorem shown_loop {Q : PM} {b : Nat} (hb : b < 6) (H : OR p Q 99 99) (hB : g12_isBook Q (cn b) ∧ v12_isBook Q (cn b) = (cn 1, Q)) : ∀ (d i n n' : Nat) (acc : Int32), i + d = 40 → d < n → d + 4 < n' → (v12_shown_6 n' Q (cn b) t v acc (cn i) = (v6_sumShown_17 p n (b + 1) t v acc (cn i), Q) ∧ g12_shown_6 n' Q (cn b) t v acc (cn i)) := by
  intro d
  induction d with
  | zero =>
    intro i n n' acc h1 h2 h3
    obtain ⟨n1, rfl⟩ : ∃ z9, n = z9 + 1 := ⟨n - 1, by omega⟩
    obtain ⟨k1, k2⟩ := shown_tail (t := t) (v := v) H.2 hB 4 i n' acc (by omega) (by omega) (by omega)
    rw [k1, ev6_sumShown_17]
    unfold bv6_sumShown_17
    rw [if_neg (lpf (i := i) (N := 40) (by omega) (by omega) (by omega))]
    exact ⟨rfl, k2⟩
  | succ d ih =>
    intro i n n' acc h1 h2 h3
    obtain ⟨n1, rfl⟩ : ∃ z9, n = z9 + 1 := ⟨n - 1, by omega⟩
    obtain ⟨n2, rfl⟩ : ∃ z9, n' = z9 + 1 := ⟨n' - 1, by omega⟩
    have l4 : cn (i : Int) < cn 44 := lpt (by omega) (by omega)
    have l0 : cn (i : Int) < cn 40 := lpt (by omega) (by omega)
    have hS := H.1 i (by omega)
    have gA := g_at (q := Q) (i := i) (by omega) (cn b) t v
    have i44 := cninb (i := i) (n := 44) (by omega) (by omega)
    have ac : acc + cn 0 = acc := addz _
    have gs : g12_showsNow Q (cn i) := by
      unfold g12_showsNow bg12_showsNow
      refine ⟨i44, ?_⟩
      split
      · exact ⟨i44, trivial⟩
      · exact ⟨i44, trivial⟩
    have kk := fun a => ih (i + 1) n1 n2 a (by omega) (by omega) (by omega)
    rw [ev12_shown_6, eg12_shown_6, ev6_sumShown_17]
    unfold bv12_shown_6 bg12_shown_6 bv6_sumShown_17
    simp only [if_pos l4, if_pos l0, hB.2, if_neg cn01, cntk (i := i) (by omega), stands_eq hb (by omega) t hS, at_e Q i (by omega), cnsucc]
    by_cases h0 : v12_isThere Q (cn i) (cn b) t = 0
    · have c00 : cn 0 = (0 : Int32) := rfl
      simp only [if_pos h0, if_pos c00, ac]
      exact ⟨(kk acc).1, hB.1, gA, (kk acc).2⟩
    obtain ⟨-, -, -, -, -, a, r, s, z, w, hL, hBk⟩ := there_inv hb (by omega) hS h0
    have c00 : cn 0 = (0 : Int32) := rfl
    obtain ⟨h, -, -, -, b4, b5⟩ := hBk.2.2.1 (by omega)
    have hr := hL.2.2.2.2.2.2.2.1.2.2.2
    have hs : v12_showsNow Q (cn i) = cn h := by
      unfold v12_showsNow bv12_showsNow
      rw [cntk (by omega)]
      rcases b5 with ⟨x1, x2⟩ | ⟨x1, x2⟩
      · rw [if_pos x1, x2]
      · rw [if_neg x1, hr, x2]
    simp only [if_neg h0, hBk.1]
    rcases hBk.2.1 with ⟨k1, k2⟩ | ⟨k1, k2, k3, -⟩
    · have y0 : ¬ Q.1 15 5 i = 0 := by
        rw [k1]
        exact cn01
      simp only [if_neg y0, if_pos c00, ac, k2]
      by_cases hv : cn (-100000) = v
      · simp only [if_pos hv, if_pos hv.symm]
        exact ⟨(kk acc).1, hB.1, gA, (kk acc).2⟩
      · simp only [if_neg hv]
        exact ⟨(kk acc).1, hB.1, gA, (kk acc).2⟩
    · have y0 : Q.1 15 5 i = 0 := k1
      simp only [if_pos y0, k3]
      by_cases hv : cn w = v
      · have hn : ¬ v = cn (-100000) := by
          rw [← hv]
          exact pr_ne k2
        simp only [if_pos hv, if_neg hn, if_neg cn01, hs, b4]
        exact ⟨(kk _).1, hB.1, gA, gs, (kk _).2⟩
      · simp only [if_neg hv, if_pos c00, ac]
        exact ⟨(kk acc).1, hB.1, gA, (kk acc).2⟩
theorem gsum_p {B : Nat} : ∀ (d i n : Nat) (acc : Int32), i + d = 40 → d < n → g6_sumShown_17 p n B t v acc (cn i) := by
  intro d
  induction d with
  | zero =>
    intro i n acc h1 h2
    obtain ⟨n1, rfl⟩ : ∃ z9, n = z9 + 1 := ⟨n - 1, by omega⟩
    rw [eg6_sumShown_17]
    unfold bg6_sumShown_17
    rw [if_neg (lpf (i := i) (N := 40) (by omega) (by omega) (by omega))]
    exact trivial
  | succ d ih =>
    intro i n acc h1 h2
    obtain ⟨n1, rfl⟩ : ∃ z9, n = z9 + 1 := ⟨n - 1, by omega⟩
    have l0 : cn (i : Int) < cn 40 := lpt (by omega) (by omega)
    have hi := cninb (i := i) (n := 40) (by omega) (by omega)
    have kk := fun a => ih (i + 1) n1 a (by omega) (by omega)
    rw [eg6_sumShown_17]
    unfold bg6_sumShown_17
    simp only [if_pos l0, cntk (i := i) (by omega), cnsucc]
    have hz : ¬ i + 1 = 0 := by omega
    have gst := g_stands p i B t
    repeat' first
      | with_reducible exact hi
      | with_reducible exact hz
      | with_reducible exact gst
      | with_reducible exact kk _
      | exact trivial
      | exact not_false
      | apply And.intro
      | (split <;> rename_i h9 <;> first | simp only [if_neg h9, if_true, if_false] | simp only [if_pos h9, if_true, if_false] | skip)
theorem ask_shown {b : Int32} (H : WW p q lg 99 99 (fun _ => False) N T D 6 (fun _ => 0)) : g12_shown q b t v ∧ AsR q (kBk b) (g6_bookAt p b ∧ g6_sumShown p (v6_bookAt p b) t v) (v6_sumShown p (v6_bookAt p b) t v) (v12_shown q b t v) := by
  obtain ⟨F, hF, hF2⟩ : ∃ F, FU = F ∧ 100 < F := ⟨FU, rfl, by decide⟩
  obtain ⟨n, hn⟩ : ∃ n, F = n + 1 := ⟨F - 1, by omega⟩
  have c00 : cn 0 = (0 : Int32) := rfl
  have z00 : cn ((0 : Nat) : Int) = cn 0 := rfl
  have l44 : cn 0 < cn 44 := by decide
  obtain ⟨g1, e1⟩ := isBook_e (q := q) (b := b)
  obtain ⟨g2, e2⟩ := isBook_e (q := pI q 12 1 0 (cn 0)) (b := b)
  unfold kBk v12_shown bv12_shown g12_shown bg12_shown v6_sumShown bv6_sumShown g6_sumShown bg6_sumShown
  rw [hF]
  by_cases h1 : isW b (cn 0) (cn 5) = 0
  · rw [if_pos h1] at e1 ⊢
    rw [hn, ev12_shown_6, eg12_shown_6]
    unfold bv12_shown_6 bg12_shown_6
    simp only [if_pos l44, e1, if_pos c00]
    exact ⟨⟨g1, trivial⟩, rfl, fun h => absurd h (by decide)⟩
  · rw [if_neg h1] at e1 e2 ⊢
    rw [t_t] at e2
    obtain ⟨b, hb, rfl⟩ := isW_n (b := 5) (by decide) h1
    obtain ⟨k1, k2⟩ := shown_loop (p := p) (t := t) (v := v) (b := b) (by omega) (ww_th (cn 0) H).1.1 ⟨g2, e2⟩ 40 0 F F (cn 0) rfl (by omega) (by omega)
    rw [z00] at k1 k2
    have same : v12_shown_6 F q (cn b) t v (cn 0) (cn 0) = v12_shown_6 F (pI q 12 1 0 (cn 0)) (cn b) t v (cn 0) (cn 0) ∧ (g12_shown_6 F (pI q 12 1 0 (cn 0)) (cn b) t v (cn 0) (cn 0) → g12_shown_6 F q (cn b) t v (cn 0) (cn 0)) := by
      rw [hn, ev12_shown_6, ev12_shown_6, eg12_shown_6, eg12_shown_6]
      unfold bv12_shown_6 bg12_shown_6
      simp only [if_pos l44, e1, e2]
      exact ⟨trivial, fun g => ⟨g1, g.2⟩⟩
    rw [same.1, k1, book_e p (by omega)]
    exact ⟨same.2 k2, rfl, fun _ => ⟨⟨g_book p (by omega), gsum_p 40 0 F (cn 0) rfl (by omega)⟩, rfl⟩⟩
end Shown
