/-! a quote is told -/
section Quote
variable {p q : PM} {lg : Nat → Int32} {a b N T D l : Nat} {Q z : Int}
theorem quote_side (H : WW p q lg 99 99 (fun _ => False) N T D l (fun _ => 0)) (hf : LC q 40 < 40) (ha : a < 8) (hb : b < 6) (h1 : -50 ≤ Q) (h2 : Q ≤ 50) (h0 : ¬ Q = 0) (hz : PrB b z) (hN : N + 1 ≤ 1000000) (hT : T + 2200 ≤ 1000000000) (hD : D + 2200 ≤ 1000000000)
    (hQ : ∀ i, i < 40 → q.1 15 3 i = cn 1 → q.1 13 19 i = cn 4 → q.1 13 15 i = cn a → q.1 13 16 i = cn b → ¬ q.1 15 4 i = if 0 < Q then cn 1 else cn 0) : ∃ (x : Nat) (P R : PM), x < 40 ∧ v6_draw p (a + 1) (b + 1) (cn z) (cn Q) (p.1 6 1 3) = (x + 1, P) ∧ g6_draw p (a + 1) (b + 1) (cn z) (cn Q) (p.1 6 1 3) ∧ v12_newOrder q (cn a) (cn b) (cn Q) (cn z) (cn 0) (cn 4) (q.1 12 1 18) = (cn x, R) ∧ g12_newOrder q (cn a) (cn b) (cn Q) (cn z) (cn 0) (cn 4) (q.1 12 1 18) ∧ (g5_place (pI P 10 (x + 1) 1 (cn 3)) (x + 1) ∧ g12_enters R (cn x)) ∧ ∃ T2 D2, (T ≤ T2 ∧ D ≤ D2) ∧ WW (v5_place (pI P 10 (x + 1) 1 (cn 3)) (x + 1)) (v12_enters R (cn x)) lg 99 99 (fun _ => False) (N + 1) T2 D2 l (fun _ => 0) ∧ T2 + RS (v12_enters R (cn x)) 40 ≤ T + RS q 40 + 60 ∧ D2 + RS (v12_enters R (cn x)) 40 ≤ D + RS q 40 + 60 ∧ LC (v12_enters R (cn x)) 40 ≤ LC q 40 + 1 ∧ ∀ i, i < 40 → (v12_enters R (cn x)).1 15 3 i = cn 1 → (v12_enters R (cn x)).1 13 19 i = cn 4 → (v12_enters R (cn x)).1 13 15 i = cn a → (v12_enters R (cn x)).1 13 16 i = cn b → ((v12_enters R (cn x)).1 15 4 i = (if 0 < Q then cn 1 else cn 0)) ∨ (q.1 15 3 i = cn 1 ∧ q.1 13 19 i = cn 4 ∧ q.1 13 15 i = cn a ∧ q.1 13 16 i = cn b ∧ (v12_enters R (cn x)).1 15 4 i = q.1 15 4 i) := by
  obtain ⟨x, hx, hd, hfr⟩ := free_at 40 hf
  have RR0 := RS_rng H.1.1 40 (by decide)
  obtain ⟨e1, e2⟩ := draw_e (A := a + 1) (B := b + 1) (Q := Q) (lim := cn z) (day := p.1 6 1 3) H hx hd hfr h1 h2
  obtain ⟨e3, e4⟩ := new_e (a := cn a) (b := cn b) (any := cn 0) (lim := cn z) (kind := cn 4) (life := q.1 12 1 18) (Q := Q) H hx hd hfr h1 h2 b0
  have hday := day_e H
  have hix := cninb (i := x) (n := 44) (by omega) (by omega)
  obtain ⟨-, -, -, c4, -⟩ := rNw_c (q := q) (x := x) (N := N) (a := cn a) (b := cn b) (t := if 0 < Q then cn 1 else cn 0) (r := cn Q.natAbs) (any := cn 0) (lim := cn z) (kind := cn 4) (life := q.1 12 1 18)
  have q1x : ∀ K i, ¬ i = x → (rNw q x N (cn a) (cn b) (if 0 < Q then cn 1 else cn 0) (cn Q.natAbs) (cn 0) (cn z) (cn 4) (q.1 12 1 18)).1 13 K i = q.1 13 K i := fun K i h => rNw_13x K i h
  have q2x : ∀ K i, ¬ i = x → (rNw q x N (cn a) (cn b) (if 0 < Q then cn 1 else cn 0) (cn Q.natAbs) (cn 0) (cn z) (cn 4) (q.1 12 1 18)).1 15 K i = q.1 15 K i := fun K i h => rNw_15x K i h
  rw [hday] at e1 e2 ⊢
  generalize hP : cNw p x N (a + 1) (b + 1) (if 0 < Q then cn 1 else cn 0) (cn Q.natAbs) (cn z) (q.1 12 1 18) = P at e1
  generalize hR : rNw q x N (cn a) (cn b) (if 0 < Q then cn 1 else cn 0) (cn Q.natAbs) (cn 0) (cn z) (cn 4) (q.1 12 1 18) = R at e3 c4 q1x q2x
  obtain ⟨W, RS1, f3, f16, f19, f0, f14, f39⟩ := ww_drawn (p' := pI P 10 (x + 1) 1 (cn 3)) (q' := R) (any := cn 0) (lim := cn z) (kind := cn 4) (life := q.1 12 1 18) (x' := x) (s := (Q.natAbs : Int)) (z := z) H hx hd ha hb h1 h2 h0 hN (fun k i S h => by rw [hP]; exact u3_ne fun e => h ⟨e.1, e.2.1, by omega⟩) (by rw [hP, pI_2]) (fun k i S h => by rw [hR]) (by rw [← hR, rNw_2]) (by rw [pI_at]; exact kr34) ⟨by omega, by omega, by rw [pI_1, u3_s (by decide), ← hP, cNw_cell.2.1], by rw [← hR, rNw_cell], Or.inr (Int.le_refl _)⟩ (Or.inr ⟨rfl, hz, rfl⟩) (fun h => absurd h (by decide)) (fun h => absurd h (by decide)) (Or.inl ⟨rfl, by decide⟩) (fun _ i hi _ => hQ i hi)
  obtain ⟨⟨g1, g2⟩, T2, D2, t1, W2, t2, t3, t4⟩ := ww_place W hb hx f3 f16 (by rw [f19]; decide) (by omega) (by omega)
  have hlv := fl_live W.1.1 W2.1.1 (fl_place W.1.1 hx f3)
  have hfc : FC R (v12_enters R (cn x)) := fc_v12_enters _ (fc_refl R)
  have hlc1 := LC_mono 40 hlv
  have hlc2 := LC_new (q := q) (q' := R) (x := x) 40 (fun i hi hne h => by rw [← q2x 3 i hne]; exact h)
  rw [if_pos hx] at hlc2
  refine ⟨x, P, R, hx, e1, e2, e3, e4, ⟨g1, g2⟩, T2, D2, t1, W2, by omega, by omega, by omega, fun i hi l1 l2 l3 l4 => ?_⟩
  obtain ⟨⟨u1, u2, u3'⟩, u4⟩ := hfc i
  by_cases e : i = x
  · refine Or.inl ?_
    rw [u4, e]
    exact c4
  · have hl' := hlv i hi (by rw [l1]; exact cn01)
    refine Or.inr ⟨?_, ?_, ?_, ?_, ?_⟩
    · rw [q2x 3 i e] at hl'
      exact b_ne (or_b H.1.1 i (by omega)) hl'
    · rw [← q1x 19 i e, ← u3']
      exact l2
    · rw [← q1x 15 i e, ← u1]
      exact l3
    · rw [← q1x 16 i e, ← u2]
      exact l4
    · rw [u4, q2x 4 i e]
theorem tell_quote {z1 z2 n : Int} (H : WW p q lg 99 99 (fun _ => False) N T D l (fun _ => 0)) (hf : LC q 40 ≤ 38) (ha : a < 8) (hb : b < 6) (h1 : 1 ≤ n) (h2 : n ≤ 50) (hz1 : PrB b z1) (hz2 : PrB b z2) (hN : N + 2 ≤ 1000000) (hT : T + 4400 ≤ 1000000000) (hD : D + 4400 ≤ 1000000000) : (g5_tellQuote p (cn a) (cn b) (cn z1) (cn z2) (cn n) ∧ g12_doQuote_130 FU q (cn a) (cn b) (cn z1) (cn z2) (cn n) (cn 0)) ∧ EvR lg q N T D l 120 2 (v5_tellQuote p (cn a) (cn b) (cn z1) (cn z2) (cn n)) (v12_doQuote_130 FU q (cn a) (cn b) (cn z1) (cn z2) (cn n) (cn 0)) := by
  have R0 := RS_rng H.1.1 40 (by decide)
  have hza : ¬ a + 1 = 0 := by omega
  have ac : ∀ p, v7_accountAt p (cn a) = a + 1 := fun p => account_e p (by omega)
  have bk : ∀ p, v6_bookAt p (cn b) = b + 1 := fun p => book_e p hb
  have gc : ∀ p, g7_accountAt p (cn a) := fun p => g_account p (by omega)
  have gk : ∀ p, g6_bookAt p (cn b) := fun p => g_book p hb
  have hia := cninb (i := a) (n := 8) ha (by omega)
  obtain ⟨F, hF, hF2⟩ : ∃ F, FU = F ∧ 100 < F := ⟨FU, rfl, by decide⟩
  obtain ⟨w1, q1, M, k3, k4, k5⟩ := out_loop (a := a) (b := b) (v3 := cn z1) (v4 := cn z2) (v5 := cn n) ha hb 40 0 F F p q rfl (by omega) (by omega) H.1.1
  have z0 : cn ((0 : Nat) : Int) = cn 0 := rfl
  rw [z0] at w1 M k3 k4
  have eW : v6_withdrawQuote p (a + 1) (b + 1) = v6_withdrawQuote_12 F p (a + 1) (b + 1) (cn 0) ∧ g6_withdrawQuote p (a + 1) (b + 1) := by
    unfold v6_withdrawQuote bv6_withdrawQuote g6_withdrawQuote bg6_withdrawQuote
    rw [hF]
    exact ⟨rfl, w1⟩
  rw [hF, k3]
  rw [← eW.1] at M
  have W1 := w_mk M H
  have RS1 := rs_mk M H.1.1
  have lc1 : LC q1 40 ≤ LC q 40 := LC_mono 40 fun i hi h => by
    have l1 := b_ne (or_b W1.1.1 i (by omega)) h
    rw [(mk_kp M i hi l1).1]
    exact cn01
  obtain ⟨W2, RS2⟩ := ww_reset W1 ha
  generalize hp3 : pI (pI (v6_withdrawQuote p (a + 1) (b + 1)) 0 (a + 1) 6 (cn 0)) 0 (a + 1) 7 (cn 0) = p3 at W2
  have eq3 : ∀ K, ¬ K = 4 → (pI (pI q1 13 4 a (cn 0)) 15 1 a (cn 0)).1 13 K = q1.1 13 K := by
    intro K h
    funext i
    rw [pI_1, u3_k (by decide), pI_1, u3_i h]
  have eq15 : ∀ K, ¬ K = 1 → (pI (pI q1 13 4 a (cn 0)) 15 1 a (cn 0)).1 15 K = q1.1 15 K := by
    intro K h
    funext i
    rw [pI_1, u3_i h, pI_1, u3_k (by decide)]
  generalize hq3 : pI (pI q1 13 4 a (cn 0)) 15 1 a (cn 0) = q3 at W2 RS2 eq3 eq15
  have lc3 : LC q3 40 ≤ LC q1 40 := LC_mono 40 fun i _ h => by
    rw [eq15 3 (by decide)] at h
    exact h
  have noq : ∀ i, i < 40 → q3.1 15 3 i = cn 1 → q3.1 13 19 i = cn 4 → q3.1 13 15 i = cn a → ¬ q3.1 13 16 i = cn b := by
    intro i hi h3 h4 h5
    rw [eq15 3 (by decide)] at h3
    rw [eq3 19 (by decide)] at h4
    rw [eq3 15 (by decide)] at h5
    rw [eq3 16 (by decide)]
    exact k5 i (by omega) hi h3 h4 h5
  have n1 : ((0 : Int) < n) = True := eq_true (by omega)
  obtain ⟨x, P, R, hx, e1, e2, e3, e4, ⟨g1, g2⟩, T2, D2, t1, W3, t2, t3, lc4, hqs⟩ := quote_side (Q := n) (z := z1) W2 (by omega) ha hb (by omega) h2 (by omega) hz1 (by omega) (by omega) (by omega) (fun i hi h3 h4 h5 h6 => absurd h6 (noq i hi h3 h4 h5))
  rw [if_pos (by omega : 0 < n)] at hqs
  have hzx : ¬ x + 1 = 0 := by omega
  have num3 : p3.1 6 1 4 = cn N := W2.1.2.1.2.2.1
  have num3q : q3.1 12 1 39 = cn N := W2.1.2.1.2.2.2.1
  generalize hPe : v5_place (pI P 10 (x + 1) 1 (cn 3)) (x + 1) = P4 at W3
  generalize hQe : v12_enters R (cn x) = Q4 at W3 t2 t3 lc4 hqs
  have RQ4 := RS_rng W3.1.1 40 (by decide)
  have htk : P4.1 0 (a + 1) 7 = Q4.1 15 1 a := (W3.2.1.2 a ha).2.2.2.2.1.1
  by_cases tk : Q4.1 15 1 a = 0
  · -- the other side
    have n2 : ¬ ((0 : Int) < -n) := by omega
    obtain ⟨x2, P5, R5, hx2, e5, e6, e7, e8, ⟨g3, g4⟩, T3, D3, t4, W4, t5, t6, lc5, -⟩ := quote_side (Q := -n) (z := z2) W3 (by omega) ha hb (by omega) (by omega) (by omega) hz2 (by omega) (by omega) (by omega) (fun i hi h3 h4 h5 h6 h7 => by
      rw [if_neg n2] at h7
      rcases hqs i hi h3 h4 h5 h6 with h | ⟨j1, j2, j3, j4, -⟩
      · rw [h] at h7
        exact absurd h7 (by decide)
      · exact noq i hi j1 j2 j3 j4)
    have hzx2 : ¬ x2 + 1 = 0 := by omega
    rw [← cnneg] at e5 e6 e7 e8
    have eC : v5_tellQuote p (cn a) (cn b) (cn z1) (cn z2) (cn n) = (cn N, v5_place (pI P5 10 (x2 + 1) 1 (cn 3)) (x2 + 1)) ∧ g5_tellQuote p (cn a) (cn b) (cn z1) (cn z2) (cn n) := by
      unfold v5_tellQuote bv5_tellQuote g5_tellQuote bg5_tellQuote
      simp only [ac, bk, hp3, e1, if_neg hzx, hPe, htk, if_pos tk, e5, if_neg hzx2, num3]
      exact ⟨trivial, gc _, gk _, eW.2, hza, hza, gk _, e2, hzx, g1, hza, gk _, e6, hzx2, g3, trivial⟩
    have eR : aQuote q1 (cn a) (cn b) (cn z1) (cn z2) (cn n) = (cn N, v12_enters R5 (cn x2)) ∧ gQuote q1 (cn a) (cn b) (cn z1) (cn z2) (cn n) := by
      unfold aQuote gQuote
      simp only [cntk (i := a) (by omega), hq3, e3, hQe, if_pos tk, e7, num3q]
      exact ⟨trivial, hia, hia, e4, g2, hia, e8, g4, trivial⟩
    refine ⟨⟨eC.2, k4 eR.2⟩, ?_⟩
    rw [eC.1, eR.1]
    exact ⟨rfl, N + 1 + 1, T3, D3, ⟨by omega, by omega⟩, ⟨by omega, by omega⟩, W4, by show (T3 : Int) + RS (v12_enters _ _) 40 ≤ _; omega, by show (D3 : Int) + RS (v12_enters _ _) 40 ≤ _; omega⟩
  · -- they were taken away
    obtain ⟨W4, RS4⟩ := ww_num W3 (by omega)
    have num4 : P4.1 6 1 4 = cn (N + 1 : Nat) := W3.1.2.1.2.2.1
    have num4q : Q4.1 12 1 39 = cn (N + 1 : Nat) := W3.1.2.1.2.2.2.1
    have eC : v5_tellQuote p (cn a) (cn b) (cn z1) (cn z2) (cn n) = (cn N, pI P4 6 1 4 (cn (N + 1 + 1 : Nat))) ∧ g5_tellQuote p (cn a) (cn b) (cn z1) (cn z2) (cn n) := by
      unfold v5_tellQuote bv5_tellQuote g5_tellQuote bg5_tellQuote
      simp only [ac, bk, hp3, e1, if_neg hzx, hPe, htk, if_neg tk, num3, num4, cnsucc]
      exact ⟨trivial, gc _, gk _, eW.2, hza, hza, gk _, e2, hzx, g1, hza, trivial⟩
    have eR : aQuote q1 (cn a) (cn b) (cn z1) (cn z2) (cn n) = (cn N, pI Q4 12 1 39 (cn (N + 1 + 1 : Nat))) ∧ gQuote q1 (cn a) (cn b) (cn z1) (cn z2) (cn n) := by
      unfold aQuote gQuote
      simp only [cntk (i := a) (by omega), hq3, e3, hQe, if_neg tk, num3q, num4q, cnsucc]
      exact ⟨trivial, hia, hia, e4, g2, hia, trivial⟩
    refine ⟨⟨eC.2, k4 eR.2⟩, ?_⟩
    rw [eC.1, eR.1]
    exact ⟨rfl, N + 1 + 1, T2, D2, ⟨by omega, by omega⟩, ⟨by omega, by omega⟩, W4, by show (T2 : Int) + RS (pI _ _ _ _ _) 40 ≤ _; omega, by show (D2 : Int) + RS (pI _ _ _ _ _) 40 ≤ _; omega⟩
end Quote
