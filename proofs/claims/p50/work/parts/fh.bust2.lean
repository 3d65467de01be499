/-! a trade is busted, whole -/
noncomputable def kBust (p : PM) (a : Int32) : Nat := if v7_find p a = 0 then 1 else if p.1 4 (v7_find p a) 5 = 0 then 0 else 2
section Bust2
variable {p q : PM} {lg : Nat → Int32} {N T D : Nat}
theorem find_neg (H : DR p q D) : v7_find p (cn (-100000)) = 0 ∧ g7_find p (cn (-100000)) := by
  obtain ⟨⟨g1, -⟩, h⟩ := kept_t (v := cn (-100000)) H
  rcases h with ⟨h, -⟩ | ⟨t, ht, t1, -⟩
  · exact ⟨h, g1⟩
  · have hD := H.2.2.2
    rw [cneq (by decide) ⟨by omega, by omega⟩] at ht
    omega
theorem do_bust {e : Nat} {a : Int32} (he : e + 1 ≤ 2000) (H : WW p q (lgB lg e) 99 99 (fun _ => False) N T D 6 (fun _ => 0)) : g12_doBust q a ∧ DoE (lgB lg (e + 1)) q N T D 60 0 (kBust p a) (g5_undo p a) (v5_undo p a) (v12_doBust q a) := by
  have hDR := H.2.2.2.1
  have hK := H.2.2.2.2.1
  have c10 : ¬ cn 1 = (0 : Int32) := by decide
  have c20 : ¬ cn 2 = (0 : Int32) := by decide
  obtain ⟨F, hF, hF2⟩ : ∃ F, FU = F ∧ 100 < F := ⟨FU, rfl, by decide⟩
  obtain ⟨⟨gf, gk⟩, hk⟩ := kept_t (v := a) hDR
  rcases hk with ⟨f0, k0⟩ | ⟨t, rfl, t1, t2, f1, k1, c6, c8, b, A, B, z, n, hb, hA, hB, d0, d30, d1, d31, d2, d32, hz, d3, d33, n1, n2, d4, d34, d5, d7⟩
  · have kA : kBust p a = 1 := by
      unfold kBust
      rw [if_pos f0]
    rw [kA]
    refine ⟨?_, fun h => absurd h (by decide), fun _ => ?_⟩
    · unfold g12_doBust bg12_doBust g12_doBust_16 bg12_doBust_16
      simp only [k0, if_pos cn0e', t_1, if_neg c10]
      exact ⟨gk, gk, trivial⟩
    · unfold v12_doBust bv12_doBust v12_doBust_16 bv12_doBust_16
      simp only [k0, if_pos cn0e', t_1, if_neg c10]
      all_goals rfl
  have hD2 : D ≤ 1000000000 := hDR.2.2.2
  obtain ⟨k, hkk⟩ : ∃ k, t % 60 = k := ⟨_, rfl⟩
  rw [hkk] at f1 c6 c8 d0 d30 d1 d31 d2 d32 d3 d33 d4 d34 d5 d7
  have hk60 : k < 60 := by rw [← hkk]; exact Nat.mod_lt _ (by decide)
  have hki := cninb (i := k) (n := 60) hk60 (by omega)
  have eir : irm (cn (t : Int)) (cn 60) = cn (k : Int) := by rw [← hkk]; exact irm60 (by omega)
  have hzk : ¬ k + 1 = 0 := by omega
  have hzb : ¬ b + 1 = 0 := by omega
  have hzA : ¬ A + 1 = 0 := by omega
  have hzB : ¬ B + 1 = 0 := by omega
  have i6 := cninb (i := b) (n := 6) hb (by omega)
  by_cases h7 : q.1 15 7 k = 0
  · have h5 : p.1 4 (k + 1) 5 = 0 := by rw [d5]; exact h7
    have kA : kBust p (cn t) = 0 := by
      unfold kBust
      rw [f1, if_neg hzk, if_pos h5]
    rw [kA]
    have hz1 := hz.1
    have hz2 := hz.2.1
    have W0 := ww_th (cn 0) H
    generalize hQ0 : pI q 12 1 0 (cn 0) = Q0 at W0
    have r13 : Q0.1 13 = q.1 13 := by rw [← hQ0]; exact th_k (by decide)
    have r15 : Q0.1 15 = q.1 15 := by rw [← hQ0]; exact th_k (by decide)
    have r0 : Q0.1 12 1 0 = 0 := by rw [← hQ0]; exact t_1
    have RQ0 : RS Q0 40 = RS q 40 := by rw [← hQ0, RS_th]
    have g31 : Q0.1 13 31 k = cn A := by rw [r13]; exact d31
    have g34 : Q0.1 13 34 k = cn n := by rw [r13]; exact d34
    have g30 : Q0.1 13 30 k = cn b := by rw [r13]; exact d30
    have g33 : Q0.1 13 33 k = cn z := by rw [r13]; exact d33
    have nn : -cn n = cn (-n) := cnneg n
    obtain ⟨⟨gl1, gl2⟩, hl⟩ := latest_kp W0.2.2.2.1 hb
    have hL : (v7_latestOf p (b + 1) = cn (t : Int)) = (v12_latest Q0 (cn b) = cn (t : Int)) := by
      rcases hl with ⟨l1, l2⟩ | ⟨u, l1, l2, l3, -⟩
      · rw [l1, l2, cneq (by decide) ⟨by omega, by omega⟩, cneq (by decide) ⟨by omega, by omega⟩]
        exact propext ⟨fun h => by omega, fun h => by omega⟩
      · rw [l1, l2]
    -- the class
    obtain ⟨P1, hP1⟩ : ∃ P, pI p 4 (k + 1) 5 (cn 1) = P := ⟨_, rfl⟩
    have P1R : P1.2.2 = p.2.2 := by rw [← hP1, pI_R]
    have hK1 : CK P1 := ck_c (by rw [← hP1]; funext i S; rw [pI_1, u3_k (by decide)]) (by rw [← hP1]; funext i S; rw [pI_1, u3_k (by decide)]) hK
    have P14 : P1.1 4 (k + 1) 4 = cn n := by rw [← hP1, pI_1, u3_s (by decide)]; exact d4
    have P13 : P1.1 4 (k + 1) 3 = cn z := by rw [← hP1, pI_1, u3_s (by decide)]; exact d3
    obtain ⟨x1, x2⟩ := take_e (p := P1) (a := A) (b := b) (by omega) hb hK1 (cn (-n)) (cn z)
    obtain ⟨x3, x4⟩ := take_e (p := tkC P1 A b (cn (-n)) (cn z)) (a := B) (b := b) (by omega) hb (ck_c (tkC_k (by decide)) (tkC_k (by decide)) hK1) (cn n) (cn z)
    obtain ⟨P4, hP4⟩ : ∃ P, tkC (tkC P1 A b (cn (-n)) (cn z)) B b (cn n) (cn z) = P := ⟨_, rfl⟩
    have eP4 : P4 = pI (tkC (tkC p A b (cn (-n)) (cn z)) B b (cn n) (cn z)) 4 (k + 1) 5 (cn 1) := by rw [← hP4, ← hP1, tkC_pI (by decide), tkC_pI (by decide)]
    have P4R : P4.2.2 = p.2.2 := by rw [← hP4, tkC_R, tkC_R, P1R]
    rw [hP4] at x4
    -- the reference
    obtain ⟨y1, y2⟩ := undo_e (q := Q0) (a := A) (v := cn (-n)) (by omega) hb hk60 g30 g33
    obtain ⟨y3, y4⟩ := undo_e (q := hdQ Q0 A b (cn (-n)) (cn z)) (a := B) (v := cn n) (by omega) hb hk60 (by rw [hdQ_13 (by decide)]; exact g30) (by rw [hdQ_13 (by decide)]; exact g33)
    have g32' : (hdQ Q0 A b (cn (-n)) (cn z)).1 13 32 k = cn B := by rw [hdQ_13 (by decide), r13]; exact d32
    have g34' : (hdQ Q0 A b (cn (-n)) (cn z)).1 13 34 k = cn n := by rw [hdQ_13 (by decide)]; exact g34
    obtain ⟨Q4, hQ4⟩ : ∃ Q, pI (hdQ (hdQ Q0 A b (cn (-n)) (cn z)) B b (cn n) (cn z)) 15 7 k (cn 1) = Q := ⟨_, rfl⟩
    obtain ⟨Ws, Rs⟩ := ww_swap (s := A) (j := B) (b := b) (u := n) (z := z) he W0 (by omega) (by omega) hb (by omega) (by omega) (by omega) (by omega)
    obtain ⟨W4, R4⟩ := ww_flag (k := k) Ws hk60 (by rw [tkC_k (by decide), tkC_k (by decide)]; exact c6)
    rw [← eP4, hQ4] at W4
    rw [hQ4] at R4
    have q4k : ∀ K, ¬ K = 13 → ¬ K = 15 → Q4.1 K = Q0.1 K := fun K h h' => by
      rw [← hQ4]
      funext i S
      rw [pI_1, u3_k h', hdQ_k h, hdQ_k h]
    have q413 : ∀ K, ¬ K = 1 → Q4.1 13 K = Q0.1 13 K := fun K h => by
      rw [← hQ4]
      funext S
      rw [pI_1, u3_k (by decide), hdQ_13 h, hdQ_13 h]
    have q430 : Q4.1 13 30 k = cn b := by rw [q413 30 (by decide)]; exact g30
    have q48 : Q4.1 15 8 k = 0 := by
      rw [← hQ4, pI_1, u3_i (by decide), hdQ_k (by decide), hdQ_k (by decide), r15]
      exact c8
    obtain ⟨⟨gm1, gm2⟩, hm⟩ := latest_kp W4.2.2.2.1 hb
    -- in the middle
    have mid : ∃ P5 Q5 : PM, WW P5 Q5 (lgB lg (e + 1)) 99 99 (fun _ => False) N T D 6 (fun _ => 0) ∧ RS Q5 40 = RS Q4 40 ∧ (v7_reverse p (cn t) = (P5.1 1 (b + 1) 3, P5) ∧ g7_reverse p (cn t)) ∧ (v12_doBust_16 q (cn t) (cn k) = v12_doBust_166 F Q5 (cn t) (cn b) (cn 0) ∧ (g12_doBust_166 F Q5 (cn t) (cn b) (cn 0) → g12_doBust_16 q (cn t) (cn k))) ∧ Q5.1 12 1 0 = 0 ∧ Q5.1 13 30 k = cn b ∧ P5.2.2 4 (k + 1) 0 = b + 1 ∧ Q5.1 15 8 k = 0 := by
      by_cases hlt : v12_latest Q0 (cn b) = cn (t : Int)
      · have hlt' : v7_latestOf p (b + 1) = cn (t : Int) := by rw [hL]; exact hlt
        rcases hm with ⟨l1, l2⟩ | ⟨u, l1, l2, l3, l4, l5, l6⟩
        · obtain ⟨zr, hzr, zr1, zr2⟩ := (W4.2.2.1 b hb).2.1
          obtain ⟨W5, R5⟩ := ww_last W4 hb hzr
          obtain ⟨fn1, fn2⟩ := find_neg W4.2.2.2.1
          have hm1 : cn (-1) < (0 : Int32) := cnm1
          refine ⟨pI P4 1 (b + 1) 3 (cn zr), pI Q4 13 10 b (cn zr), W5, R5, ⟨?_, ?_⟩, ⟨?_, fun hg => ?_⟩, ?_, ?_, ?_, ?_⟩
          · unfold v7_reverse bv7_reverse
            simp only [f1, if_neg hzk, d0, if_pos hlt', hP1, P1R, d1, P14, P13, nn, x2, tkC_R, tkC_k (k := 4) (by decide), d2, x4, l1, fn1, if_true, zr1]
          · unfold g7_reverse bg7_reverse
            simp only [f1, if_neg hzk, d0, if_pos hlt', hP1, P1R, d1, P14, P13, nn, x2, tkC_R, tkC_k (k := 4) (by decide), d2, x4, l1, fn1, if_true]
            exact ⟨gf, hzk, gl1, hzk, hzk, hzk, hzk, hzA, x1, hzk, hzk, hzk, hzB, x3, gm1, fn2, hzb, hzb, hzb, trivial⟩
          · unfold v12_doBust_16 bv12_doBust_16
            simp only [k1, if_neg cn01, cntk (i := k) (by omega), if_pos h7, hQ0, if_pos r0, g30, if_pos hlt, g31, g34, nn, y2, g32', g34', y4, hQ4, l2, if_pos hm1, cntk (i := b) (by omega), zr2, hF]
          · unfold g12_doBust_16 bg12_doBust_16
            simp only [k1, if_neg cn01, cntk (i := k) (by omega), if_pos h7, hQ0, if_pos r0, g30, if_pos hlt, g31, g34, nn, y2, g32', g34', y4, hQ4, l2, if_pos hm1, cntk (i := b) (by omega), zr2, hF]
            exact ⟨gk, hki, hki, gl2, hki, hki, y1, hki, hki, y3, hki, gm2, i6, i6, hg⟩
          · rw [pI_1, u3_k (by decide), q4k 12 (by decide) (by decide)]
            exact r0
          · rw [pI_1, u3_i (by decide)]
            exact q430
          · rw [pI_R, P4R]
            exact d0
          · rw [pI_1, u3_k (by decide)]
            exact q48
        · have hu60 : u % 60 < 60 := Nat.mod_lt _ (by decide)
          obtain ⟨⟨fu1, fu2⟩, fu3, fu4⟩ := find_t (t := u) W4.2.2.2.1 l3 l5
          rw [if_pos l6.1] at fu3
          have hzu : ¬ u % 60 + 1 = 0 := by omega
          have hnu : ¬ cn (u : Int) < (0 : Int32) := cnge (by omega)
          have eiu : irm (cn (u : Int)) (cn 60) = cn ((u % 60 : Nat) : Int) := irm60 (by omega)
          have hiu := cninb (i := u % 60) (n := 60) hu60 (by omega)
          have hle : u % 60 ≤ u := Nat.mod_le _ _
          obtain ⟨zu, hzu2, zu1, zu2⟩ : ∃ zu : Int, PrB b zu ∧ P4.1 4 (u % 60 + 1) 3 = cn zu ∧ Q4.1 13 33 (u % 60) = cn zu := by
            obtain ⟨-, -, hs⟩ := W4.2.2.2.1.1 (u % 60) hu60
            rcases hs with ⟨s1, s2, s3, b2, A2, B2, zz, nn2, hb2, hA2, hB2, e0, e30, e1, e31, e2, e32, hzz, e3, e33, -⟩ | ⟨s1, s2 | s2⟩
            · have h30 := l6.2.1
              rw [e30, cneq ⟨by omega, by omega⟩ ⟨by omega, by omega⟩] at h30
              have : b2 = b := by omega
              rw [this] at hzz
              exact ⟨zz, hzz, e3, e33⟩
            · omega
            · have h8 := l6.1
              rw [s2] at h8
              exact absurd h8 (by decide)
          obtain ⟨W5, R5⟩ := ww_last W4 hb hzu2
          refine ⟨pI P4 1 (b + 1) 3 (cn zu), pI Q4 13 10 b (cn zu), W5, R5, ⟨?_, ?_⟩, ⟨?_, fun hg => ?_⟩, ?_, ?_, ?_, ?_⟩
          · unfold v7_reverse bv7_reverse
            simp only [f1, if_neg hzk, d0, if_pos hlt', hP1, P1R, d1, P14, P13, nn, x2, tkC_R, tkC_k (k := 4) (by decide), d2, x4, l1, fu3, if_neg hzu, zu1]
          · unfold g7_reverse bg7_reverse
            simp only [f1, if_neg hzk, d0, if_pos hlt', hP1, P1R, d1, P14, P13, nn, x2, tkC_R, tkC_k (k := 4) (by decide), d2, x4, l1, fu3, if_neg hzu]
            exact ⟨gf, hzk, gl1, hzk, hzk, hzk, hzk, hzA, x1, hzk, hzk, hzk, hzB, x3, gm1, fu1, hzu, hzb, hzb, trivial⟩
          · unfold v12_doBust_16 bv12_doBust_16
            simp only [k1, if_neg cn01, cntk (i := k) (by omega), if_pos h7, hQ0, if_pos r0, g30, if_pos hlt, g31, g34, nn, y2, g32', g34', y4, hQ4, l2, if_neg hnu, cntk (i := b) (by omega), eiu, cntk (i := u % 60) (by omega), zu2, hF]
          · unfold g12_doBust_16 bg12_doBust_16
            simp only [k1, if_neg cn01, cntk (i := k) (by omega), if_pos h7, hQ0, if_pos r0, g30, if_pos hlt, g31, g34, nn, y2, g32', g34', y4, hQ4, l2, if_neg hnu, cntk (i := b) (by omega), eiu, cntk (i := u % 60) (by omega), zu2, hF]
            exact ⟨gk, hki, hki, gl2, hki, hki, y1, hki, hki, y3, hki, gm2, hiu, i6, hg⟩
          · rw [pI_1, u3_k (by decide), q4k 12 (by decide) (by decide)]
            exact r0
          · rw [pI_1, u3_i (by decide)]
            exact q430
          · rw [pI_R, P4R]
            exact d0
          · rw [pI_1, u3_k (by decide)]
            exact q48
      · have hlt' : ¬ v7_latestOf p (b + 1) = cn (t : Int) := by rw [hL]; exact hlt
        refine ⟨P4, Q4, W4, rfl, ⟨?_, ?_⟩, ⟨?_, fun hg => ?_⟩, ?_, q430, ?_, q48⟩
        · unfold v7_reverse bv7_reverse
          simp only [f1, if_neg hzk, d0, if_neg hlt', hP1, P1R, d1, P14, P13, nn, x2, tkC_R, tkC_k (k := 4) (by decide), d2, x4]
        · unfold g7_reverse bg7_reverse
          simp only [f1, if_neg hzk, d0, if_neg hlt', hP1, P1R, d1, P14, P13, nn, x2, tkC_R, tkC_k (k := 4) (by decide), d2, x4]
          exact ⟨gf, hzk, gl1, hzk, hzk, hzk, hzk, hzA, x1, hzk, hzk, hzk, hzB, x3, hzb, trivial⟩
        · unfold v12_doBust_16 bv12_doBust_16
          simp only [k1, if_neg cn01, cntk (i := k) (by omega), if_pos h7, hQ0, if_pos r0, g30, if_neg hlt, g31, g34, nn, y2, g32', g34', y4, hQ4, hF]
        · unfold g12_doBust_16 bg12_doBust_16
          simp only [k1, if_neg cn01, cntk (i := k) (by omega), if_pos h7, hQ0, if_pos r0, g30, if_neg hlt, g31, g34, nn, y2, g32', g34', y4, hQ4, hF]
          exact ⟨gk, hki, hki, gl2, hki, hki, y1, hki, hki, y3, hki, hg⟩
        · rw [q4k 12 (by decide) (by decide)]
          exact r0
        · rw [P4R]
          exact d0
    obtain ⟨P5, Q5, W5, R5, ⟨er, gr⟩, ⟨eq, gq⟩, z12, z30, zR, z8⟩ := mid
    have z0 : cn ((0 : Nat) : Int) = cn 0 := rfl
    obtain ⟨⟨h1, h2⟩, P6, Q6, h3, h4, W6, R6, h6⟩ := hs_loop (t := t) (bb := b) (by omega) t2 hb 40 0 F F P5 Q5 rfl (by omega) (by omega) W5 (by rw [hkk]; exact z30)
    rw [z0] at h1 h2 h3 h4
    obtain ⟨⟨ff1, -⟩, ff3, -⟩ := find_t (t := t) W5.2.2.2.1 t1 t2
    rw [hkk, if_pos z8] at ff3
    obtain ⟨zl, -, zl1, zl2⟩ := (W5.2.2.1 b hb).1
    have eC : v5_undo p (cn t) = (cn zl, P6) ∧ g5_undo p (cn t) := by
      have fh : v6_holdStops P5 (b + 1) (cn t) = P6 ∧ g6_holdStops P5 (b + 1) (cn t) := by
        unfold v6_holdStops bv6_holdStops g6_holdStops bg6_holdStops
        rw [hF]
        exact ⟨h3, h1⟩
      unfold v5_undo bv5_undo g5_undo bg5_undo
      simp only [er, ff3, if_neg hzk, zR, fh.1, zl1]
      exact ⟨trivial, gr, ff1, hzk, fh.2, trivial⟩
    have eV : v12_doBust q (cn t) = (cn zl, Q6) ∧ g12_doBust q (cn t) := by
      unfold v12_doBust bv12_doBust g12_doBust bg12_doBust
      simp only [k1, if_neg cn01, eir]
      rw [eq, h4, zl2]
      exact ⟨rfl, gk, gq h2⟩
    refine ⟨eV.2, fun _ => ⟨eC.2, ?_, ?_⟩, fun h => absurd rfl h⟩
    · rw [eV.1]
      show Q6.1 12 1 0 = cn 0
      rw [h6]
      exact z12
    · rw [eC.1, eV.1]
      exact ⟨rfl, N, T, D, ⟨Nat.le_refl _, Nat.le_refl _⟩, ⟨Nat.le_refl _, Nat.le_refl _⟩, W6, by show (T : Int) + RS Q6 40 ≤ _; omega, by show (D : Int) + RS Q6 40 ≤ _; omega⟩
  · have h5 : ¬ p.1 4 (k + 1) 5 = 0 := by rw [d5]; exact h7
    have kA : kBust p (cn t) = 2 := by
      unfold kBust
      rw [f1, if_neg hzk, if_neg h5]
    rw [kA]
    refine ⟨?_, fun h => absurd h (by decide), fun _ => ?_⟩
    · unfold g12_doBust bg12_doBust g12_doBust_16 bg12_doBust_16
      simp only [k1, if_neg cn01, eir, cntk (i := k) (by omega), if_neg h7, t_1, if_neg c20]
      exact ⟨gk, gk, hki, trivial⟩
    · unfold v12_doBust bv12_doBust v12_doBust_16 bv12_doBust_16
      simp only [k1, if_neg cn01, eir, cntk (i := k) (by omega), if_neg h7, t_1, if_neg c20]
      all_goals rfl
end Bust2
