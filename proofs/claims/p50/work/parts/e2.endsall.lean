/-! the end of an auction, whole -/
theorem ends_ev {p q : PM} {lg : Nat → Int32} {b N T D t : Nat} (H : WW p q lg 99 99 (fun _ => False) N T D b (fun _ => 0)) (hb : b < 6) (hn : NPA q) (hin : ¬ q.1 13 12 b = cn (-100000)) (h17 : q.1 12 1 17 = cn t) (ht : t ≤ 900000) (hT : T + 2200 ≤ 1000000000) (hD : D + 4400 ≤ 1000000000) : (g8_endAuction p (b + 1) ∧ g12_endsAuction q (cn b)) ∧ ∃ (a : Int32) (P : PM), v8_endAuction p (b + 1) = (a, P) ∧ ∃ (T2 D2 : Nat) (P' : PM), ((a = cn 0 ∧ P' = P) ∨ (a = cn 1 ∧ g5_work P ∧ P' = v5_work P)) ∧ (T ≤ T2 ∧ D ≤ D2) ∧ WW P' (v12_endsAuction q (cn b)) lg 99 99 (fun _ => False) N T2 D2 (b + 1) (fun _ => 0) ∧ NPA (v12_endsAuction q (cn b)) ∧ T2 + RS (v12_endsAuction q (cn b)) 40 ≤ T + RS q 40 + 80 ∧ D2 + RS (v12_endsAuction q (cn b)) 40 ≤ D + RS q 40 := by
  have hzb : ¬ b + 1 = 0 := by omega
  have hib := cninb (i := b) (n := 6) hb (by omega)
  have hnp := npa_np hn hb hin
  obtain ⟨⟨gf, gq⟩, P0, W0, eF, eP, -⟩ := fp_eq hb H.1.1 hnp H.2.2.1
  have hpr := fp_pr H.1.1 hb H.2.2.1
  rw [eP] at hpr
  have Ws : WW p (scr q P0 W0) lg 99 99 (fun _ => False) N T D b (fun _ => 0) := ww_scr H (fun _ _ _ _ => rfl) rfl (fun S h h' _ => by
    unfold scr
    rw [pI_1, u3_s h, pI_1, u3_s h']) rfl
  have hnps : NP (scr q P0 W0) b := scr_NP hnp
  have e65 : (scr q P0 W0).1 12 1 65 = P0 := scr_65
  have hRS : RS (scr q P0 W0) 40 = RS q 40 := RS_same 40 fun i _ => rfl
  have h17s : (scr q P0 W0).1 12 1 17 = cn t := by
    unfold scr
    rw [pI_1, u3_s (by decide), pI_1, u3_s (by decide)]
    exact h17
  have hins : ¬ (scr q P0 W0).1 13 12 b = cn (-100000) := hin
  have hns : NPA (scr q P0 W0) := hn
  generalize hq1 : scr q P0 W0 = q1 at Ws hnps e65 hRS h17s hins hns eF
  rcases hpr with hP | ⟨z, hP, hz⟩
  · -- no price
    obtain ⟨⟨g1, g2, g3⟩, T2, D2, t1, W, n2, t2, t3⟩ := open_work (ww_y Ws hb) hb (by omega) (by omega)
    have eC : v8_endAuction p (b + 1) = (cn 1, v6_openBook p (b + 1)) ∧ g8_endAuction p (b + 1) := by
      unfold v8_endAuction bv8_endAuction g8_endAuction bg8_endAuction
      simp only [eP, hP, if_true]
      exact ⟨trivial, gf, g1, trivial⟩
    have eQ : v12_endsAuction q (cn b) = v12_endsAuction_92 FU (pI q1 13 12 b (cn (-100000))) (cn b) (cn 0) ∧ g12_endsAuction q (cn b) := by
      unfold v12_endsAuction bv12_endsAuction g12_endsAuction bg12_endsAuction
      simp only [eF, e65, hP, if_true, cntk (i := b) (by omega)]
      exact ⟨trivial, gq, hib, g3⟩
    rw [eQ.1]
    exact ⟨⟨eC.2, eQ.2⟩, cn 1, _, eC.1, T2, D2, _, Or.inr ⟨rfl, g2, rfl⟩, t1, W, n2, by omega, by omega⟩
  · have hne := pr_ne hz
    obtain ⟨⟨gbb, gnr⟩, ebb⟩ := band_eq (q := q1) hb Ws.2.2.1 (cn z)
    rw [hP] at e65 eP
    have hext : p.1 1 (b + 1) 6 = q1.1 15 2 b := by
      rcases (Ws.2.2.1 b hb).2.2.1 with ⟨-, w⟩ | ⟨-, -, -, -, w, -⟩
      · exact absurd w hins
      · exact w
    have hnow : p.1 6 1 2 = cn t := by
      obtain ⟨t', -, w1, w2⟩ := H.2.2.2.2.2.1.2.2.2.2.2.1
      rw [w1, ← w2, h17]
    have e5 : cn (t : Int) + cn 5 = cn ((t + 5 : Nat) : Int) := by
      rw [cnadd]
      rfl
    obtain ⟨⟨g1, g2, g3, g4, g5⟩, T2, D2, t1, W, n2, t2, t3⟩ := trade_work Ws hb hnps hz (by omega) (by omega)
    -- all is traded
    have fin : v8_endAuction p (b + 1) = (cn 1, v6_openBook (pI (v8_tradeAll p (b + 1) (cn z)) 1 (b + 1) 4 (cn z)) (b + 1)) → g8_endAuction p (b + 1) → v12_endsAuction q (cn b) = v12_endsAuction_92 FU (pI (pI (v12_tradesAll q1 (cn b) (cn z)) 13 11 b (cn z)) 13 12 b (cn (-100000))) (cn b) (cn 0) → g12_endsAuction q (cn b) → (g8_endAuction p (b + 1) ∧ g12_endsAuction q (cn b)) ∧ ∃ (a : Int32) (P : PM), v8_endAuction p (b + 1) = (a, P) ∧ ∃ (T2 D2 : Nat) (P' : PM), ((a = cn 0 ∧ P' = P) ∨ (a = cn 1 ∧ g5_work P ∧ P' = v5_work P)) ∧ (T ≤ T2 ∧ D ≤ D2) ∧ WW P' (v12_endsAuction q (cn b)) lg 99 99 (fun _ => False) N T2 D2 (b + 1) (fun _ => 0) ∧ NPA (v12_endsAuction q (cn b)) ∧ T2 + RS (v12_endsAuction q (cn b)) 40 ≤ T + RS q 40 + 80 ∧ D2 + RS (v12_endsAuction q (cn b)) 40 ≤ D + RS q 40 := by
      intro a1 a2 a3 a4
      rw [a3]
      exact ⟨⟨a2, a4⟩, cn 1, _, a1, T2, D2, _, Or.inr ⟨rfl, g3, rfl⟩, t1, W, n2, by omega, by omega⟩
    by_cases hnr : v12_isNear q1 (cn b) (cn z) = 0
    · have hbd : ¬ v1_isBeyondBand p (b + 1) (cn z) = 0 := by
        rw [ebb]
        exact fun h => h hnr
      by_cases hx : q1.1 15 2 b = 0
      · -- it goes on
        have hx' : p.1 1 (b + 1) 6 = 0 := by
          rw [hext]
          exact hx
        obtain ⟨We, Re⟩ := ww_ext Ws hb h17s ht hins
        have eC : v8_endAuction p (b + 1) = (cn 0, pI (pI p 1 (b + 1) 7 (cn (t + 5 : Nat))) 1 (b + 1) 6 (cn 1)) ∧ g8_endAuction p (b + 1) := by
          unfold v8_endAuction bv8_endAuction g8_endAuction bg8_endAuction
          simp only [eP, if_neg hne, if_neg hbd, if_pos hx', hnow, e5]
          exact ⟨trivial, gf, hzb, gbb, hzb, hzb, hzb, trivial⟩
        have e17 : (pI q1 15 2 b (cn 1)).1 12 1 17 = cn t := by
          rw [pI_1, u3_k (by decide)]
          exact h17s
        have eQ : v12_endsAuction q (cn b) = pI (pI q1 15 2 b (cn 1)) 13 12 b (cn (t + 5 : Nat)) ∧ g12_endsAuction q (cn b) := by
          unfold v12_endsAuction bv12_endsAuction g12_endsAuction bg12_endsAuction
          simp only [eF, e65, if_neg hne, if_pos hnr, cntk (i := b) (by omega), if_pos hx, e17, e5]
          exact ⟨trivial, gq, gnr, hib, hib, hib, trivial⟩
        rw [eQ.1]
        refine ⟨⟨eC.2, eQ.2⟩, cn 0, _, eC.1, T, D, _, Or.inl ⟨rfl, rfl⟩, ⟨Nat.le_refl _, Nat.le_refl _⟩, We, fun i hi hs hk => ?_, by omega, by omega⟩
        have e15 : (pI (pI q1 15 2 b (cn 1)) 13 12 b (cn (t + 5 : Nat))).1 15 3 i = q1.1 15 3 i := by rw [pI_1, u3_k (by decide), pI_1, u3_i (by decide)]
        have e13 : ∀ K, ¬ K = 12 → (pI (pI q1 15 2 b (cn 1)) 13 12 b (cn (t + 5 : Nat))).1 13 K i = q1.1 13 K i := fun K h => by rw [pI_1, u3_i h, pI_1, u3_k (by decide)]
        have hs' : stnd q1 i := ⟨by rw [← e15]; exact hs.1, by rw [← e13 24 (by decide)]; exact hs.2⟩
        rw [e13 19 (by decide)] at hk
        have h0 := hns i hi hs' hk
        rw [e13 16 (by decide)]
        obtain ⟨_, ai, bi, ri, si, zi, hLi⟩ := slot_live (Ws.1.1.1 i hi) (by rw [hs'.1]; exact cn01)
        have hbi := hLi.2.1.1
        rw [hLi.2.1.2.1] at h0 ⊢
        rw [open_e _ (by omega)] at h0 ⊢
        by_cases eb : bi = b
        · rw [eb, if_neg hins] at h0
          exact absurd rfl h0
        · rw [pI_1, u3_s eb, pI_1, u3_k (by decide)]
          exact h0
      · have hx' : ¬ p.1 1 (b + 1) 6 = 0 := by
          rw [hext]
          exact hx
        refine fin ?_ ?_ ?_ ?_
        · unfold v8_endAuction bv8_endAuction
          simp only [eP, if_neg hne, if_neg hbd, if_neg hx']
        · unfold g8_endAuction bg8_endAuction
          simp only [eP, if_neg hne, if_neg hbd, if_neg hx']
          exact ⟨gf, hzb, gbb, hzb, g1, hzb, g2, trivial⟩
        · unfold v12_endsAuction bv12_endsAuction
          simp only [eF, e65, if_neg hne, if_pos hnr, cntk (i := b) (by omega), if_neg hx]
        · unfold g12_endsAuction bg12_endsAuction
          simp only [eF, e65, if_neg hne, if_pos hnr, cntk (i := b) (by omega), if_neg hx]
          exact ⟨gq, gnr, hib, g4, hib, hib, g5⟩
    · have hbd : v1_isBeyondBand p (b + 1) (cn z) = 0 := by
        rw [ebb]
        exact hnr
      refine fin ?_ ?_ ?_ ?_
      · unfold v8_endAuction bv8_endAuction
        simp only [eP, if_neg hne, if_pos hbd]
      · unfold g8_endAuction bg8_endAuction
        simp only [eP, if_neg hne, if_pos hbd]
        exact ⟨gf, hzb, gbb, g1, hzb, g2, trivial⟩
      · unfold v12_endsAuction bv12_endsAuction
        simp only [eF, e65, if_neg hne, if_neg hnr, cntk (i := b) (by omega)]
      · unfold g12_endsAuction bg12_endsAuction
        simp only [eF, e65, if_neg hne, if_neg hnr, cntk (i := b) (by omega)]
        exact ⟨gq, gnr, g4, hib, hib, g5⟩
