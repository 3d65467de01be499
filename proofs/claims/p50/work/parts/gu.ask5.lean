/-! what is asked, the fifth part: where an auction would end; how many events there are -/
section Ask5
variable {p q : PM} {lg : Nat → Int32} {N T D e : Nat} {b t : Int32}
/-- where the class's auction would end -/
noncomputable def inP (p : PM) (b : Int32) : Int32 := if p.1 1 (v6_bookAt p b) 5 = 0 then cn (-100000) else v8_findPrice p (v6_bookAt p b)
noncomputable def vInd (p : PM) (b t : Int32) : Int32 := if t = 0 then inP p b else if inP p b = cn (-100000) then cn 0 else v8_volumeAt p (v6_bookAt p b) (inP p b)
theorem iv_scr {P W : Int32} (I : IV lg p q N T D e) : IV lg p (scr q P W) N T D e := by
  obtain ⟨H, hN, hS, n1, t1, d1⟩ := I
  have k13 : ∀ K, (scr q P W).1 13 K = q.1 13 K := fun K => rfl
  have k15 : (scr q P W).1 15 = q.1 15 := rfl
  have k12 : ∀ S, ¬ S = 64 → ¬ S = 65 → (scr q P W).1 12 1 S = q.1 12 1 S := fun S h1 h2 => by
    unfold scr
    rw [pI_1, u3_s h1, pI_1, u3_s h2]
  have hR : RS (scr q P W) 40 = RS q 40 := RS_c rfl rfl
  refine ⟨ww_scr H (fun K _ _ _ => k13 K) k15 (fun S h1 h2 _ => k12 S h1 h2) rfl, npa_c hN (fun K _ => k13 K) k15, sb_c hS (fun K _ => k13 K) (fun S h => k12 S (by omega) (by omega)) k15, n1, by rw [hR]; exact t1, by rw [hR]; exact d1⟩
theorem ask_ind (I : IV lg p q N T D e) : g12_indicated q b t ∧ ∃ r Q2, v12_indicated q b t = (r, Q2) ∧ Q2.1 12 1 0 = cn (kBk b) ∧ IV lg p Q2 N T D e ∧ (kBk b = 0 → (g6_bookAt p b ∧ (¬ p.1 1 (v6_bookAt p b) 5 = 0 → g8_findPrice p (v6_bookAt p b) ∧ ∀ v, g8_volumeAt p (v6_bookAt p b) v)) ∧ r = vInd p b t) := by
  have c10 : ¬ cn 1 = (0 : Int32) := by decide
  have c00 : cn 0 = (0 : Int32) := rfl
  obtain ⟨g1, e1⟩ := isBook_e (q := q) (b := b)
  unfold kBk v12_indicated bv12_indicated g12_indicated bg12_indicated
  rw [e1]
  by_cases h1 : isW b (cn 0) (cn 5) = 0
  · simp only [if_pos h1, if_pos c00]
    exact ⟨⟨g1, trivial⟩, _, _, rfl, pI_at, iv_th I, fun h => absurd h (by decide)⟩
  simp only [if_neg h1, if_neg c10]
  obtain ⟨b, hb, rfl⟩ := isW_n (b := 5) (by decide) h1
  have I0 := iv_th (x := cn 0) I
  have a0 : (pI q 12 1 0 (cn 0)).1 12 1 0 = cn 0 := pI_at
  generalize pI q 12 1 0 (cn 0) = q0 at I0 a0 ⊢
  have I3 : IV lg p (scr q0 (cn (-100000)) (cn 0)) N T D e := iv_scr I0
  have a3 : ∀ P W, (scr q0 P W).1 12 1 0 = cn 0 := fun P W => by
    unfold scr
    rw [pI_1, u3_s (by decide), pI_1, u3_s (by decide)]
    exact a0
  have hs : pI (pI q0 12 1 65 (cn (-100000))) 12 1 64 (cn 0) = scr q0 (cn (-100000)) (cn 0) := rfl
  simp only [hs]
  have go := g_open (q := scr q0 (cn (-100000)) (cn 0)) (b := b) (by omega)
  have eo := open_eq (b := b) (by omega) I3.1.2.2.1
  unfold vInd inP
  rw [book_e p (by omega)]
  by_cases ho : v12_isOpen (scr q0 (cn (-100000)) (cn 0)) (cn b) = 0
  · have hin : ¬ p.1 1 (b + 1) 5 = 0 := by
      rw [eo]
      exact fun h => h ho
    have h12 : ¬ (scr q0 (cn (-100000)) (cn 0)).1 13 12 b = cn (-100000) := fun h => by
      rw [open_e _ (by omega), if_pos h] at ho
      exact absurd ho c10
    have hnp : NP (scr q0 (cn (-100000)) (cn 0)) b := npa_np I3.2.1 (by omega) h12
    obtain ⟨⟨gf, gq⟩, P, W, eF, eP, hPW⟩ := fp_eq (b := b) (by omega) I3.1.1.1 hnp I3.1.2.2.1
    have gv : ∀ v, g8_volumeAt p (b + 1) v := fun v => ⟨(wants_eq (b := b) (by omega) I3.1.1.1 hnp (cn 1) v).1.1, (wants_eq (b := b) (by omega) I3.1.1.1 hnp (cn 0) v).1.1, g_min _ _ _, trivial⟩
    have e3 : scr (scr q0 (cn (-100000)) (cn 0)) P W = scr q0 P W := scr_scr
    rw [e3] at eF
    simp only [if_pos ho, if_neg hin, eF, scr_65, scr_64]
    by_cases ht : t = 0
    · simp only [if_pos ht]
      exact ⟨⟨g1, go, gq, trivial⟩, _, _, rfl, a3 P W, iv_scr I0, fun _ => ⟨⟨g_book p (by omega), fun _ => ⟨gf, gv⟩⟩, eP.symm⟩⟩
    · simp only [if_neg ht]
      refine ⟨⟨g1, go, gq, trivial⟩, _, _, rfl, a3 P W, iv_scr I0, fun _ => ⟨⟨g_book p (by omega), fun _ => ⟨gf, gv⟩⟩, ?_⟩⟩
      rw [eP]
      rcases hPW with ⟨x1, x2⟩ | ⟨x1, x2⟩
      · rw [if_pos x1, x2]
      · rw [if_neg x1, x2]
  · have hin : p.1 1 (b + 1) 5 = 0 := by
      rw [eo]
      exact ho
    simp only [if_neg ho, if_pos hin, scr_65, scr_64, if_true]
    by_cases ht : t = 0
    · simp only [if_pos ht]
      exact ⟨⟨g1, go, trivial⟩, _, _, rfl, a3 _ _, I3, fun _ => ⟨⟨g_book p (by omega), fun h => absurd hin h⟩, rfl⟩⟩
    · simp only [if_neg ht]
      exact ⟨⟨g1, go, trivial⟩, _, _, rfl, a3 _ _, I3, fun _ => ⟨⟨g_book p (by omega), fun h => absurd hin h⟩, rfl⟩⟩
theorem ask_events {n : Nat} (I : IV lg p q N T D e) (h60 : lg 4000 = cn n) : g12_events q ∧ v12_events q = (cn n, pI q 12 1 0 (cn 0)) := by
  have c60 : q.1 12 1 60 = cn n := by
    rw [I.1.2.2.2.2.2.1.2.2.2.2.2.2.2.2.1, lgB_o (by decide) (by decide)]
    exact h60
  refine ⟨trivial, ?_⟩
  show ((pI q 12 1 0 (cn 0)).1 12 1 60, pI q 12 1 0 (cn 0)) = _
  rw [th_1 (by decide), c60]
end Ask5
