/-! the work after an event: stops that are due, and combinations, until there is none; then the pegs -/
theorem work_loop {lg : Nat → Int32} {N l : Nat} : ∀ (M n1 n2 n3 v : Nat) (p q : PM) (T D : Nat), RS q 40 + (WT q 40 : Int) < M → M ≤ 5000 → M < n1 → M < n2 → M < n3 → v + M ≤ 900000 → WW p q lg 99 99 (fun _ => False) N T D l (fun _ => 0) → T + RS q 40 + (WT q 40 : Int) + 5 ≤ 1000000000 → D + RS q 40 + 5 ≤ 1000000000 → ∃ (P Q : PM) (T2 D2 : Nat), v5_work_2 n1 p (cn v) = v6_pricePegs P ∧ v12_works_11 (v12_works_2 n2) n3 q (v12_readyStop q) = v12_pegsAll Q ∧ (g6_pricePegs P → g5_work_2 n1 p (cn v)) ∧ (g12_pegsAll Q → g12_works_11 (g12_works_2 n2) n3 q (v12_readyStop q)) ∧ WW P Q lg 99 99 (fun _ => False) N T2 D2 l (fun _ => 0) ∧ (T ≤ T2 ∧ D ≤ D2) ∧ T2 + RS Q 40 ≤ T + RS q 40 + (WT q 40 : Int) ∧ D2 + RS Q 40 ≤ D + RS q 40 := by
  intro M
  induction M with
  | zero =>
    intro n1 n2 n3 v p q T D h1 _ _ _ _ _ H
    have := (RS_rng H.1.1 40 (by decide)).1
    omega
  | succ M ih =>
    intro n1 n2 n3 v p q T D h1 h2 h3 h4 h5 h6 H hT hD
    have R0 := (RS_rng H.1.1 40 (by decide)).1
    obtain ⟨m1, rfl⟩ : ∃ m, n1 = m + 1 := ⟨n1 - 1, by omega⟩
    obtain ⟨m2, rfl⟩ : ∃ m, n2 = m + 1 := ⟨n2 - 1, by omega⟩
    obtain ⟨m3, rfl⟩ : ∃ m, n3 = m + 1 := ⟨n3 - 1, by omega⟩
    obtain ⟨F, hF, hF2⟩ : ∃ F, FU = F ∧ 10000 < F := ⟨FU, rfl, by decide⟩
    have cv : cn (v : Int) < cn 1000000 := by
      rw [cnlt ⟨by omega, by omega⟩ ⟨by omega, by omega⟩]
      omega
    obtain ⟨⟨gd1, gd2⟩, hdue⟩ := due_eq H.1.1 (by decide) H.2.2.1
    rcases hdue with ⟨dz, dq⟩ | ⟨o, ho, dz, dq, hl, hd⟩
    · -- no stop
      have dq0 : v12_readyStop q < 0 := by rw [dq]; exact cnm1
      obtain ⟨k0, hk⟩ := comb_work (kv := v5_work_2 m1) (kg := g5_work_2 m1) H (cn v) cv dz gd1 (by omega) (by omega)
      rw [ev5_work_2, eg5_work_2, ev12_works_11, eg12_works_11]
      unfold bv12_works_11 bg12_works_11
      simp only [if_pos dq0]
      rcases hk with ⟨e1, e2, e3⟩ | ⟨p2, q2, T2, D2, e1, e2, e3, t1, W, t2, t3, t4⟩
      · refine ⟨p, q, T, D, e1, ?_, e2, ?_, H, ⟨Nat.le_refl _, Nat.le_refl _⟩, by omega, by omega⟩
        · rw [e3, ev12_works_2]
          unfold bv12_works_2
          simp only [if_pos cn0e']
        · intro h
          refine ⟨k0, ?_⟩
          rw [e3, eg12_works_2]
          unfold bg12_works_2
          simp only [if_pos cn0e']
          exact ⟨h, trivial⟩
      · have hfk : FK q q2 := by
          have := fk_v12_combines (fk_refl q)
          rw [e3] at this
          exact this
        have hwt := WT_le hfk 40
        have hs : cn (v : Int) + cn 1 = cn ((v + 1 : Nat) : Int) := cnsucc v
        obtain ⟨P, Q, T3, D3, f1, f2, f3, f4, f5, f6, f7, f8⟩ := ih m1 m2 F (v + 1) p2 q2 T2 D2 (by omega) (by omega) (by omega) (by omega) (by omega) (by omega) W (by omega) (by omega)
        obtain ⟨⟨gd3, gd4⟩, -⟩ := due_eq W.1.1 (by decide) W.2.2.1
        refine ⟨P, Q, T3, D3, ?_, ?_, ?_, ?_, f5, ⟨by omega, by omega⟩, by omega, by omega⟩
        · rw [e1, hs]
          exact f1
        · rw [e3, ev12_works_2, hF]
          unfold bv12_works_2
          simp only [if_neg cn01]
          exact f2
        · intro h
          refine e2 ?_
          rw [hs]
          exact f3 h
        · intro h
          refine ⟨k0, ?_⟩
          rw [e3, eg12_works_2, hF]
          unfold bg12_works_2
          simp only [if_neg cn01]
          exact ⟨gd4, f4 h⟩
    · -- a stop
      have hzo : ¬ o + 1 = 0 := by omega
      have dn : ¬ v12_readyStop q < 0 := by
        rw [dq, zcn, cnlt ⟨by omega, by omega⟩ (by decide)]
        omega
      have hio := cninb (i := o) (n := 44) (by omega) (by omega)
      obtain ⟨P1, Q1, e1, e2, ⟨k1, k2, k3, k4⟩, T2, D2, t1, W, t2, t3, t4⟩ := stop_work H ho hl hd (by omega) (by omega)
      have hs : cn (v : Int) + cn 1 = cn ((v + 1 : Nat) : Int) := cnsucc v
      obtain ⟨P, Q, T3, D3, f1, f2, f3, f4, f5, f6, f7, f8⟩ := ih m1 (m2 + 1) m3 (v + 1) (v8_match P1 (o + 1)) (v12_matches Q1 (cn o)) T2 D2 (by omega) (by omega) (by omega) (by omega) (by omega) (by omega) W (by omega) (by omega)
      obtain ⟨⟨gd3, gd4⟩, -⟩ := due_eq W.1.1 (by decide) W.2.2.1
      refine ⟨P, Q, T3, D3, ?_, ?_, ?_, ?_, f5, ⟨by omega, by omega⟩, by omega, by omega⟩
      · rw [ev5_work_2]
        unfold bv5_work_2
        simp only [if_pos cv, dz, if_neg hzo, e1, hs]
        exact f1
      · rw [ev12_works_11]
        unfold bv12_works_11
        simp only [if_neg dn]
        rw [dq]
        simp only [cntk (i := o) (by omega), e2]
        exact f2
      · intro h
        rw [eg5_work_2]
        unfold bg5_work_2
        simp only [if_pos cv, dz, if_neg hzo, e1, hs]
        have gd1' := gd1
        exact ⟨gd1', hzo, k1, hzo, k3, f3 h⟩
      · intro h
        rw [eg12_works_11]
        unfold bg12_works_11
        simp only [if_neg dn]
        rw [dq]
        simp only [cntk (i := o) (by omega), e2]
        exact ⟨hio, k2, hio, k4, gd4, f4 h⟩
