/-! the work, whole -/
theorem ww_work {p q : PM} {lg : Nat → Int32} {N T D l : Nat} (H : WW p q lg 99 99 (fun _ => False) N T D l (fun _ => 0)) (hT : T + 2200 ≤ 1000000000) (hD : D + 2200 ≤ 1000000000) : (g5_work p ∧ g12_works q) ∧ ∃ T2 D2, (T ≤ T2 ∧ D ≤ D2) ∧ WW (v5_work p) (v12_works q) lg 99 99 (fun _ => False) N T2 D2 l (fun _ => 0) ∧ NPA (v12_works q) ∧ T2 + RS (v12_works q) 40 ≤ T + RS q 40 + 80 ∧ D2 + RS (v12_works q) 40 ≤ D + RS q 40 := by
  obtain ⟨F, hF, hF2⟩ : ∃ F, FU = F ∧ 10000 < F := ⟨FU, rfl, by decide⟩
  have R := (RS_rng H.1.1 40 (by decide))
  have hwt := WT_40 q 40
  obtain ⟨n2, hn2⟩ : ∃ n2, F = n2 + 1 := ⟨F - 1, by omega⟩
  obtain ⟨P, Q, T2, D2, f1, f2, f3, f4, W, ⟨t1, t2⟩, f7, f8⟩ := work_loop (lg := lg) (N := N) (l := l) 3000 F n2 F 0 p q T D (by omega) (by omega) (by omega) (by omega) (by omega) (by decide) H (by omega) (by omega)
  obtain ⟨⟨g1, g2⟩, T3, ⟨t3, t4⟩, W2, R2, N2, -, -⟩ := pegs_all W (by
    have := (RS_rng W.1.1 40 (by decide)).1
    omega)
  obtain ⟨⟨-, gd⟩, -⟩ := due_eq H.1.1 (by decide) H.2.2.1
  have z0 : cn ((0 : Nat) : Int) = cn 0 := rfl
  rw [z0] at f1 f3
  have e1 : v5_work p = v6_pricePegs P ∧ g5_work p := by
    unfold v5_work bv5_work g5_work bg5_work
    rw [hF]
    exact ⟨f1, f3 g1⟩
  have e2 : v12_works q = v12_pegsAll Q ∧ g12_works q := by
    unfold v12_works bv12_works g12_works bg12_works
    rw [hF, hn2, ev12_works_2, eg12_works_2, hF]
    unfold bv12_works_2 bg12_works_2
    simp only [if_neg cn01]
    exact ⟨f2, gd, f4 g2⟩
  rw [e1.1, e2.1]
  exact ⟨⟨e1.2, e2.2⟩, T3, D2, ⟨by omega, t2⟩, W2, N2, by omega, by omega⟩
