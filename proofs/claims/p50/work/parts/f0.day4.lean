/-! the end of a day, put together -/
theorem ev_day {p q : PM} {lg : Nat → Int32} {N T D l t : Nat} (H : WW p q lg 99 99 (fun _ => False) N T D l (fun _ => 0)) (h18 : q.1 12 1 18 = cn t) (ht : t + 1 ≤ 900000) : (g6_turnDay p ∧ g12_doEndDay_51 FU q (cn 1) (cn 0) (cn 0)) ∧ EvR lg q N T D l 60 0 (v6_turnDay p) (v12_doEndDay_51 FU q (cn 1) (cn 0) (cn 0)) := by
  obtain ⟨F, hF, hF2⟩ : ∃ F, FU = F ∧ 100 < F := ⟨FU, rfl, by decide⟩
  obtain ⟨P, Q, C, k1, k2, k3, k4, M⟩ := day_loop hF 40 0 F F p q (cn 0) rfl (by omega) (by omega) H.1.1 (day_e H)
  have z0 : cn ((0 : Nat) : Int) = cn 0 := rfl
  rw [z0] at k1 k2 k3 k4
  have W1 := w_mk M H
  have R1 := rs_mk M H.1.1
  obtain ⟨P2, Q2, ⟨e1, e2⟩, ⟨e3, e4⟩, W2, R2, e12⟩ := ref_loop (C := C) 6 0 F F P Q rfl (by omega) (by omega) W1
  rw [z0] at e1 e2 e3 e4
  have q18 : Q2.1 12 1 18 = cn t := by rw [e12, M.2.2.2.1 12 1 (by decide)]; exact h18
  have p63 : P2.1 6 1 3 = cn t := (day_e W2).trans q18
  have hs : cn (t : Int) + cn 1 = cn ((t + 1 : Nat) : Int) := cnsucc t
  rw [p63, hs] at e1
  rw [q18, hs] at e3
  obtain ⟨W3, R3⟩ := ww_day W2 ht
  have eC : v6_turnDay p = (C, pI P2 6 1 3 (cn (t + 1 : Nat))) ∧ g6_turnDay p := by
    unfold v6_turnDay bv6_turnDay g6_turnDay bg6_turnDay
    rw [hF]
    exact ⟨k1.trans e1, k2 e2⟩
  rw [hF]
  refine ⟨⟨eC.2, k4 e4⟩, ?_⟩
  rw [eC.1, k3, e3]
  exact ⟨rfl, N, T, D, ⟨Nat.le_refl _, Nat.le_refl _⟩, ⟨Nat.le_refl _, Nat.le_refl _⟩, W3, by show (T : Int) + RS (pI _ _ _ _ _) 40 ≤ _; omega, by show (D : Int) + RS (pI _ _ _ _ _) 40 ≤ _; omega⟩
