/-! what is asked, the second part: best prices and orders -/
noncomputable def kFind (p : PM) (v : Int32) : Nat := if v6_find p v = 0 then 1 else 0
section Ask2
variable {p q : PM} {lg : Nat → Int32} {N T D : Nat} {v b t : Int32}
theorem ask_best (H : WW p q lg 99 99 (fun _ => False) N T D 6 (fun _ => 0)) : g12_best q b t ∧ AsR q (kBk b) (g6_bookAt p b ∧ g6_bestPrice p (v6_bookAt p b) t (cn 1)) (v6_bestPrice p (v6_bookAt p b) t (cn 1)) (v12_best q b t) := by
  have c10 : ¬ cn 1 = (0 : Int32) := by decide
  have c00 : cn 0 = (0 : Int32) := rfl
  obtain ⟨g1, e1⟩ := isBook_e (q := q) (b := b)
  unfold kBk v12_best bv12_best g12_best bg12_best
  rw [e1]
  by_cases h1 : isW b (cn 0) (cn 5) = 0
  · simp only [if_pos h1, if_pos c00]
    exact ⟨⟨g1, trivial⟩, rfl, fun h => absurd h (by decide)⟩
  · simp only [if_neg h1, if_neg c10]
    obtain ⟨b, hb, rfl⟩ := isW_n (b := 5) (by decide) h1
    rw [book_e p (by omega)]
    refine ⟨⟨g1, g_bestQ _ _ _ _, trivial⟩, rfl, fun _ => ⟨⟨g_book p (by omega), g_bestP _ _ _ _⟩, ?_⟩⟩
    exact (best_eq (b := b) (by omega) (ww_th (cn 0) H).1.1 t (cn 1)).symm
theorem ask_stateOf (H : WW p q lg 99 99 (fun _ => False) N T D 6 (fun _ => 0)) : g12_stateOf q v ∧ AsR q 0 (g6_find p v) (if v6_find p v = 0 then cn 0 else p.1 10 (v6_find p v) 2) (v12_stateOf q v) := by
  have W0 := ww_th (cn 0) H
  obtain ⟨⟨g1, g2⟩, hf⟩ := find_eq W0.1.1 W0.1.2.1 v
  unfold v12_stateOf bv12_stateOf g12_stateOf bg12_stateOf
  dsimp only
  rcases hf with ⟨f1, f2⟩ | ⟨j, hj, f1, f2, f3, f4⟩
  · have n1 : cn (-1) < (0 : Int32) := by decide
    simp only [f1, f2, if_pos n1, if_true]
    exact ⟨⟨g2, trivial⟩, rfl, fun _ => ⟨g1, rfl⟩⟩
  · have hzj : ¬ j + 1 = 0 := by omega
    have nj : ¬ cn (j : Int) < 0 := cnge (by omega)
    have i44 := cninb (i := j) (n := 44) (by omega) (by omega)
    obtain ⟨_, a, b, r, s, z, hL⟩ := slot_live (W0.1.1.1 j hj) (by rw [f3]; exact cn01)
    have hst := hL.2.2.2.2.2.2.2.2.2.2.2.2
    simp only [f1, f2, if_neg hzj, if_neg nj, cntk (i := j) (by omega)]
    refine ⟨⟨g2, i44, trivial⟩, rfl, fun _ => ⟨g1, ?_⟩⟩
    rcases hst with ⟨x1, -⟩ | ⟨-, x2, x3, -⟩ | ⟨-, x2, x3, -⟩
    · omega
    · rw [x2, x3]
    · rw [x2, x3]
theorem ask_rest (H : WW p q lg 99 99 (fun _ => False) N T D 6 (fun _ => 0)) : g12_rest q v ∧ AsR q (kFind p v) (g6_find p v) (p.1 10 (v6_find p v) 9) (v12_rest q v) := by
  obtain ⟨⟨g1, g2⟩, hf⟩ := find_eq H.1.1 H.1.2.1 v
  unfold kFind v12_rest bv12_rest g12_rest bg12_rest
  dsimp only
  rcases hf with ⟨f1, f2⟩ | ⟨j, hj, f1, f2, f3, f4⟩
  · have n1 : cn (-1) < (0 : Int32) := by decide
    simp only [f1, f2, if_pos n1, if_true]
    exact ⟨⟨g2, trivial⟩, rfl, fun h => absurd h (by decide)⟩
  · have hzj : ¬ j + 1 = 0 := by omega
    have nj : ¬ cn (j : Int) < 0 := cnge (by omega)
    have i44 := cninb (i := j) (n := 44) (by omega) (by omega)
    obtain ⟨_, a, b, r, s, z, hL⟩ := slot_live (H.1.1.1 j hj) (by rw [f3]; exact cn01)
    have hr := hL.2.2.2.2.2.2.2.1
    simp only [f1, f2, if_neg hzj, if_neg nj, cntk (i := j) (by omega)]
    refine ⟨⟨g2, i44, trivial⟩, rfl, fun _ => ⟨g1, ?_⟩⟩
    rw [th_k (by decide), hr.2.2.1, hr.2.2.2]
theorem ask_priceOf (H : WW p q lg 99 99 (fun _ => False) N T D 6 (fun _ => 0)) : g12_priceOf q v ∧ AsR q (kFind p v) (g6_find p v) (p.1 10 (v6_find p v) 7) (v12_priceOf q v) := by
  obtain ⟨⟨g1, g2⟩, hf⟩ := find_eq H.1.1 H.1.2.1 v
  unfold kFind v12_priceOf bv12_priceOf g12_priceOf bg12_priceOf
  dsimp only
  rcases hf with ⟨f1, f2⟩ | ⟨j, hj, f1, f2, f3, f4⟩
  · have n1 : cn (-1) < (0 : Int32) := by decide
    simp only [f1, f2, if_pos n1, if_true]
    exact ⟨⟨g2, trivial⟩, rfl, fun h => absurd h (by decide)⟩
  · have hzj : ¬ j + 1 = 0 := by omega
    have nj : ¬ cn (j : Int) < 0 := cnge (by omega)
    have i44 := cninb (i := j) (n := 44) (by omega) (by omega)
    obtain ⟨_, a, b, r, s, z, hL⟩ := slot_live (H.1.1.1 j hj) (by rw [f3]; exact cn01)
    have hst := hL.2.2.2.2.2.2.2.2.2.2.2.2
    have k13 : (pI q 12 1 0 (cn 0)).1 13 = q.1 13 := th_k (by decide)
    have k15 : (pI q 12 1 0 (cn 0)).1 15 = q.1 15 := th_k (by decide)
    have c21 : ¬ cn 2 = cn 1 := by decide
    have t11 : cn 1 = cn 1 := rfl
    simp only [f1, f2, if_neg hzj, if_neg nj, cntk (i := j) (by omega), k13, k15]
    rcases hst with ⟨x1, -⟩ | ⟨-, x2, x3, w, x4, x5, -⟩ | ⟨-, x2, x3, x4, -⟩
    · omega
    · simp only [x3, if_true]
      rcases x5 with ⟨y1, y2⟩ | ⟨y1, y2, y3, -⟩
      · have y0 : ¬ q.1 15 5 j = 0 := by
          rw [y1]
          exact cn01
        simp only [if_neg y0]
        refine ⟨⟨g2, i44, i44, trivial⟩, rfl, fun _ => ⟨g1, ?_⟩⟩
        rw [x4, y2]
      · have y0 : q.1 15 5 j = 0 := y1
        simp only [if_pos y0]
        refine ⟨⟨g2, i44, i44, i44, trivial⟩, rfl, fun _ => ⟨g1, ?_⟩⟩
        rw [x4, y3]
    · simp only [x3, if_neg c21]
      refine ⟨⟨g2, i44, trivial⟩, rfl, fun _ => ⟨g1, ?_⟩⟩
      rw [x4]
end Ask2
