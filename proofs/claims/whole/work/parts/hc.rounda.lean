/-! a round of the law: events -/
section Rounda
variable {P0 P1 Q : PM} {cl lg : Nat → Int32} {N T D t f g i L e : Nat} {xs : Nat → Int32} {ou : Int64} {j5 j6 j7 : AV}
theorem rd_0 (J : JN lg P0 P1 Q cl N T D t f g) (ht : t < 512) (hi : i + 7 ≤ L) (hL : L ≤ 3584) : RND 244 i L xs e t j5 j6 j7 (mm P0 P1 Q cl (cn t) (cn f) (cn g) ou L xs e) := by
  obtain ⟨HO, ga, r, Q2, ea, ez, hgq, S1, S2⟩ := sem_ev (a := (xs (i + 1))) (b := (xs (i + 2))) (c := (xs (i + 3))) (d := (xs (i + 4))) (x := (xs (i + 5))) (y := (xs (i + 6))) (k := 0) (by decide) ht J
  have ekk : cn ((0 : Nat) : Int) = cn 0 := rfl
  rw [ekk] at ea ga
  have hF := fc_0 (P1 := P1) (Q := Q) (cl := cl) (kp := cn f) (fo := cn g) (ou := ou) (L := L) (xs := xs) (e := e) (a := (xs (i + 1))) (b := (xs (i + 2))) (c := (xs (i + 3))) (d := (xs (i + 4))) (x := (xs (i + 5))) (f := (xs (i + 6))) J.1 ht J.2.1.1 HO
  have hc4 := kE_lt P0 (xs (i + 1)) (xs (i + 2)) (xs (i + 3)) (xs (i + 4)) (xs (i + 5)) (xs (i + 6)) 0
  have hc : kLimit P0 (xs (i + 1)) (xs (i + 2)) (xs (i + 3)) (xs (i + 4)) (xs (i + 5)) (xs (i + 6)) ≤ 3 := Nat.le_of_lt_succ hc4
  have hW := wr_379 hc hF
  have e12 : v12_limit Q (xs (i + 1)) (xs (i + 2)) (xs (i + 3)) (xs (i + 4)) (xs (i + 5)) (xs (i + 6)) = (r, Q2) := by unfold v12_limit bv12_limit; dsimp only; rw [ea]
  have g12 : g12_limit Q (xs (i + 1)) (xs (i + 2)) (xs (i + 3)) (xs (i + 4)) (xs (i + 5)) (xs (i + 6)) := by unfold g12_limit bg12_limit; exact ⟨ga, True.intro⟩
  have z12 := t12_limit Q (xs (i + 1)) (xs (i + 2)) (xs (i + 3)) (xs (i + 4)) (xs (i + 5)) (xs (i + 6)) J.2.1.2.2 g12
  rw [e12] at z12
  clear e12 g12 ga ea
  have hth : v12_thrown Q2 = cn (kLimit P0 (xs (i + 1)) (xs (i + 2)) (xs (i + 3)) (xs (i + 4)) (xs (i + 5)) (xs (i + 6)) : Nat) := ez
  have zth := t12_thrown Q2 hgq True.intro
  rw [hth] at zth
  by_cases h0 : kLimit P0 (xs (i + 1)) (xs (i + 2)) (xs (i + 3)) (xs (i + 4)) (xs (i + 5)) (xs (i + 6)) = 0
  · obtain ⟨er, I2⟩ := S1 h0
    rw [h0] at hW zth
    rw [if_pos rfl, mm_ou] at hW
    have hx2 := x_hI (M := mm (v5_work (vE P0 (xs (i + 1)) (xs (i + 2)) (xs (i + 3)) (xs (i + 4)) (xs (i + 5)) (xs (i + 6)) 0).2) P1 Q (clw cl t (cn ((0 + 1 : Nat) : Int)) (xs (i + 1)) (xs (i + 2)) (xs (i + 3)) (xs (i + 4)) (xs (i + 5)) (xs (i + 6))) (cn ((t + 1 : Nat) : Int)) (cn f) (cn g) (vE P0 (xs (i + 1)) (xs (i + 2)) (xs (i + 3)) (xs (i + 4)) (xs (i + 5)) (xs (i + 6)) 0).1.toInt64 L xs e) okx2 z12 mm_2
    have hx3 := x_I (M := mm (v5_work (vE P0 (xs (i + 1)) (xs (i + 2)) (xs (i + 3)) (xs (i + 4)) (xs (i + 5)) (xs (i + 6)) 0).2) P1 Q2 (clw cl t (cn ((0 + 1 : Nat) : Int)) (xs (i + 1)) (xs (i + 2)) (xs (i + 3)) (xs (i + 4)) (xs (i + 5)) (xs (i + 6))) (cn ((t + 1 : Nat) : Int)) (cn f) (cn g) (vE P0 (xs (i + 1)) (xs (i + 2)) (xs (i + 3)) (xs (i + 4)) (xs (i + 5)) (xs (i + 6)) 0).1.toInt64 L xs e) okx2 zth
    subst er
    obtain ⟨u5, u6, u7, hX⟩ := lw_0 (code := 0) (j5 := j5) (j6 := j6) (j7 := j7) hi hL scr_mm scr_mm (by decide) hW hx2 hx3 (fun _ => rfl)
    exact ⟨_, _, _, _, t + 1, f, g, _, e, u5, u6, u7, I2, by omega, by omega, hX⟩
  · have I2 := S2 h0
    rw [if_neg h0, mm_e] at hW
    have hx2 := x_hI (M := mm P0 P1 Q cl (cn t) (cn f) (cn g) ou L xs (e + 1)) okx2 z12 mm_2
    have hx3 := x_I (M := mm P0 P1 Q2 cl (cn t) (cn f) (cn g) ou L xs (e + 1)) okx2 zth
    obtain ⟨u5, u6, u7, hX⟩ := lw_0 (code := kLimit P0 (xs (i + 1)) (xs (i + 2)) (xs (i + 3)) (xs (i + 4)) (xs (i + 5)) (xs (i + 6))) (j5 := j5) (j6 := j6) (j7 := j7) hi hL scr_mm scr_mm hc4 hW hx2 hx3 (fun h => absurd h h0)
    exact ⟨_, _, _, _, t, f, g, _, e + 1, u5, u6, u7, I2, by omega, by omega, hX⟩
theorem rd_1 (J : JN lg P0 P1 Q cl N T D t f g) (ht : t < 512) (hi : i + 7 ≤ L) (hL : L ≤ 3584) : RND 362 i L xs e t j5 j6 j7 (mm P0 P1 Q cl (cn t) (cn f) (cn g) ou L xs e) := by
  obtain ⟨HO, ga, r, Q2, ea, ez, hgq, S1, S2⟩ := sem_ev (a := (xs (i + 1))) (b := (xs (i + 2))) (c := (xs (i + 3))) (d := (cn 0)) (x := (cn 0)) (y := (cn 0)) (k := 1) (by decide) ht J
  have ekk : cn ((1 : Nat) : Int) = cn 1 := rfl
  rw [ekk] at ea ga
  have hF := fc_1 (P1 := P1) (Q := Q) (cl := cl) (kp := cn f) (fo := cn g) (ou := ou) (L := L) (xs := xs) (e := e) (a := (xs (i + 1))) (b := (xs (i + 2))) (c := (xs (i + 3))) J.1 ht J.2.1.1 HO
  have hc4 := kE_lt P0 (xs (i + 1)) (xs (i + 2)) (xs (i + 3)) (cn 0) (cn 0) (cn 0) 1
  have hc : kMarket P0 (xs (i + 1)) (xs (i + 2)) (xs (i + 3)) ≤ 3 := Nat.le_of_lt_succ hc4
  have hW := wr_380 hc hF
  have e12 : v12_market Q (xs (i + 1)) (xs (i + 2)) (xs (i + 3)) = (r, Q2) := by unfold v12_market bv12_market; dsimp only; rw [ea]
  have g12 : g12_market Q (xs (i + 1)) (xs (i + 2)) (xs (i + 3)) := by unfold g12_market bg12_market; exact ⟨ga, True.intro⟩
  have z12 := t12_market Q (xs (i + 1)) (xs (i + 2)) (xs (i + 3)) J.2.1.2.2 g12
  rw [e12] at z12
  clear e12 g12 ga ea
  have hth : v12_thrown Q2 = cn (kMarket P0 (xs (i + 1)) (xs (i + 2)) (xs (i + 3)) : Nat) := ez
  have zth := t12_thrown Q2 hgq True.intro
  rw [hth] at zth
  by_cases h0 : kMarket P0 (xs (i + 1)) (xs (i + 2)) (xs (i + 3)) = 0
  · obtain ⟨er, I2⟩ := S1 h0
    rw [h0] at hW zth
    rw [if_pos rfl, mm_ou] at hW
    have hx2 := x_hI (M := mm (v5_work (vE P0 (xs (i + 1)) (xs (i + 2)) (xs (i + 3)) (cn 0) (cn 0) (cn 0) 1).2) P1 Q (clw cl t (cn ((1 + 1 : Nat) : Int)) (xs (i + 1)) (xs (i + 2)) (xs (i + 3)) (cn 0) (cn 0) (cn 0)) (cn ((t + 1 : Nat) : Int)) (cn f) (cn g) (vE P0 (xs (i + 1)) (xs (i + 2)) (xs (i + 3)) (cn 0) (cn 0) (cn 0) 1).1.toInt64 L xs e) okx2 z12 mm_2
    have hx3 := x_I (M := mm (v5_work (vE P0 (xs (i + 1)) (xs (i + 2)) (xs (i + 3)) (cn 0) (cn 0) (cn 0) 1).2) P1 Q2 (clw cl t (cn ((1 + 1 : Nat) : Int)) (xs (i + 1)) (xs (i + 2)) (xs (i + 3)) (cn 0) (cn 0) (cn 0)) (cn ((t + 1 : Nat) : Int)) (cn f) (cn g) (vE P0 (xs (i + 1)) (xs (i + 2)) (xs (i + 3)) (cn 0) (cn 0) (cn 0) 1).1.toInt64 L xs e) okx2 zth
    subst er
    obtain ⟨u5, u6, u7, hX⟩ := lw_1 (code := 0) (j5 := j5) (j6 := j6) (j7 := j7) hi hL scr_mm scr_mm (by decide) hW hx2 hx3 (fun _ => rfl)
    exact ⟨_, _, _, _, t + 1, f, g, _, e, u5, u6, u7, I2, by omega, by omega, hX⟩
  · have I2 := S2 h0
    rw [if_neg h0, mm_e] at hW
    have hx2 := x_hI (M := mm P0 P1 Q cl (cn t) (cn f) (cn g) ou L xs (e + 1)) okx2 z12 mm_2
    have hx3 := x_I (M := mm P0 P1 Q2 cl (cn t) (cn f) (cn g) ou L xs (e + 1)) okx2 zth
    obtain ⟨u5, u6, u7, hX⟩ := lw_1 (code := kMarket P0 (xs (i + 1)) (xs (i + 2)) (xs (i + 3))) (j5 := j5) (j6 := j6) (j7 := j7) hi hL scr_mm scr_mm hc4 hW hx2 hx3 (fun h => absurd h h0)
    exact ⟨_, _, _, _, t, f, g, _, e + 1, u5, u6, u7, I2, by omega, by omega, hX⟩
theorem rd_2 (J : JN lg P0 P1 Q cl N T D t f g) (ht : t < 512) (hi : i + 7 ≤ L) (hL : L ≤ 3584) : RND 442 i L xs e t j5 j6 j7 (mm P0 P1 Q cl (cn t) (cn f) (cn g) ou L xs e) := by
  obtain ⟨HO, ga, r, Q2, ea, ez, hgq, S1, S2⟩ := sem_ev (a := (xs (i + 1))) (b := (xs (i + 2))) (c := (xs (i + 3))) (d := (xs (i + 4))) (x := (xs (i + 5))) (y := (cn 0)) (k := 2) (by decide) ht J
  have ekk : cn ((2 : Nat) : Int) = cn 2 := rfl
  rw [ekk] at ea ga
  have hF := fc_2 (P1 := P1) (Q := Q) (cl := cl) (kp := cn f) (fo := cn g) (ou := ou) (L := L) (xs := xs) (e := e) (a := (xs (i + 1))) (b := (xs (i + 2))) (c := (xs (i + 3))) (d := (xs (i + 4))) (x := (xs (i + 5))) J.1 ht J.2.1.1 HO
  have hc4 := kE_lt P0 (xs (i + 1)) (xs (i + 2)) (xs (i + 3)) (xs (i + 4)) (xs (i + 5)) (cn 0) 2
  have hc : kIceberg P0 (xs (i + 1)) (xs (i + 2)) (xs (i + 3)) (xs (i + 4)) (xs (i + 5)) ≤ 3 := Nat.le_of_lt_succ hc4
  have hW := wr_381 hc hF
  have e12 : v12_iceberg Q (xs (i + 1)) (xs (i + 2)) (xs (i + 3)) (xs (i + 4)) (xs (i + 5)) = (r, Q2) := by unfold v12_iceberg bv12_iceberg; dsimp only; rw [ea]
  have g12 : g12_iceberg Q (xs (i + 1)) (xs (i + 2)) (xs (i + 3)) (xs (i + 4)) (xs (i + 5)) := by unfold g12_iceberg bg12_iceberg; exact ⟨ga, True.intro⟩
  have z12 := t12_iceberg Q (xs (i + 1)) (xs (i + 2)) (xs (i + 3)) (xs (i + 4)) (xs (i + 5)) J.2.1.2.2 g12
  rw [e12] at z12
  clear e12 g12 ga ea
  have hth : v12_thrown Q2 = cn (kIceberg P0 (xs (i + 1)) (xs (i + 2)) (xs (i + 3)) (xs (i + 4)) (xs (i + 5)) : Nat) := ez
  have zth := t12_thrown Q2 hgq True.intro
  rw [hth] at zth
  by_cases h0 : kIceberg P0 (xs (i + 1)) (xs (i + 2)) (xs (i + 3)) (xs (i + 4)) (xs (i + 5)) = 0
  · obtain ⟨er, I2⟩ := S1 h0
    rw [h0] at hW zth
    rw [if_pos rfl, mm_ou] at hW
    have hx2 := x_hI (M := mm (v5_work (vE P0 (xs (i + 1)) (xs (i + 2)) (xs (i + 3)) (xs (i + 4)) (xs (i + 5)) (cn 0) 2).2) P1 Q (clw cl t (cn ((2 + 1 : Nat) : Int)) (xs (i + 1)) (xs (i + 2)) (xs (i + 3)) (xs (i + 4)) (xs (i + 5)) (cn 0)) (cn ((t + 1 : Nat) : Int)) (cn f) (cn g) (vE P0 (xs (i + 1)) (xs (i + 2)) (xs (i + 3)) (xs (i + 4)) (xs (i + 5)) (cn 0) 2).1.toInt64 L xs e) okx2 z12 mm_2
    have hx3 := x_I (M := mm (v5_work (vE P0 (xs (i + 1)) (xs (i + 2)) (xs (i + 3)) (xs (i + 4)) (xs (i + 5)) (cn 0) 2).2) P1 Q2 (clw cl t (cn ((2 + 1 : Nat) : Int)) (xs (i + 1)) (xs (i + 2)) (xs (i + 3)) (xs (i + 4)) (xs (i + 5)) (cn 0)) (cn ((t + 1 : Nat) : Int)) (cn f) (cn g) (vE P0 (xs (i + 1)) (xs (i + 2)) (xs (i + 3)) (xs (i + 4)) (xs (i + 5)) (cn 0) 2).1.toInt64 L xs e) okx2 zth
    subst er
    obtain ⟨u5, u6, u7, hX⟩ := lw_2 (code := 0) (j5 := j5) (j6 := j6) (j7 := j7) hi hL scr_mm scr_mm (by decide) hW hx2 hx3 (fun _ => rfl)
    exact ⟨_, _, _, _, t + 1, f, g, _, e, u5, u6, u7, I2, by omega, by omega, hX⟩
  · have I2 := S2 h0
    rw [if_neg h0, mm_e] at hW
    have hx2 := x_hI (M := mm P0 P1 Q cl (cn t) (cn f) (cn g) ou L xs (e + 1)) okx2 z12 mm_2
    have hx3 := x_I (M := mm P0 P1 Q2 cl (cn t) (cn f) (cn g) ou L xs (e + 1)) okx2 zth
    obtain ⟨u5, u6, u7, hX⟩ := lw_2 (code := kIceberg P0 (xs (i + 1)) (xs (i + 2)) (xs (i + 3)) (xs (i + 4)) (xs (i + 5))) (j5 := j5) (j6 := j6) (j7 := j7) hi hL scr_mm scr_mm hc4 hW hx2 hx3 (fun h => absurd h h0)
    exact ⟨_, _, _, _, t, f, g, _, e + 1, u5, u6, u7, I2, by omega, by omega, hX⟩
theorem rd_3 (J : JN lg P0 P1 Q cl N T D t f g) (ht : t < 512) (hi : i + 7 ≤ L) (hL : L ≤ 3584) : RND 546 i L xs e t j5 j6 j7 (mm P0 P1 Q cl (cn t) (cn f) (cn g) ou L xs e) := by
  obtain ⟨HO, ga, r, Q2, ea, ez, hgq, S1, S2⟩ := sem_ev (a := (xs (i + 1))) (b := (xs (i + 2))) (c := (xs (i + 3))) (d := (xs (i + 4))) (x := (xs (i + 5))) (y := (cn 0)) (k := 3) (by decide) ht J
  have ekk : cn ((3 : Nat) : Int) = cn 3 := rfl
  rw [ekk] at ea ga
  have hF := fc_3 (P1 := P1) (Q := Q) (cl := cl) (kp := cn f) (fo := cn g) (ou := ou) (L := L) (xs := xs) (e := e) (a := (xs (i + 1))) (b := (xs (i + 2))) (c := (xs (i + 3))) (d := (xs (i + 4))) (x := (xs (i + 5))) J.1 ht J.2.1.1 HO
  have hc4 := kE_lt P0 (xs (i + 1)) (xs (i + 2)) (xs (i + 3)) (xs (i + 4)) (xs (i + 5)) (cn 0) 3
  have hc : kPeg P0 (xs (i + 1)) (xs (i + 2)) (xs (i + 3)) (xs (i + 4)) (xs (i + 5)) ≤ 3 := Nat.le_of_lt_succ hc4
  have hW := wr_382 hc hF
  have e12 : v12_peg Q (xs (i + 1)) (xs (i + 2)) (xs (i + 3)) (xs (i + 4)) (xs (i + 5)) = (r, Q2) := by unfold v12_peg bv12_peg; dsimp only; rw [ea]
  have g12 : g12_peg Q (xs (i + 1)) (xs (i + 2)) (xs (i + 3)) (xs (i + 4)) (xs (i + 5)) := by unfold g12_peg bg12_peg; exact ⟨ga, True.intro⟩
  have z12 := t12_peg Q (xs (i + 1)) (xs (i + 2)) (xs (i + 3)) (xs (i + 4)) (xs (i + 5)) J.2.1.2.2 g12
  rw [e12] at z12
  clear e12 g12 ga ea
  have hth : v12_thrown Q2 = cn (kPeg P0 (xs (i + 1)) (xs (i + 2)) (xs (i + 3)) (xs (i + 4)) (xs (i + 5)) : Nat) := ez
  have zth := t12_thrown Q2 hgq True.intro
  rw [hth] at zth
  by_cases h0 : kPeg P0 (xs (i + 1)) (xs (i + 2)) (xs (i + 3)) (xs (i + 4)) (xs (i + 5)) = 0
  · obtain ⟨er, I2⟩ := S1 h0
    rw [h0] at hW zth
    rw [if_pos rfl, mm_ou] at hW
    have hx2 := x_hI (M := mm (v5_work (vE P0 (xs (i + 1)) (xs (i + 2)) (xs (i + 3)) (xs (i + 4)) (xs (i + 5)) (cn 0) 3).2) P1 Q (clw cl t (cn ((3 + 1 : Nat) : Int)) (xs (i + 1)) (xs (i + 2)) (xs (i + 3)) (xs (i + 4)) (xs (i + 5)) (cn 0)) (cn ((t + 1 : Nat) : Int)) (cn f) (cn g) (vE P0 (xs (i + 1)) (xs (i + 2)) (xs (i + 3)) (xs (i + 4)) (xs (i + 5)) (cn 0) 3).1.toInt64 L xs e) okx2 z12 mm_2
    have hx3 := x_I (M := mm (v5_work (vE P0 (xs (i + 1)) (xs (i + 2)) (xs (i + 3)) (xs (i + 4)) (xs (i + 5)) (cn 0) 3).2) P1 Q2 (clw cl t (cn ((3 + 1 : Nat) : Int)) (xs (i + 1)) (xs (i + 2)) (xs (i + 3)) (xs (i + 4)) (xs (i + 5)) (cn 0)) (cn ((t + 1 : Nat) : Int)) (cn f) (cn g) (vE P0 (xs (i + 1)) (xs (i + 2)) (xs (i + 3)) (xs (i + 4)) (xs (i + 5)) (cn 0) 3).1.toInt64 L xs e) okx2 zth
    subst er
    obtain ⟨u5, u6, u7, hX⟩ := lw_3 (code := 0) (j5 := j5) (j6 := j6) (j7 := j7) hi hL scr_mm scr_mm (by decide) hW hx2 hx3 (fun _ => rfl)
    exact ⟨_, _, _, _, t + 1, f, g, _, e, u5, u6, u7, I2, by omega, by omega, hX⟩
  · have I2 := S2 h0
    rw [if_neg h0, mm_e] at hW
    have hx2 := x_hI (M := mm P0 P1 Q cl (cn t) (cn f) (cn g) ou L xs (e + 1)) okx2 z12 mm_2
    have hx3 := x_I (M := mm P0 P1 Q2 cl (cn t) (cn f) (cn g) ou L xs (e + 1)) okx2 zth
    obtain ⟨u5, u6, u7, hX⟩ := lw_3 (code := kPeg P0 (xs (i + 1)) (xs (i + 2)) (xs (i + 3)) (xs (i + 4)) (xs (i + 5))) (j5 := j5) (j6 := j6) (j7 := j7) hi hL scr_mm scr_mm hc4 hW hx2 hx3 (fun h => absurd h h0)
    exact ⟨_, _, _, _, t, f, g, _, e + 1, u5, u6, u7, I2, by omega, by omega, hX⟩
theorem rd_4 (J : JN lg P0 P1 Q cl N T D t f g) (ht : t < 512) (hi : i + 7 ≤ L) (hL : L ≤ 3584) : RND 650 i L xs e t j5 j6 j7 (mm P0 P1 Q cl (cn t) (cn f) (cn g) ou L xs e) := by
  obtain ⟨HO, ga, r, Q2, ea, ez, hgq, S1, S2⟩ := sem_ev (a := (xs (i + 1))) (b := (xs (i + 2))) (c := (xs (i + 3))) (d := (xs (i + 4))) (x := (xs (i + 5))) (y := (cn 0)) (k := 4) (by decide) ht J
  have ekk : cn ((4 : Nat) : Int) = cn 4 := rfl
  rw [ekk] at ea ga
  have hF := fc_4 (P1 := P1) (Q := Q) (cl := cl) (kp := cn f) (fo := cn g) (ou := ou) (L := L) (xs := xs) (e := e) (a := (xs (i + 1))) (b := (xs (i + 2))) (c := (xs (i + 3))) (d := (xs (i + 4))) (x := (xs (i + 5))) J.1 ht J.2.1.1 HO
  have hc4 := kE_lt P0 (xs (i + 1)) (xs (i + 2)) (xs (i + 3)) (xs (i + 4)) (xs (i + 5)) (cn 0) 4
  have hc : kStop P0 (xs (i + 1)) (xs (i + 2)) (xs (i + 3)) (xs (i + 4)) (xs (i + 5)) ≤ 3 := Nat.le_of_lt_succ hc4
  have hW := wr_383 hc hF
  have e12 : v12_stop Q (xs (i + 1)) (xs (i + 2)) (xs (i + 3)) (xs (i + 4)) (xs (i + 5)) = (r, Q2) := by unfold v12_stop bv12_stop; dsimp only; rw [ea]
  have g12 : g12_stop Q (xs (i + 1)) (xs (i + 2)) (xs (i + 3)) (xs (i + 4)) (xs (i + 5)) := by unfold g12_stop bg12_stop; exact ⟨ga, True.intro⟩
  have z12 := t12_stop Q (xs (i + 1)) (xs (i + 2)) (xs (i + 3)) (xs (i + 4)) (xs (i + 5)) J.2.1.2.2 g12
  rw [e12] at z12
  clear e12 g12 ga ea
  have hth : v12_thrown Q2 = cn (kStop P0 (xs (i + 1)) (xs (i + 2)) (xs (i + 3)) (xs (i + 4)) (xs (i + 5)) : Nat) := ez
  have zth := t12_thrown Q2 hgq True.intro
  rw [hth] at zth
  by_cases h0 : kStop P0 (xs (i + 1)) (xs (i + 2)) (xs (i + 3)) (xs (i + 4)) (xs (i + 5)) = 0
  · obtain ⟨er, I2⟩ := S1 h0
    rw [h0] at hW zth
    rw [if_pos rfl, mm_ou] at hW
    have hx2 := x_hI (M := mm (v5_work (vE P0 (xs (i + 1)) (xs (i + 2)) (xs (i + 3)) (xs (i + 4)) (xs (i + 5)) (cn 0) 4).2) P1 Q (clw cl t (cn ((4 + 1 : Nat) : Int)) (xs (i + 1)) (xs (i + 2)) (xs (i + 3)) (xs (i + 4)) (xs (i + 5)) (cn 0)) (cn ((t + 1 : Nat) : Int)) (cn f) (cn g) (vE P0 (xs (i + 1)) (xs (i + 2)) (xs (i + 3)) (xs (i + 4)) (xs (i + 5)) (cn 0) 4).1.toInt64 L xs e) okx2 z12 mm_2
    have hx3 := x_I (M := mm (v5_work (vE P0 (xs (i + 1)) (xs (i + 2)) (xs (i + 3)) (xs (i + 4)) (xs (i + 5)) (cn 0) 4).2) P1 Q2 (clw cl t (cn ((4 + 1 : Nat) : Int)) (xs (i + 1)) (xs (i + 2)) (xs (i + 3)) (xs (i + 4)) (xs (i + 5)) (cn 0)) (cn ((t + 1 : Nat) : Int)) (cn f) (cn g) (vE P0 (xs (i + 1)) (xs (i + 2)) (xs (i + 3)) (xs (i + 4)) (xs (i + 5)) (cn 0) 4).1.toInt64 L xs e) okx2 zth
    subst er
    obtain ⟨u5, u6, u7, hX⟩ := lw_4 (code := 0) (j5 := j5) (j6 := j6) (j7 := j7) hi hL scr_mm scr_mm (by decide) hW hx2 hx3 (fun _ => rfl)
    exact ⟨_, _, _, _, t + 1, f, g, _, e, u5, u6, u7, I2, by omega, by omega, hX⟩
  · have I2 := S2 h0
    rw [if_neg h0, mm_e] at hW
    have hx2 := x_hI (M := mm P0 P1 Q cl (cn t) (cn f) (cn g) ou L xs (e + 1)) okx2 z12 mm_2
    have hx3 := x_I (M := mm P0 P1 Q2 cl (cn t) (cn f) (cn g) ou L xs (e + 1)) okx2 zth
    obtain ⟨u5, u6, u7, hX⟩ := lw_4 (code := kStop P0 (xs (i + 1)) (xs (i + 2)) (xs (i + 3)) (xs (i + 4)) (xs (i + 5))) (j5 := j5) (j6 := j6) (j7 := j7) hi hL scr_mm scr_mm hc4 hW hx2 hx3 (fun h => absurd h h0)
    exact ⟨_, _, _, _, t, f, g, _, e + 1, u5, u6, u7, I2, by omega, by omega, hX⟩
theorem rd_5 (J : JN lg P0 P1 Q cl N T D t f g) (ht : t < 512) (hi : i + 7 ≤ L) (hL : L ≤ 3584) : RND 754 i L xs e t j5 j6 j7 (mm P0 P1 Q cl (cn t) (cn f) (cn g) ou L xs e) := by
  obtain ⟨HO, ga, r, Q2, ea, ez, hgq, S1, S2⟩ := sem_ev (a := (xs (i + 1))) (b := (xs (i + 2))) (c := (xs (i + 3))) (d := (xs (i + 4))) (x := (xs (i + 5))) (y := (cn 0)) (k := 5) (by decide) ht J
  have ekk : cn ((5 : Nat) : Int) = cn 5 := rfl
  rw [ekk] at ea ga
  have hF := fc_5 (P1 := P1) (Q := Q) (cl := cl) (kp := cn f) (fo := cn g) (ou := ou) (L := L) (xs := xs) (e := e) (a := (xs (i + 1))) (b := (xs (i + 2))) (c := (xs (i + 3))) (d := (xs (i + 4))) (x := (xs (i + 5))) J.1 ht J.2.1.1 HO
  have hc4 := kE_lt P0 (xs (i + 1)) (xs (i + 2)) (xs (i + 3)) (xs (i + 4)) (xs (i + 5)) (cn 0) 5
  have hc : kQuote P0 (xs (i + 1)) (xs (i + 2)) (xs (i + 3)) (xs (i + 4)) (xs (i + 5)) ≤ 3 := Nat.le_of_lt_succ hc4
  have hW := wr_384 hc hF
  have e12 : v12_quote Q (xs (i + 1)) (xs (i + 2)) (xs (i + 3)) (xs (i + 4)) (xs (i + 5)) = (r, Q2) := by unfold v12_quote bv12_quote; dsimp only; rw [ea]
  have g12 : g12_quote Q (xs (i + 1)) (xs (i + 2)) (xs (i + 3)) (xs (i + 4)) (xs (i + 5)) := by unfold g12_quote bg12_quote; exact ⟨ga, True.intro⟩
  have z12 := t12_quote Q (xs (i + 1)) (xs (i + 2)) (xs (i + 3)) (xs (i + 4)) (xs (i + 5)) J.2.1.2.2 g12
  rw [e12] at z12
  clear e12 g12 ga ea
  have hth : v12_thrown Q2 = cn (kQuote P0 (xs (i + 1)) (xs (i + 2)) (xs (i + 3)) (xs (i + 4)) (xs (i + 5)) : Nat) := ez
  have zth := t12_thrown Q2 hgq True.intro
  rw [hth] at zth
  by_cases h0 : kQuote P0 (xs (i + 1)) (xs (i + 2)) (xs (i + 3)) (xs (i + 4)) (xs (i + 5)) = 0
  · obtain ⟨er, I2⟩ := S1 h0
    rw [h0] at hW zth
    rw [if_pos rfl, mm_ou] at hW
    have hx2 := x_hI (M := mm (v5_work (vE P0 (xs (i + 1)) (xs (i + 2)) (xs (i + 3)) (xs (i + 4)) (xs (i + 5)) (cn 0) 5).2) P1 Q (clw cl t (cn ((5 + 1 : Nat) : Int)) (xs (i + 1)) (xs (i + 2)) (xs (i + 3)) (xs (i + 4)) (xs (i + 5)) (cn 0)) (cn ((t + 1 : Nat) : Int)) (cn f) (cn g) (vE P0 (xs (i + 1)) (xs (i + 2)) (xs (i + 3)) (xs (i + 4)) (xs (i + 5)) (cn 0) 5).1.toInt64 L xs e) okx2 z12 mm_2
    have hx3 := x_I (M := mm (v5_work (vE P0 (xs (i + 1)) (xs (i + 2)) (xs (i + 3)) (xs (i + 4)) (xs (i + 5)) (cn 0) 5).2) P1 Q2 (clw cl t (cn ((5 + 1 : Nat) : Int)) (xs (i + 1)) (xs (i + 2)) (xs (i + 3)) (xs (i + 4)) (xs (i + 5)) (cn 0)) (cn ((t + 1 : Nat) : Int)) (cn f) (cn g) (vE P0 (xs (i + 1)) (xs (i + 2)) (xs (i + 3)) (xs (i + 4)) (xs (i + 5)) (cn 0) 5).1.toInt64 L xs e) okx2 zth
    subst er
    obtain ⟨u5, u6, u7, hX⟩ := lw_5 (code := 0) (j5 := j5) (j6 := j6) (j7 := j7) hi hL scr_mm scr_mm (by decide) hW hx2 hx3 (fun _ => rfl)
    exact ⟨_, _, _, _, t + 1, f, g, _, e, u5, u6, u7, I2, by omega, by omega, hX⟩
  · have I2 := S2 h0
    rw [if_neg h0, mm_e] at hW
    have hx2 := x_hI (M := mm P0 P1 Q cl (cn t) (cn f) (cn g) ou L xs (e + 1)) okx2 z12 mm_2
    have hx3 := x_I (M := mm P0 P1 Q2 cl (cn t) (cn f) (cn g) ou L xs (e + 1)) okx2 zth
    obtain ⟨u5, u6, u7, hX⟩ := lw_5 (code := kQuote P0 (xs (i + 1)) (xs (i + 2)) (xs (i + 3)) (xs (i + 4)) (xs (i + 5))) (j5 := j5) (j6 := j6) (j7 := j7) hi hL scr_mm scr_mm hc4 hW hx2 hx3 (fun h => absurd h h0)
    exact ⟨_, _, _, _, t, f, g, _, e + 1, u5, u6, u7, I2, by omega, by omega, hX⟩
theorem rd_6 (J : JN lg P0 P1 Q cl N T D t f g) (ht : t < 512) (hi : i + 7 ≤ L) (hL : L ≤ 3584) : RND 858 i L xs e t j5 j6 j7 (mm P0 P1 Q cl (cn t) (cn f) (cn g) ou L xs e) := by
  obtain ⟨HO, ga, r, Q2, ea, ez, hgq, S1, S2⟩ := sem_ev (a := (xs (i + 1))) (b := (cn 0)) (c := (cn 0)) (d := (cn 0)) (x := (cn 0)) (y := (cn 0)) (k := 6) (by decide) ht J
  have ekk : cn ((6 : Nat) : Int) = cn 6 := rfl
  rw [ekk] at ea ga
  have hF := fc_6 (P1 := P1) (Q := Q) (cl := cl) (kp := cn f) (fo := cn g) (ou := ou) (L := L) (xs := xs) (e := e) (a := (xs (i + 1))) J.1 ht J.2.1.1 HO
  have hc4 := kE_lt P0 (xs (i + 1)) (cn 0) (cn 0) (cn 0) (cn 0) (cn 0) 6
  have hc : kCancel P0 (xs (i + 1)) ≤ 2 := by unfold kCancel; (repeat' split) <;> decide
  have hW := wr_385 hc hF
  have e12 : v12_cancel Q (xs (i + 1)) = (r, Q2) := by unfold v12_cancel bv12_cancel; dsimp only; rw [ea]
  have g12 : g12_cancel Q (xs (i + 1)) := by unfold g12_cancel bg12_cancel; exact ⟨ga, True.intro⟩
  have z12 := t12_cancel Q (xs (i + 1)) J.2.1.2.2 g12
  rw [e12] at z12
  clear e12 g12 ga ea
  have hth : v12_thrown Q2 = cn (kCancel P0 (xs (i + 1)) : Nat) := ez
  have zth := t12_thrown Q2 hgq True.intro
  rw [hth] at zth
  by_cases h0 : kCancel P0 (xs (i + 1)) = 0
  · obtain ⟨er, I2⟩ := S1 h0
    rw [h0] at hW zth
    rw [if_pos rfl, mm_ou] at hW
    have hx2 := x_hI (M := mm (v5_work (vE P0 (xs (i + 1)) (cn 0) (cn 0) (cn 0) (cn 0) (cn 0) 6).2) P1 Q (clw cl t (cn ((6 + 1 : Nat) : Int)) (xs (i + 1)) (cn 0) (cn 0) (cn 0) (cn 0) (cn 0)) (cn ((t + 1 : Nat) : Int)) (cn f) (cn g) (vE P0 (xs (i + 1)) (cn 0) (cn 0) (cn 0) (cn 0) (cn 0) 6).1.toInt64 L xs e) okx2 z12 mm_2
    have hx3 := x_I (M := mm (v5_work (vE P0 (xs (i + 1)) (cn 0) (cn 0) (cn 0) (cn 0) (cn 0) 6).2) P1 Q2 (clw cl t (cn ((6 + 1 : Nat) : Int)) (xs (i + 1)) (cn 0) (cn 0) (cn 0) (cn 0) (cn 0)) (cn ((t + 1 : Nat) : Int)) (cn f) (cn g) (vE P0 (xs (i + 1)) (cn 0) (cn 0) (cn 0) (cn 0) (cn 0) 6).1.toInt64 L xs e) okx2 zth
    subst er
    obtain ⟨u5, u6, u7, hX⟩ := lw_6 (code := 0) (j5 := j5) (j6 := j6) (j7 := j7) hi hL scr_mm scr_mm (by decide) hW hx2 hx3 (fun _ => rfl)
    exact ⟨_, _, _, _, t + 1, f, g, _, e, u5, u6, u7, I2, by omega, by omega, hX⟩
  · have I2 := S2 h0
    rw [if_neg h0, mm_e] at hW
    have hx2 := x_hI (M := mm P0 P1 Q cl (cn t) (cn f) (cn g) ou L xs (e + 1)) okx2 z12 mm_2
    have hx3 := x_I (M := mm P0 P1 Q2 cl (cn t) (cn f) (cn g) ou L xs (e + 1)) okx2 zth
    obtain ⟨u5, u6, u7, hX⟩ := lw_6 (code := kCancel P0 (xs (i + 1))) (j5 := j5) (j6 := j6) (j7 := j7) hi hL scr_mm scr_mm hc4 hW hx2 hx3 (fun h => absurd h h0)
    exact ⟨_, _, _, _, t, f, g, _, e + 1, u5, u6, u7, I2, by omega, by omega, hX⟩
theorem rd_7 (J : JN lg P0 P1 Q cl N T D t f g) (ht : t < 512) (hi : i + 7 ≤ L) (hL : L ≤ 3584) : RND 914 i L xs e t j5 j6 j7 (mm P0 P1 Q cl (cn t) (cn f) (cn g) ou L xs e) := by
  obtain ⟨HO, ga, r, Q2, ea, ez, hgq, S1, S2⟩ := sem_ev (a := (xs (i + 1))) (b := (xs (i + 2))) (c := (xs (i + 3))) (d := (xs (i + 4))) (x := (cn 0)) (y := (cn 0)) (k := 7) (by decide) ht J
  have ekk : cn ((7 : Nat) : Int) = cn 7 := rfl
  rw [ekk] at ea ga
  have hF := fc_7 (P1 := P1) (Q := Q) (cl := cl) (kp := cn f) (fo := cn g) (ou := ou) (L := L) (xs := xs) (e := e) (a := (xs (i + 1))) (b := (xs (i + 2))) (c := (xs (i + 3))) (d := (xs (i + 4))) J.1 ht J.2.1.1 HO
  have hc4 := kE_lt P0 (xs (i + 1)) (xs (i + 2)) (xs (i + 3)) (xs (i + 4)) (cn 0) (cn 0) 7
  have hc : kRule (xs (i + 1)) (xs (i + 2)) (xs (i + 3)) (xs (i + 4)) ≤ 2 := by unfold kRule; (repeat' split) <;> decide
  have hW := wr_386 hc hF
  have e12 : v12_setRule Q (xs (i + 1)) (xs (i + 2)) (xs (i + 3)) (xs (i + 4)) = (r, Q2) := by unfold v12_setRule bv12_setRule; dsimp only; rw [ea]
  have g12 : g12_setRule Q (xs (i + 1)) (xs (i + 2)) (xs (i + 3)) (xs (i + 4)) := by unfold g12_setRule bg12_setRule; exact ⟨ga, True.intro⟩
  have z12 := t12_setRule Q (xs (i + 1)) (xs (i + 2)) (xs (i + 3)) (xs (i + 4)) J.2.1.2.2 g12
  rw [e12] at z12
  clear e12 g12 ga ea
  have hth : v12_thrown Q2 = cn (kRule (xs (i + 1)) (xs (i + 2)) (xs (i + 3)) (xs (i + 4)) : Nat) := ez
  have zth := t12_thrown Q2 hgq True.intro
  rw [hth] at zth
  by_cases h0 : kRule (xs (i + 1)) (xs (i + 2)) (xs (i + 3)) (xs (i + 4)) = 0
  · obtain ⟨er, I2⟩ := S1 h0
    rw [h0] at hW zth
    rw [if_pos rfl, mm_ou] at hW
    have hx2 := x_hI (M := mm (v5_work (vE P0 (xs (i + 1)) (xs (i + 2)) (xs (i + 3)) (xs (i + 4)) (cn 0) (cn 0) 7).2) P1 Q (clw cl t (cn ((7 + 1 : Nat) : Int)) (xs (i + 1)) (xs (i + 2)) (xs (i + 3)) (xs (i + 4)) (cn 0) (cn 0)) (cn ((t + 1 : Nat) : Int)) (cn f) (cn g) (vE P0 (xs (i + 1)) (xs (i + 2)) (xs (i + 3)) (xs (i + 4)) (cn 0) (cn 0) 7).1.toInt64 L xs e) okx2 z12 mm_2
    have hx3 := x_I (M := mm (v5_work (vE P0 (xs (i + 1)) (xs (i + 2)) (xs (i + 3)) (xs (i + 4)) (cn 0) (cn 0) 7).2) P1 Q2 (clw cl t (cn ((7 + 1 : Nat) : Int)) (xs (i + 1)) (xs (i + 2)) (xs (i + 3)) (xs (i + 4)) (cn 0) (cn 0)) (cn ((t + 1 : Nat) : Int)) (cn f) (cn g) (vE P0 (xs (i + 1)) (xs (i + 2)) (xs (i + 3)) (xs (i + 4)) (cn 0) (cn 0) 7).1.toInt64 L xs e) okx2 zth
    subst er
    obtain ⟨u5, u6, u7, hX⟩ := lw_7 (code := 0) (j5 := j5) (j6 := j6) (j7 := j7) hi hL scr_mm scr_mm (by decide) hW hx2 hx3 (fun _ => rfl)
    exact ⟨_, _, _, _, t + 1, f, g, _, e, u5, u6, u7, I2, by omega, by omega, hX⟩
  · have I2 := S2 h0
    rw [if_neg h0, mm_e] at hW
    have hx2 := x_hI (M := mm P0 P1 Q cl (cn t) (cn f) (cn g) ou L xs (e + 1)) okx2 z12 mm_2
    have hx3 := x_I (M := mm P0 P1 Q2 cl (cn t) (cn f) (cn g) ou L xs (e + 1)) okx2 zth
    obtain ⟨u5, u6, u7, hX⟩ := lw_7 (code := kRule (xs (i + 1)) (xs (i + 2)) (xs (i + 3)) (xs (i + 4))) (j5 := j5) (j6 := j6) (j7 := j7) hi hL scr_mm scr_mm hc4 hW hx2 hx3 (fun h => absurd h h0)
    exact ⟨_, _, _, _, t, f, g, _, e + 1, u5, u6, u7, I2, by omega, by omega, hX⟩
theorem rd_8 (J : JN lg P0 P1 Q cl N T D t f g) (ht : t < 512) (hi : i + 7 ≤ L) (hL : L ≤ 3584) : RND 1006 i L xs e t j5 j6 j7 (mm P0 P1 Q cl (cn t) (cn f) (cn g) ou L xs e) := by
  obtain ⟨HO, ga, r, Q2, ea, ez, hgq, S1, S2⟩ := sem_ev (a := (xs (i + 1))) (b := (xs (i + 2))) (c := (cn 0)) (d := (cn 0)) (x := (cn 0)) (y := (cn 0)) (k := 8) (by decide) ht J
  have ekk : cn ((8 : Nat) : Int) = cn 8 := rfl
  rw [ekk] at ea ga
  have hF := fc_8 (P1 := P1) (Q := Q) (cl := cl) (kp := cn f) (fo := cn g) (ou := ou) (L := L) (xs := xs) (e := e) (a := (xs (i + 1))) (b := (xs (i + 2))) J.1 ht J.2.1.1 HO
  have hc4 := kE_lt P0 (xs (i + 1)) (xs (i + 2)) (cn 0) (cn 0) (cn 0) (cn 0) 8
  have hc : kBand (xs (i + 1)) (xs (i + 2)) ≤ 2 := by unfold kBand; (repeat' split) <;> decide
  have hW := wr_387 hc hF
  have e12 : v12_setBand Q (xs (i + 1)) (xs (i + 2)) = (r, Q2) := by unfold v12_setBand bv12_setBand; dsimp only; rw [ea]
  have g12 : g12_setBand Q (xs (i + 1)) (xs (i + 2)) := by unfold g12_setBand bg12_setBand; exact ⟨ga, True.intro⟩
  have z12 := t12_setBand Q (xs (i + 1)) (xs (i + 2)) J.2.1.2.2 g12
  rw [e12] at z12
  clear e12 g12 ga ea
  have hth : v12_thrown Q2 = cn (kBand (xs (i + 1)) (xs (i + 2)) : Nat) := ez
  have zth := t12_thrown Q2 hgq True.intro
  rw [hth] at zth
  by_cases h0 : kBand (xs (i + 1)) (xs (i + 2)) = 0
  · obtain ⟨er, I2⟩ := S1 h0
    rw [h0] at hW zth
    rw [if_pos rfl, mm_ou] at hW
    have hx2 := x_hI (M := mm (v5_work (vE P0 (xs (i + 1)) (xs (i + 2)) (cn 0) (cn 0) (cn 0) (cn 0) 8).2) P1 Q (clw cl t (cn ((8 + 1 : Nat) : Int)) (xs (i + 1)) (xs (i + 2)) (cn 0) (cn 0) (cn 0) (cn 0)) (cn ((t + 1 : Nat) : Int)) (cn f) (cn g) (vE P0 (xs (i + 1)) (xs (i + 2)) (cn 0) (cn 0) (cn 0) (cn 0) 8).1.toInt64 L xs e) okx2 z12 mm_2
    have hx3 := x_I (M := mm (v5_work (vE P0 (xs (i + 1)) (xs (i + 2)) (cn 0) (cn 0) (cn 0) (cn 0) 8).2) P1 Q2 (clw cl t (cn ((8 + 1 : Nat) : Int)) (xs (i + 1)) (xs (i + 2)) (cn 0) (cn 0) (cn 0) (cn 0)) (cn ((t + 1 : Nat) : Int)) (cn f) (cn g) (vE P0 (xs (i + 1)) (xs (i + 2)) (cn 0) (cn 0) (cn 0) (cn 0) 8).1.toInt64 L xs e) okx2 zth
    subst er
    obtain ⟨u5, u6, u7, hX⟩ := lw_8 (code := 0) (j5 := j5) (j6 := j6) (j7 := j7) hi hL scr_mm scr_mm (by decide) hW hx2 hx3 (fun _ => rfl)
    exact ⟨_, _, _, _, t + 1, f, g, _, e, u5, u6, u7, I2, by omega, by omega, hX⟩
  · have I2 := S2 h0
    rw [if_neg h0, mm_e] at hW
    have hx2 := x_hI (M := mm P0 P1 Q cl (cn t) (cn f) (cn g) ou L xs (e + 1)) okx2 z12 mm_2
    have hx3 := x_I (M := mm P0 P1 Q2 cl (cn t) (cn f) (cn g) ou L xs (e + 1)) okx2 zth
    obtain ⟨u5, u6, u7, hX⟩ := lw_8 (code := kBand (xs (i + 1)) (xs (i + 2))) (j5 := j5) (j6 := j6) (j7 := j7) hi hL scr_mm scr_mm hc4 hW hx2 hx3 (fun h => absurd h h0)
    exact ⟨_, _, _, _, t, f, g, _, e + 1, u5, u6, u7, I2, by omega, by omega, hX⟩
end Rounda
