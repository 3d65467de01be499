/-! a round of the law: events -/
section Roundc
variable {P0 P1 Q : PM} {cl lg : Nat → Int32} {N T D t f g i L e : Nat} {xs : Nat → Int32} {ou : Int64} {j5 j6 j7 : AV}
theorem rd_18 (J : JN lg P0 P1 Q cl N T D t f g) (ht : t < 512) (hi : i + 7 ≤ L) (hL : L ≤ 3584) : RND 1726 i L xs e t j5 j6 j7 (mm P0 P1 Q cl (cn t) (cn f) (cn g) ou L xs e) := by
  obtain ⟨HO, ga, r, Q2, ea, ez, hgq, S1, S2⟩ := sem_ev (a := (xs (i + 1))) (b := (xs (i + 2))) (c := (xs (i + 3))) (d := (cn 0)) (x := (cn 0)) (y := (cn 0)) (k := 18) (by decide) ht J
  have ekk : cn ((18 : Nat) : Int) = cn 18 := rfl
  rw [ekk] at ea ga
  have hF := fc_18 (P1 := P1) (Q := Q) (cl := cl) (kp := cn f) (fo := cn g) (ou := ou) (L := L) (xs := xs) (e := e) (a := (xs (i + 1))) (b := (xs (i + 2))) (c := (xs (i + 3))) J.1 ht J.2.1.1 HO
  have hc4 := kE_lt P0 (xs (i + 1)) (xs (i + 2)) (xs (i + 3)) (cn 0) (cn 0) (cn 0) 18
  have hc : kExer P0 (xs (i + 1)) (xs (i + 2)) (xs (i + 3)) ≤ 3 := Nat.le_of_lt_succ hc4
  have hW := wr_397 hc hF
  have e12 : v12_exercise Q (xs (i + 1)) (xs (i + 2)) (xs (i + 3)) = (r, Q2) := by unfold v12_exercise bv12_exercise; dsimp only; rw [ea]
  have g12 : g12_exercise Q (xs (i + 1)) (xs (i + 2)) (xs (i + 3)) := by unfold g12_exercise bg12_exercise; exact ⟨ga, True.intro⟩
  have z12 := t12_exercise Q (xs (i + 1)) (xs (i + 2)) (xs (i + 3)) J.2.1.2.2 g12
  rw [e12] at z12
  clear e12 g12 ga ea
  have hth : v12_thrown Q2 = cn (kExer P0 (xs (i + 1)) (xs (i + 2)) (xs (i + 3)) : Nat) := ez
  have zth := t12_thrown Q2 hgq True.intro
  rw [hth] at zth
  by_cases h0 : kExer P0 (xs (i + 1)) (xs (i + 2)) (xs (i + 3)) = 0
  · obtain ⟨er, I2⟩ := S1 h0
    rw [h0] at hW zth
    rw [if_pos rfl, mm_ou] at hW
    have hx2 := x_hI (M := mm (v5_work (vE P0 (xs (i + 1)) (xs (i + 2)) (xs (i + 3)) (cn 0) (cn 0) (cn 0) 18).2) P1 Q (clw cl t (cn ((18 + 1 : Nat) : Int)) (xs (i + 1)) (xs (i + 2)) (xs (i + 3)) (cn 0) (cn 0) (cn 0)) (cn ((t + 1 : Nat) : Int)) (cn f) (cn g) (vE P0 (xs (i + 1)) (xs (i + 2)) (xs (i + 3)) (cn 0) (cn 0) (cn 0) 18).1.toInt64 L xs e) okx2 z12 mm_2
    have hx3 := x_I (M := mm (v5_work (vE P0 (xs (i + 1)) (xs (i + 2)) (xs (i + 3)) (cn 0) (cn 0) (cn 0) 18).2) P1 Q2 (clw cl t (cn ((18 + 1 : Nat) : Int)) (xs (i + 1)) (xs (i + 2)) (xs (i + 3)) (cn 0) (cn 0) (cn 0)) (cn ((t + 1 : Nat) : Int)) (cn f) (cn g) (vE P0 (xs (i + 1)) (xs (i + 2)) (xs (i + 3)) (cn 0) (cn 0) (cn 0) 18).1.toInt64 L xs e) okx2 zth
    subst er
    obtain ⟨u5, u6, u7, hX⟩ := lw_18 (code := 0) (j5 := j5) (j6 := j6) (j7 := j7) hi hL scr_mm scr_mm (by decide) hW hx2 hx3 (fun _ => rfl)
    exact ⟨_, _, _, _, t + 1, f, g, _, e, u5, u6, u7, I2, by omega, by omega, hX⟩
  · have I2 := S2 h0
    rw [if_neg h0, mm_e] at hW
    have hx2 := x_hI (M := mm P0 P1 Q cl (cn t) (cn f) (cn g) ou L xs (e + 1)) okx2 z12 mm_2
    have hx3 := x_I (M := mm P0 P1 Q2 cl (cn t) (cn f) (cn g) ou L xs (e + 1)) okx2 zth
    obtain ⟨u5, u6, u7, hX⟩ := lw_18 (code := kExer P0 (xs (i + 1)) (xs (i + 2)) (xs (i + 3))) (j5 := j5) (j6 := j6) (j7 := j7) hi hL scr_mm scr_mm hc4 hW hx2 hx3 (fun h => absurd h h0)
    exact ⟨_, _, _, _, t, f, g, _, e + 1, u5, u6, u7, I2, by omega, by omega, hX⟩
theorem rd_19 (J : JN lg P0 P1 Q cl N T D t f g) (ht : t < 512) (hi : i + 7 ≤ L) (hL : L ≤ 3584) : RND 1806 i L xs e t j5 j6 j7 (mm P0 P1 Q cl (cn t) (cn f) (cn g) ou L xs e) := by
  obtain ⟨HO, ga, r, Q2, ea, ez, hgq, S1, S2⟩ := sem_ev (a := (xs (i + 1))) (b := (xs (i + 2))) (c := (xs (i + 3))) (d := (cn 0)) (x := (cn 0)) (y := (cn 0)) (k := 19) (by decide) ht J
  have ekk : cn ((19 : Nat) : Int) = cn 19 := rfl
  rw [ekk] at ea ga
  have hF := fc_19 (P1 := P1) (Q := Q) (cl := cl) (kp := cn f) (fo := cn g) (ou := ou) (L := L) (xs := xs) (e := e) (a := (xs (i + 1))) (b := (xs (i + 2))) (c := (xs (i + 3))) J.1 ht J.2.1.1 HO
  have hc4 := kE_lt P0 (xs (i + 1)) (xs (i + 2)) (xs (i + 3)) (cn 0) (cn 0) (cn 0) 19
  have hc : kConv P0 (xs (i + 1)) (xs (i + 2)) (xs (i + 3)) ≤ 3 := Nat.le_of_lt_succ hc4
  have hW := wr_398 hc hF
  have e12 : v12_convert Q (xs (i + 1)) (xs (i + 2)) (xs (i + 3)) = (r, Q2) := by unfold v12_convert bv12_convert; dsimp only; rw [ea]
  have g12 : g12_convert Q (xs (i + 1)) (xs (i + 2)) (xs (i + 3)) := by unfold g12_convert bg12_convert; exact ⟨ga, True.intro⟩
  have z12 := t12_convert Q (xs (i + 1)) (xs (i + 2)) (xs (i + 3)) J.2.1.2.2 g12
  rw [e12] at z12
  clear e12 g12 ga ea
  have hth : v12_thrown Q2 = cn (kConv P0 (xs (i + 1)) (xs (i + 2)) (xs (i + 3)) : Nat) := ez
  have zth := t12_thrown Q2 hgq True.intro
  rw [hth] at zth
  by_cases h0 : kConv P0 (xs (i + 1)) (xs (i + 2)) (xs (i + 3)) = 0
  · obtain ⟨er, I2⟩ := S1 h0
    rw [h0] at hW zth
    rw [if_pos rfl, mm_ou] at hW
    have hx2 := x_hI (M := mm (v5_work (vE P0 (xs (i + 1)) (xs (i + 2)) (xs (i + 3)) (cn 0) (cn 0) (cn 0) 19).2) P1 Q (clw cl t (cn ((19 + 1 : Nat) : Int)) (xs (i + 1)) (xs (i + 2)) (xs (i + 3)) (cn 0) (cn 0) (cn 0)) (cn ((t + 1 : Nat) : Int)) (cn f) (cn g) (vE P0 (xs (i + 1)) (xs (i + 2)) (xs (i + 3)) (cn 0) (cn 0) (cn 0) 19).1.toInt64 L xs e) okx2 z12 mm_2
    have hx3 := x_I (M := mm (v5_work (vE P0 (xs (i + 1)) (xs (i + 2)) (xs (i + 3)) (cn 0) (cn 0) (cn 0) 19).2) P1 Q2 (clw cl t (cn ((19 + 1 : Nat) : Int)) (xs (i + 1)) (xs (i + 2)) (xs (i + 3)) (cn 0) (cn 0) (cn 0)) (cn ((t + 1 : Nat) : Int)) (cn f) (cn g) (vE P0 (xs (i + 1)) (xs (i + 2)) (xs (i + 3)) (cn 0) (cn 0) (cn 0) 19).1.toInt64 L xs e) okx2 zth
    subst er
    obtain ⟨u5, u6, u7, hX⟩ := lw_19 (code := 0) (j5 := j5) (j6 := j6) (j7 := j7) hi hL scr_mm scr_mm (by decide) hW hx2 hx3 (fun _ => rfl)
    exact ⟨_, _, _, _, t + 1, f, g, _, e, u5, u6, u7, I2, by omega, by omega, hX⟩
  · have I2 := S2 h0
    rw [if_neg h0, mm_e] at hW
    have hx2 := x_hI (M := mm P0 P1 Q cl (cn t) (cn f) (cn g) ou L xs (e + 1)) okx2 z12 mm_2
    have hx3 := x_I (M := mm P0 P1 Q2 cl (cn t) (cn f) (cn g) ou L xs (e + 1)) okx2 zth
    obtain ⟨u5, u6, u7, hX⟩ := lw_19 (code := kConv P0 (xs (i + 1)) (xs (i + 2)) (xs (i + 3))) (j5 := j5) (j6 := j6) (j7 := j7) hi hL scr_mm scr_mm hc4 hW hx2 hx3 (fun h => absurd h h0)
    exact ⟨_, _, _, _, t, f, g, _, e + 1, u5, u6, u7, I2, by omega, by omega, hX⟩
theorem rd_20 (J : JN lg P0 P1 Q cl N T D t f g) (ht : t < 512) (hi : i + 7 ≤ L) (hL : L ≤ 3584) : RND 1886 i L xs e t j5 j6 j7 (mm P0 P1 Q cl (cn t) (cn f) (cn g) ou L xs e) := by
  obtain ⟨HO, ga, r, Q2, ea, ez, hgq, S1, S2⟩ := sem_ev (a := (xs (i + 1))) (b := (xs (i + 2))) (c := (xs (i + 3))) (d := (cn 0)) (x := (cn 0)) (y := (cn 0)) (k := 20) (by decide) ht J
  have ekk : cn ((20 : Nat) : Int) = cn 20 := rfl
  rw [ekk] at ea ga
  have hF := fc_20 (P1 := P1) (Q := Q) (cl := cl) (kp := cn f) (fo := cn g) (ou := ou) (L := L) (xs := xs) (e := e) (a := (xs (i + 1))) (b := (xs (i + 2))) (c := (xs (i + 3))) J.1 ht J.2.1.1 HO
  have hc4 := kE_lt P0 (xs (i + 1)) (xs (i + 2)) (xs (i + 3)) (cn 0) (cn 0) (cn 0) 20
  have hc : kMove (xs (i + 1)) (xs (i + 2)) (xs (i + 3)) ≤ 2 := by unfold kMove; (repeat' split) <;> decide
  have hW := wr_399 hc hF
  have e12 : v12_setMove Q (xs (i + 1)) (xs (i + 2)) (xs (i + 3)) = (r, Q2) := by unfold v12_setMove bv12_setMove; dsimp only; rw [ea]
  have g12 : g12_setMove Q (xs (i + 1)) (xs (i + 2)) (xs (i + 3)) := by unfold g12_setMove bg12_setMove; exact ⟨ga, True.intro⟩
  have z12 := t12_setMove Q (xs (i + 1)) (xs (i + 2)) (xs (i + 3)) J.2.1.2.2 g12
  rw [e12] at z12
  clear e12 g12 ga ea
  have hth : v12_thrown Q2 = cn (kMove (xs (i + 1)) (xs (i + 2)) (xs (i + 3)) : Nat) := ez
  have zth := t12_thrown Q2 hgq True.intro
  rw [hth] at zth
  by_cases h0 : kMove (xs (i + 1)) (xs (i + 2)) (xs (i + 3)) = 0
  · obtain ⟨er, I2⟩ := S1 h0
    rw [h0] at hW zth
    rw [if_pos rfl, mm_ou] at hW
    have hx2 := x_hI (M := mm (v5_work (vE P0 (xs (i + 1)) (xs (i + 2)) (xs (i + 3)) (cn 0) (cn 0) (cn 0) 20).2) P1 Q (clw cl t (cn ((20 + 1 : Nat) : Int)) (xs (i + 1)) (xs (i + 2)) (xs (i + 3)) (cn 0) (cn 0) (cn 0)) (cn ((t + 1 : Nat) : Int)) (cn f) (cn g) (vE P0 (xs (i + 1)) (xs (i + 2)) (xs (i + 3)) (cn 0) (cn 0) (cn 0) 20).1.toInt64 L xs e) okx2 z12 mm_2
    have hx3 := x_I (M := mm (v5_work (vE P0 (xs (i + 1)) (xs (i + 2)) (xs (i + 3)) (cn 0) (cn 0) (cn 0) 20).2) P1 Q2 (clw cl t (cn ((20 + 1 : Nat) : Int)) (xs (i + 1)) (xs (i + 2)) (xs (i + 3)) (cn 0) (cn 0) (cn 0)) (cn ((t + 1 : Nat) : Int)) (cn f) (cn g) (vE P0 (xs (i + 1)) (xs (i + 2)) (xs (i + 3)) (cn 0) (cn 0) (cn 0) 20).1.toInt64 L xs e) okx2 zth
    subst er
    obtain ⟨u5, u6, u7, hX⟩ := lw_20 (code := 0) (j5 := j5) (j6 := j6) (j7 := j7) hi hL scr_mm scr_mm (by decide) hW hx2 hx3 (fun _ => rfl)
    exact ⟨_, _, _, _, t + 1, f, g, _, e, u5, u6, u7, I2, by omega, by omega, hX⟩
  · have I2 := S2 h0
    rw [if_neg h0, mm_e] at hW
    have hx2 := x_hI (M := mm P0 P1 Q cl (cn t) (cn f) (cn g) ou L xs (e + 1)) okx2 z12 mm_2
    have hx3 := x_I (M := mm P0 P1 Q2 cl (cn t) (cn f) (cn g) ou L xs (e + 1)) okx2 zth
    obtain ⟨u5, u6, u7, hX⟩ := lw_20 (code := kMove (xs (i + 1)) (xs (i + 2)) (xs (i + 3))) (j5 := j5) (j6 := j6) (j7 := j7) hi hL scr_mm scr_mm hc4 hW hx2 hx3 (fun h => absurd h h0)
    exact ⟨_, _, _, _, t, f, g, _, e + 1, u5, u6, u7, I2, by omega, by omega, hX⟩
theorem rd_21 (J : JN lg P0 P1 Q cl N T D t f g) (ht : t < 512) (hi : i + 7 ≤ L) (hL : L ≤ 3584) : RND 1966 i L xs e t j5 j6 j7 (mm P0 P1 Q cl (cn t) (cn f) (cn g) ou L xs e) := by
  obtain ⟨HO, ga, r, Q2, ea, ez, hgq, S1, S2⟩ := sem_ev (a := (xs (i + 1))) (b := (cn 0)) (c := (cn 0)) (d := (cn 0)) (x := (cn 0)) (y := (cn 0)) (k := 21) (by decide) ht J
  have ekk : cn ((21 : Nat) : Int) = cn 21 := rfl
  rw [ekk] at ea ga
  have hF := fc_21 (P1 := P1) (Q := Q) (cl := cl) (kp := cn f) (fo := cn g) (ou := ou) (L := L) (xs := xs) (e := e) (a := (xs (i + 1))) J.1 ht J.2.1.1 HO
  have hc4 := kE_lt P0 (xs (i + 1)) (cn 0) (cn 0) (cn 0) (cn 0) (cn 0) 21
  have hc : kHair (xs (i + 1)) ≤ 1 := by unfold kHair; (repeat' split) <;> decide
  have hW := wr_400 hc hF
  have e12 : v12_setHaircut Q (xs (i + 1)) = (r, Q2) := by unfold v12_setHaircut bv12_setHaircut; dsimp only; rw [ea]
  have g12 : g12_setHaircut Q (xs (i + 1)) := by unfold g12_setHaircut bg12_setHaircut; exact ⟨ga, True.intro⟩
  have z12 := t12_setHaircut Q (xs (i + 1)) J.2.1.2.2 g12
  rw [e12] at z12
  clear e12 g12 ga ea
  have hth : v12_thrown Q2 = cn (kHair (xs (i + 1)) : Nat) := ez
  have zth := t12_thrown Q2 hgq True.intro
  rw [hth] at zth
  by_cases h0 : kHair (xs (i + 1)) = 0
  · obtain ⟨er, I2⟩ := S1 h0
    rw [h0] at hW zth
    rw [if_pos rfl, mm_ou] at hW
    have hx2 := x_hI (M := mm (v5_work (vE P0 (xs (i + 1)) (cn 0) (cn 0) (cn 0) (cn 0) (cn 0) 21).2) P1 Q (clw cl t (cn ((21 + 1 : Nat) : Int)) (xs (i + 1)) (cn 0) (cn 0) (cn 0) (cn 0) (cn 0)) (cn ((t + 1 : Nat) : Int)) (cn f) (cn g) (vE P0 (xs (i + 1)) (cn 0) (cn 0) (cn 0) (cn 0) (cn 0) 21).1.toInt64 L xs e) okx2 z12 mm_2
    have hx3 := x_I (M := mm (v5_work (vE P0 (xs (i + 1)) (cn 0) (cn 0) (cn 0) (cn 0) (cn 0) 21).2) P1 Q2 (clw cl t (cn ((21 + 1 : Nat) : Int)) (xs (i + 1)) (cn 0) (cn 0) (cn 0) (cn 0) (cn 0)) (cn ((t + 1 : Nat) : Int)) (cn f) (cn g) (vE P0 (xs (i + 1)) (cn 0) (cn 0) (cn 0) (cn 0) (cn 0) 21).1.toInt64 L xs e) okx2 zth
    subst er
    obtain ⟨u5, u6, u7, hX⟩ := lw_21 (code := 0) (j5 := j5) (j6 := j6) (j7 := j7) hi hL scr_mm scr_mm (by decide) hW hx2 hx3 (fun _ => rfl)
    exact ⟨_, _, _, _, t + 1, f, g, _, e, u5, u6, u7, I2, by omega, by omega, hX⟩
  · have I2 := S2 h0
    rw [if_neg h0, mm_e] at hW
    have hx2 := x_hI (M := mm P0 P1 Q cl (cn t) (cn f) (cn g) ou L xs (e + 1)) okx2 z12 mm_2
    have hx3 := x_I (M := mm P0 P1 Q2 cl (cn t) (cn f) (cn g) ou L xs (e + 1)) okx2 zth
    obtain ⟨u5, u6, u7, hX⟩ := lw_21 (code := kHair (xs (i + 1))) (j5 := j5) (j6 := j6) (j7 := j7) hi hL scr_mm scr_mm hc4 hW hx2 hx3 (fun h => absurd h h0)
    exact ⟨_, _, _, _, t, f, g, _, e + 1, u5, u6, u7, I2, by omega, by omega, hX⟩
theorem rd_22 (J : JN lg P0 P1 Q cl N T D t f g) (ht : t < 512) (hi : i + 7 ≤ L) (hL : L ≤ 3584) : RND 2022 i L xs e t j5 j6 j7 (mm P0 P1 Q cl (cn t) (cn f) (cn g) ou L xs e) := by
  obtain ⟨HO, ga, r, Q2, ea, ez, hgq, S1, S2⟩ := sem_ev (a := (xs (i + 1))) (b := (xs (i + 2))) (c := (xs (i + 3))) (d := (cn 0)) (x := (cn 0)) (y := (cn 0)) (k := 22) (by decide) ht J
  have ekk : cn ((22 : Nat) : Int) = cn 22 := rfl
  rw [ekk] at ea ga
  have hF := fc_22 (P1 := P1) (Q := Q) (cl := cl) (kp := cn f) (fo := cn g) (ou := ou) (L := L) (xs := xs) (e := e) (a := (xs (i + 1))) (b := (xs (i + 2))) (c := (xs (i + 3))) J.1 ht J.2.1.1 HO
  have hc4 := kE_lt P0 (xs (i + 1)) (xs (i + 2)) (xs (i + 3)) (cn 0) (cn 0) (cn 0) 22
  have hc : kPay P0 (xs (i + 1)) (xs (i + 2)) (xs (i + 3)) ≤ 3 := Nat.le_of_lt_succ hc4
  have hW := wr_401 hc hF
  have e12 : v12_pay Q (xs (i + 1)) (xs (i + 2)) (xs (i + 3)) = (r, Q2) := by unfold v12_pay bv12_pay; dsimp only; rw [ea]
  have g12 : g12_pay Q (xs (i + 1)) (xs (i + 2)) (xs (i + 3)) := by unfold g12_pay bg12_pay; exact ⟨ga, True.intro⟩
  have z12 := t12_pay Q (xs (i + 1)) (xs (i + 2)) (xs (i + 3)) J.2.1.2.2 g12
  rw [e12] at z12
  clear e12 g12 ga ea
  have hth : v12_thrown Q2 = cn (kPay P0 (xs (i + 1)) (xs (i + 2)) (xs (i + 3)) : Nat) := ez
  have zth := t12_thrown Q2 hgq True.intro
  rw [hth] at zth
  by_cases h0 : kPay P0 (xs (i + 1)) (xs (i + 2)) (xs (i + 3)) = 0
  · obtain ⟨er, I2⟩ := S1 h0
    rw [h0] at hW zth
    rw [if_pos rfl, mm_ou] at hW
    have hx2 := x_hI (M := mm (v5_work (vE P0 (xs (i + 1)) (xs (i + 2)) (xs (i + 3)) (cn 0) (cn 0) (cn 0) 22).2) P1 Q (clw cl t (cn ((22 + 1 : Nat) : Int)) (xs (i + 1)) (xs (i + 2)) (xs (i + 3)) (cn 0) (cn 0) (cn 0)) (cn ((t + 1 : Nat) : Int)) (cn f) (cn g) (vE P0 (xs (i + 1)) (xs (i + 2)) (xs (i + 3)) (cn 0) (cn 0) (cn 0) 22).1.toInt64 L xs e) okx2 z12 mm_2
    have hx3 := x_I (M := mm (v5_work (vE P0 (xs (i + 1)) (xs (i + 2)) (xs (i + 3)) (cn 0) (cn 0) (cn 0) 22).2) P1 Q2 (clw cl t (cn ((22 + 1 : Nat) : Int)) (xs (i + 1)) (xs (i + 2)) (xs (i + 3)) (cn 0) (cn 0) (cn 0)) (cn ((t + 1 : Nat) : Int)) (cn f) (cn g) (vE P0 (xs (i + 1)) (xs (i + 2)) (xs (i + 3)) (cn 0) (cn 0) (cn 0) 22).1.toInt64 L xs e) okx2 zth
    subst er
    obtain ⟨u5, u6, u7, hX⟩ := lw_22 (code := 0) (j5 := j5) (j6 := j6) (j7 := j7) hi hL scr_mm scr_mm (by decide) hW hx2 hx3 (fun _ => rfl)
    exact ⟨_, _, _, _, t + 1, f, g, _, e, u5, u6, u7, I2, by omega, by omega, hX⟩
  · have I2 := S2 h0
    rw [if_neg h0, mm_e] at hW
    have hx2 := x_hI (M := mm P0 P1 Q cl (cn t) (cn f) (cn g) ou L xs (e + 1)) okx2 z12 mm_2
    have hx3 := x_I (M := mm P0 P1 Q2 cl (cn t) (cn f) (cn g) ou L xs (e + 1)) okx2 zth
    obtain ⟨u5, u6, u7, hX⟩ := lw_22 (code := kPay P0 (xs (i + 1)) (xs (i + 2)) (xs (i + 3))) (j5 := j5) (j6 := j6) (j7 := j7) hi hL scr_mm scr_mm hc4 hW hx2 hx3 (fun h => absurd h h0)
    exact ⟨_, _, _, _, t, f, g, _, e + 1, u5, u6, u7, I2, by omega, by omega, hX⟩
theorem rd_23 (J : JN lg P0 P1 Q cl N T D t f g) (ht : t < 512) (hi : i + 7 ≤ L) (hL : L ≤ 3584) : RND 2102 i L xs e t j5 j6 j7 (mm P0 P1 Q cl (cn t) (cn f) (cn g) ou L xs e) := by
  obtain ⟨HO, ga, r, Q2, ea, ez, hgq, S1, S2⟩ := sem_ev (a := (xs (i + 1))) (b := (xs (i + 2))) (c := (cn 0)) (d := (cn 0)) (x := (cn 0)) (y := (cn 0)) (k := 23) (by decide) ht J
  have ekk : cn ((23 : Nat) : Int) = cn 23 := rfl
  rw [ekk] at ea ga
  have hF := fc_23 (P1 := P1) (Q := Q) (cl := cl) (kp := cn f) (fo := cn g) (ou := ou) (L := L) (xs := xs) (e := e) (a := (xs (i + 1))) (b := (xs (i + 2))) J.1 ht J.2.1.1 HO
  have hc4 := kE_lt P0 (xs (i + 1)) (xs (i + 2)) (cn 0) (cn 0) (cn 0) (cn 0) 23
  have hc : kFund P0 (xs (i + 1)) (xs (i + 2)) ≤ 3 := Nat.le_of_lt_succ hc4
  have hW := wr_402 hc hF
  have e12 : v12_setFund Q (xs (i + 1)) (xs (i + 2)) = (r, Q2) := by unfold v12_setFund bv12_setFund; dsimp only; rw [ea]
  have g12 : g12_setFund Q (xs (i + 1)) (xs (i + 2)) := by unfold g12_setFund bg12_setFund; exact ⟨ga, True.intro⟩
  have z12 := t12_setFund Q (xs (i + 1)) (xs (i + 2)) J.2.1.2.2 g12
  rw [e12] at z12
  clear e12 g12 ga ea
  have hth : v12_thrown Q2 = cn (kFund P0 (xs (i + 1)) (xs (i + 2)) : Nat) := ez
  have zth := t12_thrown Q2 hgq True.intro
  rw [hth] at zth
  by_cases h0 : kFund P0 (xs (i + 1)) (xs (i + 2)) = 0
  · obtain ⟨er, I2⟩ := S1 h0
    rw [h0] at hW zth
    rw [if_pos rfl, mm_ou] at hW
    have hx2 := x_hI (M := mm (v5_work (vE P0 (xs (i + 1)) (xs (i + 2)) (cn 0) (cn 0) (cn 0) (cn 0) 23).2) P1 Q (clw cl t (cn ((23 + 1 : Nat) : Int)) (xs (i + 1)) (xs (i + 2)) (cn 0) (cn 0) (cn 0) (cn 0)) (cn ((t + 1 : Nat) : Int)) (cn f) (cn g) (vE P0 (xs (i + 1)) (xs (i + 2)) (cn 0) (cn 0) (cn 0) (cn 0) 23).1.toInt64 L xs e) okx2 z12 mm_2
    have hx3 := x_I (M := mm (v5_work (vE P0 (xs (i + 1)) (xs (i + 2)) (cn 0) (cn 0) (cn 0) (cn 0) 23).2) P1 Q2 (clw cl t (cn ((23 + 1 : Nat) : Int)) (xs (i + 1)) (xs (i + 2)) (cn 0) (cn 0) (cn 0) (cn 0)) (cn ((t + 1 : Nat) : Int)) (cn f) (cn g) (vE P0 (xs (i + 1)) (xs (i + 2)) (cn 0) (cn 0) (cn 0) (cn 0) 23).1.toInt64 L xs e) okx2 zth
    subst er
    obtain ⟨u5, u6, u7, hX⟩ := lw_23 (code := 0) (j5 := j5) (j6 := j6) (j7 := j7) hi hL scr_mm scr_mm (by decide) hW hx2 hx3 (fun _ => rfl)
    exact ⟨_, _, _, _, t + 1, f, g, _, e, u5, u6, u7, I2, by omega, by omega, hX⟩
  · have I2 := S2 h0
    rw [if_neg h0, mm_e] at hW
    have hx2 := x_hI (M := mm P0 P1 Q cl (cn t) (cn f) (cn g) ou L xs (e + 1)) okx2 z12 mm_2
    have hx3 := x_I (M := mm P0 P1 Q2 cl (cn t) (cn f) (cn g) ou L xs (e + 1)) okx2 zth
    obtain ⟨u5, u6, u7, hX⟩ := lw_23 (code := kFund P0 (xs (i + 1)) (xs (i + 2))) (j5 := j5) (j6 := j6) (j7 := j7) hi hL scr_mm scr_mm hc4 hW hx2 hx3 (fun h => absurd h h0)
    exact ⟨_, _, _, _, t, f, g, _, e + 1, u5, u6, u7, I2, by omega, by omega, hX⟩
theorem rd_24 (J : JN lg P0 P1 Q cl N T D t f g) (ht : t < 512) (hi : i + 7 ≤ L) (hL : L ≤ 3584) : RND 2170 i L xs e t j5 j6 j7 (mm P0 P1 Q cl (cn t) (cn f) (cn g) ou L xs e) := by
  obtain ⟨HO, ga, r, Q2, ea, ez, hgq, S1, S2⟩ := sem_ev (a := (xs (i + 1))) (b := (cn 0)) (c := (cn 0)) (d := (cn 0)) (x := (cn 0)) (y := (cn 0)) (k := 24) (by decide) ht J
  have ekk : cn ((24 : Nat) : Int) = cn 24 := rfl
  rw [ekk] at ea ga
  have hF := fc_24 (P1 := P1) (Q := Q) (cl := cl) (kp := cn f) (fo := cn g) (ou := ou) (L := L) (xs := xs) (e := e) (a := (xs (i + 1))) J.1 ht J.2.1.1 HO
  have hc4 := kE_lt P0 (xs (i + 1)) (cn 0) (cn 0) (cn 0) (cn 0) (cn 0) 24
  have hc : kFail P0 (xs (i + 1)) ≤ 2 := by unfold kFail; (repeat' split) <;> decide
  have hW := wr_403 hc hF
  have e12 : v12_fail Q (xs (i + 1)) = (r, Q2) := by unfold v12_fail bv12_fail; dsimp only; rw [ea]
  have g12 : g12_fail Q (xs (i + 1)) := by unfold g12_fail bg12_fail; exact ⟨ga, True.intro⟩
  have z12 := t12_fail Q (xs (i + 1)) J.2.1.2.2 g12
  rw [e12] at z12
  clear e12 g12 ga ea
  have hth : v12_thrown Q2 = cn (kFail P0 (xs (i + 1)) : Nat) := ez
  have zth := t12_thrown Q2 hgq True.intro
  rw [hth] at zth
  by_cases h0 : kFail P0 (xs (i + 1)) = 0
  · obtain ⟨er, I2⟩ := S1 h0
    rw [h0] at hW zth
    rw [if_pos rfl, mm_ou] at hW
    have hx2 := x_hI (M := mm (v5_work (vE P0 (xs (i + 1)) (cn 0) (cn 0) (cn 0) (cn 0) (cn 0) 24).2) P1 Q (clw cl t (cn ((24 + 1 : Nat) : Int)) (xs (i + 1)) (cn 0) (cn 0) (cn 0) (cn 0) (cn 0)) (cn ((t + 1 : Nat) : Int)) (cn f) (cn g) (vE P0 (xs (i + 1)) (cn 0) (cn 0) (cn 0) (cn 0) (cn 0) 24).1.toInt64 L xs e) okx2 z12 mm_2
    have hx3 := x_I (M := mm (v5_work (vE P0 (xs (i + 1)) (cn 0) (cn 0) (cn 0) (cn 0) (cn 0) 24).2) P1 Q2 (clw cl t (cn ((24 + 1 : Nat) : Int)) (xs (i + 1)) (cn 0) (cn 0) (cn 0) (cn 0) (cn 0)) (cn ((t + 1 : Nat) : Int)) (cn f) (cn g) (vE P0 (xs (i + 1)) (cn 0) (cn 0) (cn 0) (cn 0) (cn 0) 24).1.toInt64 L xs e) okx2 zth
    subst er
    obtain ⟨u5, u6, u7, hX⟩ := lw_24 (code := 0) (j5 := j5) (j6 := j6) (j7 := j7) hi hL scr_mm scr_mm (by decide) hW hx2 hx3 (fun _ => rfl)
    exact ⟨_, _, _, _, t + 1, f, g, _, e, u5, u6, u7, I2, by omega, by omega, hX⟩
  · have I2 := S2 h0
    rw [if_neg h0, mm_e] at hW
    have hx2 := x_hI (M := mm P0 P1 Q cl (cn t) (cn f) (cn g) ou L xs (e + 1)) okx2 z12 mm_2
    have hx3 := x_I (M := mm P0 P1 Q2 cl (cn t) (cn f) (cn g) ou L xs (e + 1)) okx2 zth
    obtain ⟨u5, u6, u7, hX⟩ := lw_24 (code := kFail P0 (xs (i + 1))) (j5 := j5) (j6 := j6) (j7 := j7) hi hL scr_mm scr_mm hc4 hW hx2 hx3 (fun h => absurd h h0)
    exact ⟨_, _, _, _, t, f, g, _, e + 1, u5, u6, u7, I2, by omega, by omega, hX⟩
theorem rd_25 (J : JN lg P0 P1 Q cl N T D t f g) (ht : t < 512) (hi : i + 7 ≤ L) (hL : L ≤ 3584) : RND 2226 i L xs e t j5 j6 j7 (mm P0 P1 Q cl (cn t) (cn f) (cn g) ou L xs e) := by
  obtain ⟨HO, ga, r, Q2, ea, ez, hgq, S1, S2⟩ := sem_ev (a := (xs (i + 1))) (b := (xs (i + 2))) (c := (cn 0)) (d := (cn 0)) (x := (cn 0)) (y := (cn 0)) (k := 25) (by decide) ht J
  have ekk : cn ((25 : Nat) : Int) = cn 25 := rfl
  rw [ekk] at ea ga
  have hF := fc_25 (P1 := P1) (Q := Q) (cl := cl) (kp := cn f) (fo := cn g) (ou := ou) (L := L) (xs := xs) (e := e) (a := (xs (i + 1))) (b := (xs (i + 2))) J.1 ht J.2.1.1 HO
  have hc4 := kE_lt P0 (xs (i + 1)) (xs (i + 2)) (cn 0) (cn 0) (cn 0) (cn 0) 25
  have hc : kBid P0 (xs (i + 1)) (xs (i + 2)) ≤ 3 := Nat.le_of_lt_succ hc4
  have hW := wr_404 hc hF
  have e12 : v12_bid Q (xs (i + 1)) (xs (i + 2)) = (r, Q2) := by unfold v12_bid bv12_bid; dsimp only; rw [ea]
  have g12 : g12_bid Q (xs (i + 1)) (xs (i + 2)) := by unfold g12_bid bg12_bid; exact ⟨ga, True.intro⟩
  have z12 := t12_bid Q (xs (i + 1)) (xs (i + 2)) J.2.1.2.2 g12
  rw [e12] at z12
  clear e12 g12 ga ea
  have hth : v12_thrown Q2 = cn (kBid P0 (xs (i + 1)) (xs (i + 2)) : Nat) := ez
  have zth := t12_thrown Q2 hgq True.intro
  rw [hth] at zth
  by_cases h0 : kBid P0 (xs (i + 1)) (xs (i + 2)) = 0
  · obtain ⟨er, I2⟩ := S1 h0
    rw [h0] at hW zth
    rw [if_pos rfl, mm_ou] at hW
    have hx2 := x_hI (M := mm (v5_work (vE P0 (xs (i + 1)) (xs (i + 2)) (cn 0) (cn 0) (cn 0) (cn 0) 25).2) P1 Q (clw cl t (cn ((25 + 1 : Nat) : Int)) (xs (i + 1)) (xs (i + 2)) (cn 0) (cn 0) (cn 0) (cn 0)) (cn ((t + 1 : Nat) : Int)) (cn f) (cn g) (vE P0 (xs (i + 1)) (xs (i + 2)) (cn 0) (cn 0) (cn 0) (cn 0) 25).1.toInt64 L xs e) okx2 z12 mm_2
    have hx3 := x_I (M := mm (v5_work (vE P0 (xs (i + 1)) (xs (i + 2)) (cn 0) (cn 0) (cn 0) (cn 0) 25).2) P1 Q2 (clw cl t (cn ((25 + 1 : Nat) : Int)) (xs (i + 1)) (xs (i + 2)) (cn 0) (cn 0) (cn 0) (cn 0)) (cn ((t + 1 : Nat) : Int)) (cn f) (cn g) (vE P0 (xs (i + 1)) (xs (i + 2)) (cn 0) (cn 0) (cn 0) (cn 0) 25).1.toInt64 L xs e) okx2 zth
    subst er
    obtain ⟨u5, u6, u7, hX⟩ := lw_25 (code := 0) (j5 := j5) (j6 := j6) (j7 := j7) hi hL scr_mm scr_mm (by decide) hW hx2 hx3 (fun _ => rfl)
    exact ⟨_, _, _, _, t + 1, f, g, _, e, u5, u6, u7, I2, by omega, by omega, hX⟩
  · have I2 := S2 h0
    rw [if_neg h0, mm_e] at hW
    have hx2 := x_hI (M := mm P0 P1 Q cl (cn t) (cn f) (cn g) ou L xs (e + 1)) okx2 z12 mm_2
    have hx3 := x_I (M := mm P0 P1 Q2 cl (cn t) (cn f) (cn g) ou L xs (e + 1)) okx2 zth
    obtain ⟨u5, u6, u7, hX⟩ := lw_25 (code := kBid P0 (xs (i + 1)) (xs (i + 2))) (j5 := j5) (j6 := j6) (j7 := j7) hi hL scr_mm scr_mm hc4 hW hx2 hx3 (fun h => absurd h h0)
    exact ⟨_, _, _, _, t, f, g, _, e + 1, u5, u6, u7, I2, by omega, by omega, hX⟩
theorem rd_26 (J : JN lg P0 P1 Q cl N T D t f g) (ht : t < 512) (hi : i + 7 ≤ L) (hL : L ≤ 3584) : RND 2294 i L xs e t j5 j6 j7 (mm P0 P1 Q cl (cn t) (cn f) (cn g) ou L xs e) := by
  obtain ⟨HO, ga, r, Q2, ea, ez, hgq, S1, S2⟩ := sem_ev (a := (cn 0)) (b := (cn 0)) (c := (cn 0)) (d := (cn 0)) (x := (cn 0)) (y := (cn 0)) (k := 26) (by decide) ht J
  have ekk : cn ((26 : Nat) : Int) = cn 26 := rfl
  rw [ekk] at ea ga
  have hF := fc_26 (P1 := P1) (Q := Q) (cl := cl) (kp := cn f) (fo := cn g) (ou := ou) (L := L) (xs := xs) (e := e) J.1 ht J.2.1.1 HO
  have hc4 := kE_lt P0 (cn 0) (cn 0) (cn 0) (cn 0) (cn 0) (cn 0) 26
  have hc : kClose P0 ≤ 1 := by unfold kClose; (repeat' split) <;> decide
  have hW := wr_405 hc hF
  have e12 : v12_closeOut Q = (r, Q2) := by unfold v12_closeOut bv12_closeOut; dsimp only; rw [ea]
  have g12 : g12_closeOut Q  := by unfold g12_closeOut bg12_closeOut; exact ⟨ga, True.intro⟩
  have z12 := t12_closeOut Q  J.2.1.2.2 g12
  rw [e12] at z12
  clear e12 g12 ga ea
  have hth : v12_thrown Q2 = cn (kClose P0 : Nat) := ez
  have zth := t12_thrown Q2 hgq True.intro
  rw [hth] at zth
  by_cases h0 : kClose P0 = 0
  · obtain ⟨er, I2⟩ := S1 h0
    rw [h0] at hW zth
    rw [if_pos rfl, mm_ou] at hW
    have hx2 := x_hI (M := mm (v5_work (vE P0 (cn 0) (cn 0) (cn 0) (cn 0) (cn 0) (cn 0) 26).2) P1 Q (clw cl t (cn ((26 + 1 : Nat) : Int)) (cn 0) (cn 0) (cn 0) (cn 0) (cn 0) (cn 0)) (cn ((t + 1 : Nat) : Int)) (cn f) (cn g) (vE P0 (cn 0) (cn 0) (cn 0) (cn 0) (cn 0) (cn 0) 26).1.toInt64 L xs e) okx2 z12 mm_2
    have hx3 := x_I (M := mm (v5_work (vE P0 (cn 0) (cn 0) (cn 0) (cn 0) (cn 0) (cn 0) 26).2) P1 Q2 (clw cl t (cn ((26 + 1 : Nat) : Int)) (cn 0) (cn 0) (cn 0) (cn 0) (cn 0) (cn 0)) (cn ((t + 1 : Nat) : Int)) (cn f) (cn g) (vE P0 (cn 0) (cn 0) (cn 0) (cn 0) (cn 0) (cn 0) 26).1.toInt64 L xs e) okx2 zth
    subst er
    obtain ⟨u5, u6, u7, hX⟩ := lw_26 (code := 0) (j5 := j5) (j6 := j6) (j7 := j7) hi hL scr_mm scr_mm (by decide) hW hx2 hx3 (fun _ => rfl)
    exact ⟨_, _, _, _, t + 1, f, g, _, e, u5, u6, u7, I2, by omega, by omega, hX⟩
  · have I2 := S2 h0
    rw [if_neg h0, mm_e] at hW
    have hx2 := x_hI (M := mm P0 P1 Q cl (cn t) (cn f) (cn g) ou L xs (e + 1)) okx2 z12 mm_2
    have hx3 := x_I (M := mm P0 P1 Q2 cl (cn t) (cn f) (cn g) ou L xs (e + 1)) okx2 zth
    obtain ⟨u5, u6, u7, hX⟩ := lw_26 (code := kClose P0) (j5 := j5) (j6 := j6) (j7 := j7) hi hL scr_mm scr_mm hc4 hW hx2 hx3 (fun h => absurd h h0)
    exact ⟨_, _, _, _, t, f, g, _, e + 1, u5, u6, u7, I2, by omega, by omega, hX⟩
end Roundc
