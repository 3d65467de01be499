/-! a round of the law: events -/
section Roundb
variable {P0 P1 Q : PM} {cl lg : Nat → Int32} {N T D t f g i L e : Nat} {xs : Nat → Int32} {ou : Int64} {j5 j6 j7 : AV}
theorem rd_9 (J : JN lg P0 P1 Q cl N T D t f g) (ht : t < 512) (hi : i + 7 ≤ L) (hL : L ≤ 3584) : RND 1074 i L xs e t j5 j6 j7 (mm P0 P1 Q cl (cn t) (cn f) (cn g) ou L xs e) := by
  obtain ⟨HO, ga, r, Q2, ea, ez, hgq, S1, S2⟩ := sem_ev (a := (xs (i + 1))) (b := (xs (i + 2))) (c := (cn 0)) (d := (cn 0)) (x := (cn 0)) (y := (cn 0)) (k := 9) (by decide) ht J
  have ekk : cn ((9 : Nat) : Int) = cn 9 := rfl
  rw [ekk] at ea ga
  have hF := fc_9 (P1 := P1) (Q := Q) (cl := cl) (kp := cn f) (fo := cn g) (ou := ou) (L := L) (xs := xs) (e := e) (a := (xs (i + 1))) (b := (xs (i + 2))) J.1 ht J.2.1.1 HO
  have hc4 := kE_lt P0 (xs (i + 1)) (xs (i + 2)) (cn 0) (cn 0) (cn 0) (cn 0) 9
  have hc : kProt (xs (i + 1)) (xs (i + 2)) ≤ 2 := by unfold kProt; (repeat' split) <;> decide
  have hW := wr_388 hc hF
  have e12 : v12_setProtection Q (xs (i + 1)) (xs (i + 2)) = (r, Q2) := by unfold v12_setProtection bv12_setProtection; dsimp only; rw [ea]
  have g12 : g12_setProtection Q (xs (i + 1)) (xs (i + 2)) := by unfold g12_setProtection bg12_setProtection; exact ⟨ga, True.intro⟩
  have z12 := t12_setProtection Q (xs (i + 1)) (xs (i + 2)) J.2.1.2.2 g12
  rw [e12] at z12
  clear e12 g12 ga ea
  have hth : v12_thrown Q2 = cn (kProt (xs (i + 1)) (xs (i + 2)) : Nat) := ez
  have zth := t12_thrown Q2 hgq True.intro
  rw [hth] at zth
  by_cases h0 : kProt (xs (i + 1)) (xs (i + 2)) = 0
  · obtain ⟨er, I2⟩ := S1 h0
    rw [h0] at hW zth
    rw [if_pos rfl, mm_ou] at hW
    have hx2 := x_hI (M := mm (v5_work (vE P0 (xs (i + 1)) (xs (i + 2)) (cn 0) (cn 0) (cn 0) (cn 0) 9).2) P1 Q (clw cl t (cn ((9 + 1 : Nat) : Int)) (xs (i + 1)) (xs (i + 2)) (cn 0) (cn 0) (cn 0) (cn 0)) (cn ((t + 1 : Nat) : Int)) (cn f) (cn g) (vE P0 (xs (i + 1)) (xs (i + 2)) (cn 0) (cn 0) (cn 0) (cn 0) 9).1.toInt64 L xs e) okx2 z12 mm_2
    have hx3 := x_I (M := mm (v5_work (vE P0 (xs (i + 1)) (xs (i + 2)) (cn 0) (cn 0) (cn 0) (cn 0) 9).2) P1 Q2 (clw cl t (cn ((9 + 1 : Nat) : Int)) (xs (i + 1)) (xs (i + 2)) (cn 0) (cn 0) (cn 0) (cn 0)) (cn ((t + 1 : Nat) : Int)) (cn f) (cn g) (vE P0 (xs (i + 1)) (xs (i + 2)) (cn 0) (cn 0) (cn 0) (cn 0) 9).1.toInt64 L xs e) okx2 zth
    subst er
    obtain ⟨u5, u6, u7, hX⟩ := lw_9 (code := 0) (j5 := j5) (j6 := j6) (j7 := j7) hi hL scr_mm scr_mm (by decide) hW hx2 hx3 (fun _ => rfl)
    exact ⟨_, _, _, _, t + 1, f, g, _, e, u5, u6, u7, I2, by omega, by omega, hX⟩
  · have I2 := S2 h0
    rw [if_neg h0, mm_e] at hW
    have hx2 := x_hI (M := mm P0 P1 Q cl (cn t) (cn f) (cn g) ou L xs (e + 1)) okx2 z12 mm_2
    have hx3 := x_I (M := mm P0 P1 Q2 cl (cn t) (cn f) (cn g) ou L xs (e + 1)) okx2 zth
    obtain ⟨u5, u6, u7, hX⟩ := lw_9 (code := kProt (xs (i + 1)) (xs (i + 2))) (j5 := j5) (j6 := j6) (j7 := j7) hi hL scr_mm scr_mm hc4 hW hx2 hx3 (fun h => absurd h h0)
    exact ⟨_, _, _, _, t, f, g, _, e + 1, u5, u6, u7, I2, by omega, by omega, hX⟩
theorem rd_10 (J : JN lg P0 P1 Q cl N T D t f g) (ht : t < 512) (hi : i + 7 ≤ L) (hL : L ≤ 3584) : RND 1142 i L xs e t j5 j6 j7 (mm P0 P1 Q cl (cn t) (cn f) (cn g) ou L xs e) := by
  obtain ⟨HO, ga, r, Q2, ea, ez, hgq, S1, S2⟩ := sem_ev (a := (xs (i + 1))) (b := (xs (i + 2))) (c := (xs (i + 3))) (d := (cn 0)) (x := (cn 0)) (y := (cn 0)) (k := 10) (by decide) ht J
  have ekk : cn ((10 : Nat) : Int) = cn 10 := rfl
  rw [ekk] at ea ga
  have hF := fc_10 (P1 := P1) (Q := Q) (cl := cl) (kp := cn f) (fo := cn g) (ou := ou) (L := L) (xs := xs) (e := e) (a := (xs (i + 1))) (b := (xs (i + 2))) (c := (xs (i + 3))) J.1 ht J.2.1.1 HO
  have hc4 := kE_lt P0 (xs (i + 1)) (xs (i + 2)) (xs (i + 3)) (cn 0) (cn 0) (cn 0) 10
  have hc : kMost (xs (i + 1)) (xs (i + 2)) (xs (i + 3)) ≤ 2 := by unfold kMost; (repeat' split) <;> decide
  have hW := wr_389 hc hF
  have e12 : v12_setLimit Q (xs (i + 1)) (xs (i + 2)) (xs (i + 3)) = (r, Q2) := by unfold v12_setLimit bv12_setLimit; dsimp only; rw [ea]
  have g12 : g12_setLimit Q (xs (i + 1)) (xs (i + 2)) (xs (i + 3)) := by unfold g12_setLimit bg12_setLimit; exact ⟨ga, True.intro⟩
  have z12 := t12_setLimit Q (xs (i + 1)) (xs (i + 2)) (xs (i + 3)) J.2.1.2.2 g12
  rw [e12] at z12
  clear e12 g12 ga ea
  have hth : v12_thrown Q2 = cn (kMost (xs (i + 1)) (xs (i + 2)) (xs (i + 3)) : Nat) := ez
  have zth := t12_thrown Q2 hgq True.intro
  rw [hth] at zth
  by_cases h0 : kMost (xs (i + 1)) (xs (i + 2)) (xs (i + 3)) = 0
  · obtain ⟨er, I2⟩ := S1 h0
    rw [h0] at hW zth
    rw [if_pos rfl, mm_ou] at hW
    have hx2 := x_hI (M := mm (v5_work (vE P0 (xs (i + 1)) (xs (i + 2)) (xs (i + 3)) (cn 0) (cn 0) (cn 0) 10).2) P1 Q (clw cl t (cn ((10 + 1 : Nat) : Int)) (xs (i + 1)) (xs (i + 2)) (xs (i + 3)) (cn 0) (cn 0) (cn 0)) (cn ((t + 1 : Nat) : Int)) (cn f) (cn g) (vE P0 (xs (i + 1)) (xs (i + 2)) (xs (i + 3)) (cn 0) (cn 0) (cn 0) 10).1.toInt64 L xs e) okx2 z12 mm_2
    have hx3 := x_I (M := mm (v5_work (vE P0 (xs (i + 1)) (xs (i + 2)) (xs (i + 3)) (cn 0) (cn 0) (cn 0) 10).2) P1 Q2 (clw cl t (cn ((10 + 1 : Nat) : Int)) (xs (i + 1)) (xs (i + 2)) (xs (i + 3)) (cn 0) (cn 0) (cn 0)) (cn ((t + 1 : Nat) : Int)) (cn f) (cn g) (vE P0 (xs (i + 1)) (xs (i + 2)) (xs (i + 3)) (cn 0) (cn 0) (cn 0) 10).1.toInt64 L xs e) okx2 zth
    subst er
    obtain ⟨u5, u6, u7, hX⟩ := lw_10 (code := 0) (j5 := j5) (j6 := j6) (j7 := j7) hi hL scr_mm scr_mm (by decide) hW hx2 hx3 (fun _ => rfl)
    exact ⟨_, _, _, _, t + 1, f, g, _, e, u5, u6, u7, I2, by omega, by omega, hX⟩
  · have I2 := S2 h0
    rw [if_neg h0, mm_e] at hW
    have hx2 := x_hI (M := mm P0 P1 Q cl (cn t) (cn f) (cn g) ou L xs (e + 1)) okx2 z12 mm_2
    have hx3 := x_I (M := mm P0 P1 Q2 cl (cn t) (cn f) (cn g) ou L xs (e + 1)) okx2 zth
    obtain ⟨u5, u6, u7, hX⟩ := lw_10 (code := kMost (xs (i + 1)) (xs (i + 2)) (xs (i + 3))) (j5 := j5) (j6 := j6) (j7 := j7) hi hL scr_mm scr_mm hc4 hW hx2 hx3 (fun h => absurd h h0)
    exact ⟨_, _, _, _, t, f, g, _, e + 1, u5, u6, u7, I2, by omega, by omega, hX⟩
theorem rd_11 (J : JN lg P0 P1 Q cl N T D t f g) (ht : t < 512) (hi : i + 7 ≤ L) (hL : L ≤ 3584) : RND 1222 i L xs e t j5 j6 j7 (mm P0 P1 Q cl (cn t) (cn f) (cn g) ou L xs e) := by
  obtain ⟨HO, ga, r, Q2, ea, ez, hgq, S1, S2⟩ := sem_ev (a := (xs (i + 1))) (b := (xs (i + 2))) (c := (xs (i + 3))) (d := (xs (i + 4))) (x := (cn 0)) (y := (cn 0)) (k := 11) (by decide) ht J
  have ekk : cn ((11 : Nat) : Int) = cn 11 := rfl
  rw [ekk] at ea ga
  have hF := fc_11 (P1 := P1) (Q := Q) (cl := cl) (kp := cn f) (fo := cn g) (ou := ou) (L := L) (xs := xs) (e := e) (a := (xs (i + 1))) (b := (xs (i + 2))) (c := (xs (i + 3))) (d := (xs (i + 4))) J.1 ht J.2.1.1 HO
  have hc4 := kE_lt P0 (xs (i + 1)) (xs (i + 2)) (xs (i + 3)) (xs (i + 4)) (cn 0) (cn 0) 11
  have hc : kAuction P0 (xs (i + 1)) (xs (i + 2)) (xs (i + 3)) (xs (i + 4)) ≤ 3 := Nat.le_of_lt_succ hc4
  have hW := wr_390 hc hF
  have e12 : v12_auction Q (xs (i + 1)) (xs (i + 2)) (xs (i + 3)) (xs (i + 4)) = (r, Q2) := by unfold v12_auction bv12_auction; dsimp only; rw [ea]
  have g12 : g12_auction Q (xs (i + 1)) (xs (i + 2)) (xs (i + 3)) (xs (i + 4)) := by unfold g12_auction bg12_auction; exact ⟨ga, True.intro⟩
  have z12 := t12_auction Q (xs (i + 1)) (xs (i + 2)) (xs (i + 3)) (xs (i + 4)) J.2.1.2.2 g12
  rw [e12] at z12
  clear e12 g12 ga ea
  have hth : v12_thrown Q2 = cn (kAuction P0 (xs (i + 1)) (xs (i + 2)) (xs (i + 3)) (xs (i + 4)) : Nat) := ez
  have zth := t12_thrown Q2 hgq True.intro
  rw [hth] at zth
  by_cases h0 : kAuction P0 (xs (i + 1)) (xs (i + 2)) (xs (i + 3)) (xs (i + 4)) = 0
  · obtain ⟨er, I2⟩ := S1 h0
    rw [h0] at hW zth
    rw [if_pos rfl, mm_ou] at hW
    have hx2 := x_hI (M := mm (v5_work (vE P0 (xs (i + 1)) (xs (i + 2)) (xs (i + 3)) (xs (i + 4)) (cn 0) (cn 0) 11).2) P1 Q (clw cl t (cn ((11 + 1 : Nat) : Int)) (xs (i + 1)) (xs (i + 2)) (xs (i + 3)) (xs (i + 4)) (cn 0) (cn 0)) (cn ((t + 1 : Nat) : Int)) (cn f) (cn g) (vE P0 (xs (i + 1)) (xs (i + 2)) (xs (i + 3)) (xs (i + 4)) (cn 0) (cn 0) 11).1.toInt64 L xs e) okx2 z12 mm_2
    have hx3 := x_I (M := mm (v5_work (vE P0 (xs (i + 1)) (xs (i + 2)) (xs (i + 3)) (xs (i + 4)) (cn 0) (cn 0) 11).2) P1 Q2 (clw cl t (cn ((11 + 1 : Nat) : Int)) (xs (i + 1)) (xs (i + 2)) (xs (i + 3)) (xs (i + 4)) (cn 0) (cn 0)) (cn ((t + 1 : Nat) : Int)) (cn f) (cn g) (vE P0 (xs (i + 1)) (xs (i + 2)) (xs (i + 3)) (xs (i + 4)) (cn 0) (cn 0) 11).1.toInt64 L xs e) okx2 zth
    subst er
    obtain ⟨u5, u6, u7, hX⟩ := lw_11 (code := 0) (j5 := j5) (j6 := j6) (j7 := j7) hi hL scr_mm scr_mm (by decide) hW hx2 hx3 (fun _ => rfl)
    exact ⟨_, _, _, _, t + 1, f, g, _, e, u5, u6, u7, I2, by omega, by omega, hX⟩
  · have I2 := S2 h0
    rw [if_neg h0, mm_e] at hW
    have hx2 := x_hI (M := mm P0 P1 Q cl (cn t) (cn f) (cn g) ou L xs (e + 1)) okx2 z12 mm_2
    have hx3 := x_I (M := mm P0 P1 Q2 cl (cn t) (cn f) (cn g) ou L xs (e + 1)) okx2 zth
    obtain ⟨u5, u6, u7, hX⟩ := lw_11 (code := kAuction P0 (xs (i + 1)) (xs (i + 2)) (xs (i + 3)) (xs (i + 4))) (j5 := j5) (j6 := j6) (j7 := j7) hi hL scr_mm scr_mm hc4 hW hx2 hx3 (fun h => absurd h h0)
    exact ⟨_, _, _, _, t, f, g, _, e + 1, u5, u6, u7, I2, by omega, by omega, hX⟩
theorem rd_12 (J : JN lg P0 P1 Q cl N T D t f g) (ht : t < 512) (hi : i + 7 ≤ L) (hL : L ≤ 3584) : RND 1314 i L xs e t j5 j6 j7 (mm P0 P1 Q cl (cn t) (cn f) (cn g) ou L xs e) := by
  obtain ⟨HO, ga, r, Q2, ea, ez, hgq, S1, S2⟩ := sem_ev (a := (xs (i + 1))) (b := (cn 0)) (c := (cn 0)) (d := (cn 0)) (x := (cn 0)) (y := (cn 0)) (k := 12) (by decide) ht J
  have ekk : cn ((12 : Nat) : Int) = cn 12 := rfl
  rw [ekk] at ea ga
  have hF := fc_12 (P1 := P1) (Q := Q) (cl := cl) (kp := cn f) (fo := cn g) (ou := ou) (L := L) (xs := xs) (e := e) (a := (xs (i + 1))) J.1 ht J.2.1.1 HO
  have hc4 := kE_lt P0 (xs (i + 1)) (cn 0) (cn 0) (cn 0) (cn 0) (cn 0) 12
  have hc : kPass (xs (i + 1)) ≤ 1 := by unfold kPass; (repeat' split) <;> decide
  have hW := wr_391 hc hF
  have e12 : v12_pass Q (xs (i + 1)) = (r, Q2) := by unfold v12_pass bv12_pass; dsimp only; rw [ea]
  have g12 : g12_pass Q (xs (i + 1)) := by unfold g12_pass bg12_pass; exact ⟨ga, True.intro⟩
  have z12 := t12_pass Q (xs (i + 1)) J.2.1.2.2 g12
  rw [e12] at z12
  clear e12 g12 ga ea
  have hth : v12_thrown Q2 = cn (kPass (xs (i + 1)) : Nat) := ez
  have zth := t12_thrown Q2 hgq True.intro
  rw [hth] at zth
  by_cases h0 : kPass (xs (i + 1)) = 0
  · obtain ⟨er, I2⟩ := S1 h0
    rw [h0] at hW zth
    rw [if_pos rfl, mm_ou] at hW
    have hx2 := x_hI (M := mm (v5_work (vE P0 (xs (i + 1)) (cn 0) (cn 0) (cn 0) (cn 0) (cn 0) 12).2) P1 Q (clw cl t (cn ((12 + 1 : Nat) : Int)) (xs (i + 1)) (cn 0) (cn 0) (cn 0) (cn 0) (cn 0)) (cn ((t + 1 : Nat) : Int)) (cn f) (cn g) (vE P0 (xs (i + 1)) (cn 0) (cn 0) (cn 0) (cn 0) (cn 0) 12).1.toInt64 L xs e) okx2 z12 mm_2
    have hx3 := x_I (M := mm (v5_work (vE P0 (xs (i + 1)) (cn 0) (cn 0) (cn 0) (cn 0) (cn 0) 12).2) P1 Q2 (clw cl t (cn ((12 + 1 : Nat) : Int)) (xs (i + 1)) (cn 0) (cn 0) (cn 0) (cn 0) (cn 0)) (cn ((t + 1 : Nat) : Int)) (cn f) (cn g) (vE P0 (xs (i + 1)) (cn 0) (cn 0) (cn 0) (cn 0) (cn 0) 12).1.toInt64 L xs e) okx2 zth
    subst er
    obtain ⟨u5, u6, u7, hX⟩ := lw_12 (code := 0) (j5 := j5) (j6 := j6) (j7 := j7) hi hL scr_mm scr_mm (by decide) hW hx2 hx3 (fun _ => rfl)
    exact ⟨_, _, _, _, t + 1, f, g, _, e, u5, u6, u7, I2, by omega, by omega, hX⟩
  · have I2 := S2 h0
    rw [if_neg h0, mm_e] at hW
    have hx2 := x_hI (M := mm P0 P1 Q cl (cn t) (cn f) (cn g) ou L xs (e + 1)) okx2 z12 mm_2
    have hx3 := x_I (M := mm P0 P1 Q2 cl (cn t) (cn f) (cn g) ou L xs (e + 1)) okx2 zth
    obtain ⟨u5, u6, u7, hX⟩ := lw_12 (code := kPass (xs (i + 1))) (j5 := j5) (j6 := j6) (j7 := j7) hi hL scr_mm scr_mm hc4 hW hx2 hx3 (fun h => absurd h h0)
    exact ⟨_, _, _, _, t, f, g, _, e + 1, u5, u6, u7, I2, by omega, by omega, hX⟩
theorem rd_13 (J : JN lg P0 P1 Q cl N T D t f g) (ht : t < 512) (hi : i + 7 ≤ L) (hL : L ≤ 3584) : RND 1370 i L xs e t j5 j6 j7 (mm P0 P1 Q cl (cn t) (cn f) (cn g) ou L xs e) := by
  obtain ⟨HO, ga, r, Q2, ea, ez, hgq, S1, S2⟩ := sem_ev (a := (cn 0)) (b := (cn 0)) (c := (cn 0)) (d := (cn 0)) (x := (cn 0)) (y := (cn 0)) (k := 13) (by decide) ht J
  have ekk : cn ((13 : Nat) : Int) = cn 13 := rfl
  rw [ekk] at ea ga
  have hF := fc_13 (P1 := P1) (Q := Q) (cl := cl) (kp := cn f) (fo := cn g) (ou := ou) (L := L) (xs := xs) (e := e) J.1 ht J.2.1.1 HO
  have hc4 := kE_lt P0 (cn 0) (cn 0) (cn 0) (cn 0) (cn 0) (cn 0) 13
  have hc : kDay P0 ≤ 1 := by unfold kDay; (repeat' split) <;> decide
  have hW := wr_392 hc hF
  have e12 : v12_endDay Q = (r, Q2) := by unfold v12_endDay bv12_endDay; dsimp only; rw [ea]
  have g12 : g12_endDay Q  := by unfold g12_endDay bg12_endDay; exact ⟨ga, True.intro⟩
  have z12 := t12_endDay Q  J.2.1.2.2 g12
  rw [e12] at z12
  clear e12 g12 ga ea
  have hth : v12_thrown Q2 = cn (kDay P0 : Nat) := ez
  have zth := t12_thrown Q2 hgq True.intro
  rw [hth] at zth
  by_cases h0 : kDay P0 = 0
  · obtain ⟨er, I2⟩ := S1 h0
    rw [h0] at hW zth
    rw [if_pos rfl, mm_ou] at hW
    have hx2 := x_hI (M := mm (v5_work (vE P0 (cn 0) (cn 0) (cn 0) (cn 0) (cn 0) (cn 0) 13).2) P1 Q (clw cl t (cn ((13 + 1 : Nat) : Int)) (cn 0) (cn 0) (cn 0) (cn 0) (cn 0) (cn 0)) (cn ((t + 1 : Nat) : Int)) (cn f) (cn g) (vE P0 (cn 0) (cn 0) (cn 0) (cn 0) (cn 0) (cn 0) 13).1.toInt64 L xs e) okx2 z12 mm_2
    have hx3 := x_I (M := mm (v5_work (vE P0 (cn 0) (cn 0) (cn 0) (cn 0) (cn 0) (cn 0) 13).2) P1 Q2 (clw cl t (cn ((13 + 1 : Nat) : Int)) (cn 0) (cn 0) (cn 0) (cn 0) (cn 0) (cn 0)) (cn ((t + 1 : Nat) : Int)) (cn f) (cn g) (vE P0 (cn 0) (cn 0) (cn 0) (cn 0) (cn 0) (cn 0) 13).1.toInt64 L xs e) okx2 zth
    subst er
    obtain ⟨u5, u6, u7, hX⟩ := lw_13 (code := 0) (j5 := j5) (j6 := j6) (j7 := j7) hi hL scr_mm scr_mm (by decide) hW hx2 hx3 (fun _ => rfl)
    exact ⟨_, _, _, _, t + 1, f, g, _, e, u5, u6, u7, I2, by omega, by omega, hX⟩
  · have I2 := S2 h0
    rw [if_neg h0, mm_e] at hW
    have hx2 := x_hI (M := mm P0 P1 Q cl (cn t) (cn f) (cn g) ou L xs (e + 1)) okx2 z12 mm_2
    have hx3 := x_I (M := mm P0 P1 Q2 cl (cn t) (cn f) (cn g) ou L xs (e + 1)) okx2 zth
    obtain ⟨u5, u6, u7, hX⟩ := lw_13 (code := kDay P0) (j5 := j5) (j6 := j6) (j7 := j7) hi hL scr_mm scr_mm hc4 hW hx2 hx3 (fun h => absurd h h0)
    exact ⟨_, _, _, _, t, f, g, _, e + 1, u5, u6, u7, I2, by omega, by omega, hX⟩
theorem rd_14 (J : JN lg P0 P1 Q cl N T D t f g) (ht : t < 512) (hi : i + 7 ≤ L) (hL : L ≤ 3584) : RND 1414 i L xs e t j5 j6 j7 (mm P0 P1 Q cl (cn t) (cn f) (cn g) ou L xs e) := by
  obtain ⟨HO, ga, r, Q2, ea, ez, hgq, S1, S2⟩ := sem_ev (a := (xs (i + 1))) (b := (cn 0)) (c := (cn 0)) (d := (cn 0)) (x := (cn 0)) (y := (cn 0)) (k := 14) (by decide) ht J
  have ekk : cn ((14 : Nat) : Int) = cn 14 := rfl
  rw [ekk] at ea ga
  have hF := fc_14 (P1 := P1) (Q := Q) (cl := cl) (kp := cn f) (fo := cn g) (ou := ou) (L := L) (xs := xs) (e := e) (a := (xs (i + 1))) J.1 ht J.2.1.1 HO
  have hc4 := kE_lt P0 (xs (i + 1)) (cn 0) (cn 0) (cn 0) (cn 0) (cn 0) 14
  have hc : kBust P0 (xs (i + 1)) ≤ 2 := by unfold kBust; (repeat' split) <;> decide
  have hW := wr_393 hc hF
  have e12 : v12_bust Q (xs (i + 1)) = (r, Q2) := by unfold v12_bust bv12_bust; dsimp only; rw [ea]
  have g12 : g12_bust Q (xs (i + 1)) := by unfold g12_bust bg12_bust; exact ⟨ga, True.intro⟩
  have z12 := t12_bust Q (xs (i + 1)) J.2.1.2.2 g12
  rw [e12] at z12
  clear e12 g12 ga ea
  have hth : v12_thrown Q2 = cn (kBust P0 (xs (i + 1)) : Nat) := ez
  have zth := t12_thrown Q2 hgq True.intro
  rw [hth] at zth
  by_cases h0 : kBust P0 (xs (i + 1)) = 0
  · obtain ⟨er, I2⟩ := S1 h0
    rw [h0] at hW zth
    rw [if_pos rfl, mm_ou] at hW
    have hx2 := x_hI (M := mm (v5_work (vE P0 (xs (i + 1)) (cn 0) (cn 0) (cn 0) (cn 0) (cn 0) 14).2) P1 Q (clw cl t (cn ((14 + 1 : Nat) : Int)) (xs (i + 1)) (cn 0) (cn 0) (cn 0) (cn 0) (cn 0)) (cn ((t + 1 : Nat) : Int)) (cn f) (cn g) (vE P0 (xs (i + 1)) (cn 0) (cn 0) (cn 0) (cn 0) (cn 0) 14).1.toInt64 L xs e) okx2 z12 mm_2
    have hx3 := x_I (M := mm (v5_work (vE P0 (xs (i + 1)) (cn 0) (cn 0) (cn 0) (cn 0) (cn 0) 14).2) P1 Q2 (clw cl t (cn ((14 + 1 : Nat) : Int)) (xs (i + 1)) (cn 0) (cn 0) (cn 0) (cn 0) (cn 0)) (cn ((t + 1 : Nat) : Int)) (cn f) (cn g) (vE P0 (xs (i + 1)) (cn 0) (cn 0) (cn 0) (cn 0) (cn 0) 14).1.toInt64 L xs e) okx2 zth
    subst er
    obtain ⟨u5, u6, u7, hX⟩ := lw_14 (code := 0) (j5 := j5) (j6 := j6) (j7 := j7) hi hL scr_mm scr_mm (by decide) hW hx2 hx3 (fun _ => rfl)
    exact ⟨_, _, _, _, t + 1, f, g, _, e, u5, u6, u7, I2, by omega, by omega, hX⟩
  · have I2 := S2 h0
    rw [if_neg h0, mm_e] at hW
    have hx2 := x_hI (M := mm P0 P1 Q cl (cn t) (cn f) (cn g) ou L xs (e + 1)) okx2 z12 mm_2
    have hx3 := x_I (M := mm P0 P1 Q2 cl (cn t) (cn f) (cn g) ou L xs (e + 1)) okx2 zth
    obtain ⟨u5, u6, u7, hX⟩ := lw_14 (code := kBust P0 (xs (i + 1))) (j5 := j5) (j6 := j6) (j7 := j7) hi hL scr_mm scr_mm hc4 hW hx2 hx3 (fun h => absurd h h0)
    exact ⟨_, _, _, _, t, f, g, _, e + 1, u5, u6, u7, I2, by omega, by omega, hX⟩
theorem rd_15 (J : JN lg P0 P1 Q cl N T D t f g) (ht : t < 512) (hi : i + 7 ≤ L) (hL : L ≤ 3584) : RND 1470 i L xs e t j5 j6 j7 (mm P0 P1 Q cl (cn t) (cn f) (cn g) ou L xs e) := by
  obtain ⟨HO, ga, r, Q2, ea, ez, hgq, S1, S2⟩ := sem_ev (a := (xs (i + 1))) (b := (xs (i + 2))) (c := (cn 0)) (d := (cn 0)) (x := (cn 0)) (y := (cn 0)) (k := 15) (by decide) ht J
  have ekk : cn ((15 : Nat) : Int) = cn 15 := rfl
  rw [ekk] at ea ga
  have hF := fc_15 (P1 := P1) (Q := Q) (cl := cl) (kp := cn f) (fo := cn g) (ou := ou) (L := L) (xs := xs) (e := e) (a := (xs (i + 1))) (b := (xs (i + 2))) J.1 ht J.2.1.1 HO
  have hc4 := kE_lt P0 (xs (i + 1)) (xs (i + 2)) (cn 0) (cn 0) (cn 0) (cn 0) 15
  have hc : kAdjust P0 (xs (i + 1)) (xs (i + 2)) ≤ 3 := Nat.le_of_lt_succ hc4
  have hW := wr_394 hc hF
  have e12 : v12_adjust Q (xs (i + 1)) (xs (i + 2)) = (r, Q2) := by unfold v12_adjust bv12_adjust; dsimp only; rw [ea]
  have g12 : g12_adjust Q (xs (i + 1)) (xs (i + 2)) := by unfold g12_adjust bg12_adjust; exact ⟨ga, True.intro⟩
  have z12 := t12_adjust Q (xs (i + 1)) (xs (i + 2)) J.2.1.2.2 g12
  rw [e12] at z12
  clear e12 g12 ga ea
  have hth : v12_thrown Q2 = cn (kAdjust P0 (xs (i + 1)) (xs (i + 2)) : Nat) := ez
  have zth := t12_thrown Q2 hgq True.intro
  rw [hth] at zth
  by_cases h0 : kAdjust P0 (xs (i + 1)) (xs (i + 2)) = 0
  · obtain ⟨er, I2⟩ := S1 h0
    rw [h0] at hW zth
    rw [if_pos rfl, mm_ou] at hW
    have hx2 := x_hI (M := mm (v5_work (vE P0 (xs (i + 1)) (xs (i + 2)) (cn 0) (cn 0) (cn 0) (cn 0) 15).2) P1 Q (clw cl t (cn ((15 + 1 : Nat) : Int)) (xs (i + 1)) (xs (i + 2)) (cn 0) (cn 0) (cn 0) (cn 0)) (cn ((t + 1 : Nat) : Int)) (cn f) (cn g) (vE P0 (xs (i + 1)) (xs (i + 2)) (cn 0) (cn 0) (cn 0) (cn 0) 15).1.toInt64 L xs e) okx2 z12 mm_2
    have hx3 := x_I (M := mm (v5_work (vE P0 (xs (i + 1)) (xs (i + 2)) (cn 0) (cn 0) (cn 0) (cn 0) 15).2) P1 Q2 (clw cl t (cn ((15 + 1 : Nat) : Int)) (xs (i + 1)) (xs (i + 2)) (cn 0) (cn 0) (cn 0) (cn 0)) (cn ((t + 1 : Nat) : Int)) (cn f) (cn g) (vE P0 (xs (i + 1)) (xs (i + 2)) (cn 0) (cn 0) (cn 0) (cn 0) 15).1.toInt64 L xs e) okx2 zth
    subst er
    obtain ⟨u5, u6, u7, hX⟩ := lw_15 (code := 0) (j5 := j5) (j6 := j6) (j7 := j7) hi hL scr_mm scr_mm (by decide) hW hx2 hx3 (fun _ => rfl)
    exact ⟨_, _, _, _, t + 1, f, g, _, e, u5, u6, u7, I2, by omega, by omega, hX⟩
  · have I2 := S2 h0
    rw [if_neg h0, mm_e] at hW
    have hx2 := x_hI (M := mm P0 P1 Q cl (cn t) (cn f) (cn g) ou L xs (e + 1)) okx2 z12 mm_2
    have hx3 := x_I (M := mm P0 P1 Q2 cl (cn t) (cn f) (cn g) ou L xs (e + 1)) okx2 zth
    obtain ⟨u5, u6, u7, hX⟩ := lw_15 (code := kAdjust P0 (xs (i + 1)) (xs (i + 2))) (j5 := j5) (j6 := j6) (j7 := j7) hi hL scr_mm scr_mm hc4 hW hx2 hx3 (fun h => absurd h h0)
    exact ⟨_, _, _, _, t, f, g, _, e + 1, u5, u6, u7, I2, by omega, by omega, hX⟩
theorem rd_16 (J : JN lg P0 P1 Q cl N T D t f g) (ht : t < 512) (hi : i + 7 ≤ L) (hL : L ≤ 3584) : RND 1538 i L xs e t j5 j6 j7 (mm P0 P1 Q cl (cn t) (cn f) (cn g) ou L xs e) := by
  by_cases hbx : xs (i + 2) = 0
  · have hbb : bzz (xs (i + 2)) = cn 0 := if_pos hbx
    obtain ⟨HO, ga, r, Q2, ea, ez, hgq, S1, S2⟩ := sem_ev (a := (xs (i + 1))) (b := (cn 0)) (c := (xs (i + 3))) (d := (cn 0)) (x := (cn 0)) (y := (cn 0)) (k := 16) (by decide) ht J
    have ekk : cn ((16 : Nat) : Int) = cn 16 := rfl
    rw [ekk] at ea ga
    have hF := fc_16 (P1 := P1) (Q := Q) (cl := cl) (kp := cn f) (fo := cn g) (ou := ou) (L := L) (xs := xs) (e := e) (a := (xs (i + 1))) (b := (cn 0)) (c := (xs (i + 3))) (Or.inl rfl) J.1 ht J.2.1.1 HO
    have hc4 := kE_lt P0 (xs (i + 1)) (cn 0) (xs (i + 3)) (cn 0) (cn 0) (cn 0) 16
    have hc : kGive P0 (xs (i + 1)) (xs (i + 3)) ≤ 2 := by unfold kGive; (repeat' split) <;> decide
    have hW := wr_395 hc hF
    have e12 : v12_giveUp Q (xs (i + 1)) (cn 0) (xs (i + 3)) = (r, Q2) := by unfold v12_giveUp bv12_giveUp; rw [if_pos (show cn 0 = (0 : Int32) from rfl)]; dsimp only; rw [ea]
    have g12 : g12_giveUp Q (xs (i + 1)) (cn 0) (xs (i + 3)) := by unfold g12_giveUp bg12_giveUp; rw [if_pos (show cn 0 = (0 : Int32) from rfl)]; exact ⟨ga, True.intro⟩
    have z12 := t12_giveUp Q (xs (i + 1)) (cn 0) (xs (i + 3)) J.2.1.2.2 g12
    rw [e12] at z12
    clear e12 g12 ga ea
    have hth : v12_thrown Q2 = cn (kGive P0 (xs (i + 1)) (xs (i + 3)) : Nat) := ez
    have zth := t12_thrown Q2 hgq True.intro
    rw [hth] at zth
    by_cases h0 : kGive P0 (xs (i + 1)) (xs (i + 3)) = 0
    · obtain ⟨er, I2⟩ := S1 h0
      rw [h0] at hW zth
      rw [if_pos rfl, mm_ou] at hW
      have hx2 := x_hI (M := mm (v5_work (vE P0 (xs (i + 1)) (cn 0) (xs (i + 3)) (cn 0) (cn 0) (cn 0) 16).2) P1 Q (clw cl t (cn ((16 + 1 : Nat) : Int)) (xs (i + 1)) (cn 0) (xs (i + 3)) (cn 0) (cn 0) (cn 0)) (cn ((t + 1 : Nat) : Int)) (cn f) (cn g) (vE P0 (xs (i + 1)) (cn 0) (xs (i + 3)) (cn 0) (cn 0) (cn 0) 16).1.toInt64 L xs e) okx2 z12 mm_2
      have hx3 := x_I (M := mm (v5_work (vE P0 (xs (i + 1)) (cn 0) (xs (i + 3)) (cn 0) (cn 0) (cn 0) 16).2) P1 Q2 (clw cl t (cn ((16 + 1 : Nat) : Int)) (xs (i + 1)) (cn 0) (xs (i + 3)) (cn 0) (cn 0) (cn 0)) (cn ((t + 1 : Nat) : Int)) (cn f) (cn g) (vE P0 (xs (i + 1)) (cn 0) (xs (i + 3)) (cn 0) (cn 0) (cn 0) 16).1.toInt64 L xs e) okx2 zth
      subst er
      obtain ⟨u5, u6, u7, hX⟩ := lw_16 (code := 0) (j5 := j5) (j6 := j6) (j7 := j7) hi hL scr_mm scr_mm (by decide) (by rw [hbb]; exact hW) (by rw [hbb]; exact hx2) hx3 (fun _ => rfl)
      exact ⟨_, _, _, _, t + 1, f, g, _, e, u5, u6, u7, I2, by omega, by omega, hX⟩
    · have I2 := S2 h0
      rw [if_neg h0, mm_e] at hW
      have hx2 := x_hI (M := mm P0 P1 Q cl (cn t) (cn f) (cn g) ou L xs (e + 1)) okx2 z12 mm_2
      have hx3 := x_I (M := mm P0 P1 Q2 cl (cn t) (cn f) (cn g) ou L xs (e + 1)) okx2 zth
      obtain ⟨u5, u6, u7, hX⟩ := lw_16 (code := kGive P0 (xs (i + 1)) (xs (i + 3))) (j5 := j5) (j6 := j6) (j7 := j7) hi hL scr_mm scr_mm hc4 (by rw [hbb]; exact hW) (by rw [hbb]; exact hx2) hx3 (fun h => absurd h h0)
      exact ⟨_, _, _, _, t, f, g, _, e + 1, u5, u6, u7, I2, by omega, by omega, hX⟩
  · have hbb : bzz (xs (i + 2)) = cn 1 := if_neg hbx
    obtain ⟨HO, ga, r, Q2, ea, ez, hgq, S1, S2⟩ := sem_ev (a := (xs (i + 1))) (b := (cn 1)) (c := (xs (i + 3))) (d := (cn 0)) (x := (cn 0)) (y := (cn 0)) (k := 16) (by decide) ht J
    have ekk : cn ((16 : Nat) : Int) = cn 16 := rfl
    rw [ekk] at ea ga
    have hF := fc_16 (P1 := P1) (Q := Q) (cl := cl) (kp := cn f) (fo := cn g) (ou := ou) (L := L) (xs := xs) (e := e) (a := (xs (i + 1))) (b := (cn 1)) (c := (xs (i + 3))) (Or.inr rfl) J.1 ht J.2.1.1 HO
    have hc4 := kE_lt P0 (xs (i + 1)) (cn 1) (xs (i + 3)) (cn 0) (cn 0) (cn 0) 16
    have hc : kGive P0 (xs (i + 1)) (xs (i + 3)) ≤ 2 := by unfold kGive; (repeat' split) <;> decide
    have hW := wr_395 hc hF
    have e12 : v12_giveUp Q (xs (i + 1)) (cn 1) (xs (i + 3)) = (r, Q2) := by unfold v12_giveUp bv12_giveUp; rw [if_neg (show ¬ cn 1 = (0 : Int32) by decide)]; dsimp only; rw [ea]
    have g12 : g12_giveUp Q (xs (i + 1)) (cn 1) (xs (i + 3)) := by unfold g12_giveUp bg12_giveUp; rw [if_neg (show ¬ cn 1 = (0 : Int32) by decide)]; exact ⟨ga, True.intro⟩
    have z12 := t12_giveUp Q (xs (i + 1)) (cn 1) (xs (i + 3)) J.2.1.2.2 g12
    rw [e12] at z12
    clear e12 g12 ga ea
    have hth : v12_thrown Q2 = cn (kGive P0 (xs (i + 1)) (xs (i + 3)) : Nat) := ez
    have zth := t12_thrown Q2 hgq True.intro
    rw [hth] at zth
    by_cases h0 : kGive P0 (xs (i + 1)) (xs (i + 3)) = 0
    · obtain ⟨er, I2⟩ := S1 h0
      rw [h0] at hW zth
      rw [if_pos rfl, mm_ou] at hW
      have hx2 := x_hI (M := mm (v5_work (vE P0 (xs (i + 1)) (cn 1) (xs (i + 3)) (cn 0) (cn 0) (cn 0) 16).2) P1 Q (clw cl t (cn ((16 + 1 : Nat) : Int)) (xs (i + 1)) (cn 1) (xs (i + 3)) (cn 0) (cn 0) (cn 0)) (cn ((t + 1 : Nat) : Int)) (cn f) (cn g) (vE P0 (xs (i + 1)) (cn 1) (xs (i + 3)) (cn 0) (cn 0) (cn 0) 16).1.toInt64 L xs e) okx2 z12 mm_2
      have hx3 := x_I (M := mm (v5_work (vE P0 (xs (i + 1)) (cn 1) (xs (i + 3)) (cn 0) (cn 0) (cn 0) 16).2) P1 Q2 (clw cl t (cn ((16 + 1 : Nat) : Int)) (xs (i + 1)) (cn 1) (xs (i + 3)) (cn 0) (cn 0) (cn 0)) (cn ((t + 1 : Nat) : Int)) (cn f) (cn g) (vE P0 (xs (i + 1)) (cn 1) (xs (i + 3)) (cn 0) (cn 0) (cn 0) 16).1.toInt64 L xs e) okx2 zth
      subst er
      obtain ⟨u5, u6, u7, hX⟩ := lw_16 (code := 0) (j5 := j5) (j6 := j6) (j7 := j7) hi hL scr_mm scr_mm (by decide) (by rw [hbb]; exact hW) (by rw [hbb]; exact hx2) hx3 (fun _ => rfl)
      exact ⟨_, _, _, _, t + 1, f, g, _, e, u5, u6, u7, I2, by omega, by omega, hX⟩
    · have I2 := S2 h0
      rw [if_neg h0, mm_e] at hW
      have hx2 := x_hI (M := mm P0 P1 Q cl (cn t) (cn f) (cn g) ou L xs (e + 1)) okx2 z12 mm_2
      have hx3 := x_I (M := mm P0 P1 Q2 cl (cn t) (cn f) (cn g) ou L xs (e + 1)) okx2 zth
      obtain ⟨u5, u6, u7, hX⟩ := lw_16 (code := kGive P0 (xs (i + 1)) (xs (i + 3))) (j5 := j5) (j6 := j6) (j7 := j7) hi hL scr_mm scr_mm hc4 (by rw [hbb]; exact hW) (by rw [hbb]; exact hx2) hx3 (fun h => absurd h h0)
      exact ⟨_, _, _, _, t, f, g, _, e + 1, u5, u6, u7, I2, by omega, by omega, hX⟩
theorem rd_17 (J : JN lg P0 P1 Q cl N T D t f g) (ht : t < 512) (hi : i + 7 ≤ L) (hL : L ≤ 3584) : RND 1634 i L xs e t j5 j6 j7 (mm P0 P1 Q cl (cn t) (cn f) (cn g) ou L xs e) := by
  obtain ⟨HO, ga, r, Q2, ea, ez, hgq, S1, S2⟩ := sem_ev (a := (xs (i + 1))) (b := (xs (i + 2))) (c := (xs (i + 3))) (d := (xs (i + 4))) (x := (cn 0)) (y := (cn 0)) (k := 17) (by decide) ht J
  have ekk : cn ((17 : Nat) : Int) = cn 17 := rfl
  rw [ekk] at ea ga
  have hF := fc_17 (P1 := P1) (Q := Q) (cl := cl) (kp := cn f) (fo := cn g) (ou := ou) (L := L) (xs := xs) (e := e) (a := (xs (i + 1))) (b := (xs (i + 2))) (c := (xs (i + 3))) (d := (xs (i + 4))) J.1 ht J.2.1.1 HO
  have hc4 := kE_lt P0 (xs (i + 1)) (xs (i + 2)) (xs (i + 3)) (xs (i + 4)) (cn 0) (cn 0) 17
  have hc : kAllot P0 (xs (i + 1)) (xs (i + 2)) (xs (i + 3)) (xs (i + 4)) ≤ 3 := Nat.le_of_lt_succ hc4
  have hW := wr_396 hc hF
  have e12 : v12_allot Q (xs (i + 1)) (xs (i + 2)) (xs (i + 3)) (xs (i + 4)) = (r, Q2) := by unfold v12_allot bv12_allot; dsimp only; rw [ea]
  have g12 : g12_allot Q (xs (i + 1)) (xs (i + 2)) (xs (i + 3)) (xs (i + 4)) := by unfold g12_allot bg12_allot; exact ⟨ga, True.intro⟩
  have z12 := t12_allot Q (xs (i + 1)) (xs (i + 2)) (xs (i + 3)) (xs (i + 4)) J.2.1.2.2 g12
  rw [e12] at z12
  clear e12 g12 ga ea
  have hth : v12_thrown Q2 = cn (kAllot P0 (xs (i + 1)) (xs (i + 2)) (xs (i + 3)) (xs (i + 4)) : Nat) := ez
  have zth := t12_thrown Q2 hgq True.intro
  rw [hth] at zth
  by_cases h0 : kAllot P0 (xs (i + 1)) (xs (i + 2)) (xs (i + 3)) (xs (i + 4)) = 0
  · obtain ⟨er, I2⟩ := S1 h0
    rw [h0] at hW zth
    rw [if_pos rfl, mm_ou] at hW
    have hx2 := x_hI (M := mm (v5_work (vE P0 (xs (i + 1)) (xs (i + 2)) (xs (i + 3)) (xs (i + 4)) (cn 0) (cn 0) 17).2) P1 Q (clw cl t (cn ((17 + 1 : Nat) : Int)) (xs (i + 1)) (xs (i + 2)) (xs (i + 3)) (xs (i + 4)) (cn 0) (cn 0)) (cn ((t + 1 : Nat) : Int)) (cn f) (cn g) (vE P0 (xs (i + 1)) (xs (i + 2)) (xs (i + 3)) (xs (i + 4)) (cn 0) (cn 0) 17).1.toInt64 L xs e) okx2 z12 mm_2
    have hx3 := x_I (M := mm (v5_work (vE P0 (xs (i + 1)) (xs (i + 2)) (xs (i + 3)) (xs (i + 4)) (cn 0) (cn 0) 17).2) P1 Q2 (clw cl t (cn ((17 + 1 : Nat) : Int)) (xs (i + 1)) (xs (i + 2)) (xs (i + 3)) (xs (i + 4)) (cn 0) (cn 0)) (cn ((t + 1 : Nat) : Int)) (cn f) (cn g) (vE P0 (xs (i + 1)) (xs (i + 2)) (xs (i + 3)) (xs (i + 4)) (cn 0) (cn 0) 17).1.toInt64 L xs e) okx2 zth
    subst er
    obtain ⟨u5, u6, u7, hX⟩ := lw_17 (code := 0) (j5 := j5) (j6 := j6) (j7 := j7) hi hL scr_mm scr_mm (by decide) hW hx2 hx3 (fun _ => rfl)
    exact ⟨_, _, _, _, t + 1, f, g, _, e, u5, u6, u7, I2, by omega, by omega, hX⟩
  · have I2 := S2 h0
    rw [if_neg h0, mm_e] at hW
    have hx2 := x_hI (M := mm P0 P1 Q cl (cn t) (cn f) (cn g) ou L xs (e + 1)) okx2 z12 mm_2
    have hx3 := x_I (M := mm P0 P1 Q2 cl (cn t) (cn f) (cn g) ou L xs (e + 1)) okx2 zth
    obtain ⟨u5, u6, u7, hX⟩ := lw_17 (code := kAllot P0 (xs (i + 1)) (xs (i + 2)) (xs (i + 3)) (xs (i + 4))) (j5 := j5) (j6 := j6) (j7 := j7) hi hL scr_mm scr_mm hc4 hW hx2 hx3 (fun h => absurd h h0)
    exact ⟨_, _, _, _, t, f, g, _, e + 1, u5, u6, u7, I2, by omega, by omega, hX⟩
end Roundb
