/-! a round of the law: questions -/
section Roundd
variable {P0 P1 Q : PM} {cl lg : Nat → Int32} {N T D t f g i L e : Nat} {xs : Nat → Int32} {ou : Int64} {j5 j6 j7 : AV}
theorem rd_32 (J : JN lg P0 P1 Q cl N T D t f g) (ht : t < 512) (hi : i + 7 ≤ L) (hL : L ≤ 3584) : RND 2529 i L xs e t j5 j6 j7 (mm P0 P1 Q cl (cn t) (cn f) (cn g) ou L xs e) := by
  obtain ⟨g12, hA2, hA1⟩ := ask_best (b := (xs (i + 1))) (t := (bzz (xs (i + 2)))) J.1.1
  have z12 := t12_best Q (xs (i + 1)) (bzz (xs (i + 2))) J.2.1.2.2 g12
  generalize v12_best Q (xs (i + 1)) (bzz (xs (i + 2))) = r at z12 hA1 hA2
  have hgq := gr_I z12
  have hF := fq_185 (P1 := P1) (Q := Q) (cl := cl) (kp := cn f) (fo := cn g) (ou := ou) (L := L) (xs := xs) (e := e) (a := (xs (i + 1))) (b := (bzz (xs (i + 2)))) J.1 J.2.1.1 (fun h => (hA1 h).1) rfl
  have hc : kBk (xs (i + 1)) ≤ 1 := by unfold kBk; (repeat' split) <;> decide
  have hW := wr_408 hc hF
  clear hF
  have I2 : INV P0 P1 r.2 cl t f g := inv_q J hA2 hgq
  have zth := t12_thrown r.2 hgq True.intro
  have hth : v12_thrown r.2 = cn (kBk (xs (i + 1)) : Nat) := by show r.2.1 12 1 0 = _; rw [hA2]; exact pI_at
  rw [hth] at zth
  by_cases h0 : kBk (xs (i + 1)) = 0
  · have er := (hA1 h0).2
    rw [h0] at hW zth
    rw [if_pos rfl, mm_ou] at hW
    rw [← er] at hW
    have hx2 := x_hI (M := mm P0 P1 Q cl (cn t) (cn f) (cn g) r.1.toInt64 L xs e) okx2 z12 mm_2
    have hx3 := x_I (M := mm P0 P1 r.2 cl (cn t) (cn f) (cn g) r.1.toInt64 L xs e) okx2 zth
    obtain ⟨u5, u6, u7, hX⟩ := lw_32 (code := 0) (j5 := j5) (j6 := j6) (j7 := j7) hi hL scr_mm scr_mm (by decide) hW hx2 hx3 (fun _ => rfl)
    exact ⟨_, _, _, _, t, f, g, _, e, u5, u6, u7, I2, by omega, by omega, hX⟩
  · rw [if_neg h0, mm_e] at hW
    have hx2 := x_hI (M := mm P0 P1 Q cl (cn t) (cn f) (cn g) ou L xs (e + 1)) okx2 z12 mm_2
    have hx3 := x_I (M := mm P0 P1 r.2 cl (cn t) (cn f) (cn g) ou L xs (e + 1)) okx2 zth
    obtain ⟨u5, u6, u7, hX⟩ := lw_32 (code := kBk (xs (i + 1))) (j5 := j5) (j6 := j6) (j7 := j7) hi hL scr_mm scr_mm (by omega) hW hx2 hx3 (fun h => absurd h h0)
    exact ⟨_, _, _, _, t, f, g, _, e + 1, u5, u6, u7, I2, by omega, by omega, hX⟩
theorem rd_33 (J : JN lg P0 P1 Q cl N T D t f g) (ht : t < 512) (hi : i + 7 ≤ L) (hL : L ≤ 3584) : RND 2613 i L xs e t j5 j6 j7 (mm P0 P1 Q cl (cn t) (cn f) (cn g) ou L xs e) := by
  obtain ⟨g12, hA2, hA1⟩ := ask_shown (b := (xs (i + 1))) (t := (bzz (xs (i + 2)))) (v := (xs (i + 3))) J.1.1
  have z12 := t12_shown Q (xs (i + 1)) (bzz (xs (i + 2))) (xs (i + 3)) J.2.1.2.2 g12
  generalize v12_shown Q (xs (i + 1)) (bzz (xs (i + 2))) (xs (i + 3)) = r at z12 hA1 hA2
  have hgq := gr_I z12
  have hF := fq_186 (P1 := P1) (Q := Q) (cl := cl) (kp := cn f) (fo := cn g) (ou := ou) (L := L) (xs := xs) (e := e) (a := (xs (i + 1))) (b := (bzz (xs (i + 2)))) (c := (xs (i + 3))) J.1 J.2.1.1 (fun h => (hA1 h).1) rfl
  have hc : kBk (xs (i + 1)) ≤ 1 := by unfold kBk; (repeat' split) <;> decide
  have hW := wr_409 hc hF
  clear hF
  have I2 : INV P0 P1 r.2 cl t f g := inv_q J hA2 hgq
  have zth := t12_thrown r.2 hgq True.intro
  have hth : v12_thrown r.2 = cn (kBk (xs (i + 1)) : Nat) := by show r.2.1 12 1 0 = _; rw [hA2]; exact pI_at
  rw [hth] at zth
  by_cases h0 : kBk (xs (i + 1)) = 0
  · have er := (hA1 h0).2
    rw [h0] at hW zth
    rw [if_pos rfl, mm_ou] at hW
    rw [← er] at hW
    have hx2 := x_hI (M := mm P0 P1 Q cl (cn t) (cn f) (cn g) r.1.toInt64 L xs e) okx2 z12 mm_2
    have hx3 := x_I (M := mm P0 P1 r.2 cl (cn t) (cn f) (cn g) r.1.toInt64 L xs e) okx2 zth
    obtain ⟨u5, u6, u7, hX⟩ := lw_33 (code := 0) (j5 := j5) (j6 := j6) (j7 := j7) hi hL scr_mm scr_mm (by decide) hW hx2 hx3 (fun _ => rfl)
    exact ⟨_, _, _, _, t, f, g, _, e, u5, u6, u7, I2, by omega, by omega, hX⟩
  · rw [if_neg h0, mm_e] at hW
    have hx2 := x_hI (M := mm P0 P1 Q cl (cn t) (cn f) (cn g) ou L xs (e + 1)) okx2 z12 mm_2
    have hx3 := x_I (M := mm P0 P1 r.2 cl (cn t) (cn f) (cn g) ou L xs (e + 1)) okx2 zth
    obtain ⟨u5, u6, u7, hX⟩ := lw_33 (code := kBk (xs (i + 1))) (j5 := j5) (j6 := j6) (j7 := j7) hi hL scr_mm scr_mm (by omega) hW hx2 hx3 (fun h => absurd h h0)
    exact ⟨_, _, _, _, t, f, g, _, e + 1, u5, u6, u7, I2, by omega, by omega, hX⟩
theorem rd_35 (J : JN lg P0 P1 Q cl N T D t f g) (ht : t < 512) (hi : i + 7 ≤ L) (hL : L ≤ 3584) : RND 2734 i L xs e t j5 j6 j7 (mm P0 P1 Q cl (cn t) (cn f) (cn g) ou L xs e) := by
  obtain ⟨g12, hA2, hA1⟩ := ask_rest (v := (xs (i + 1))) J.1.1
  have z12 := t12_rest Q (xs (i + 1)) J.2.1.2.2 g12
  generalize v12_rest Q (xs (i + 1)) = r at z12 hA1 hA2
  have hgq := gr_I z12
  have hF := fq_188 (P1 := P1) (Q := Q) (cl := cl) (kp := cn f) (fo := cn g) (ou := ou) (L := L) (xs := xs) (e := e) (a := (xs (i + 1))) J.1 J.2.1.1
  have hc : kFind P0 (xs (i + 1)) ≤ 1 := by unfold kFind; (repeat' split) <;> decide
  have hW := wr_410 hc hF
  clear hF
  have I2 : INV P0 P1 r.2 cl t f g := inv_q J hA2 hgq
  have zth := t12_thrown r.2 hgq True.intro
  have hth : v12_thrown r.2 = cn (kFind P0 (xs (i + 1)) : Nat) := by show r.2.1 12 1 0 = _; rw [hA2]; exact pI_at
  rw [hth] at zth
  by_cases h0 : kFind P0 (xs (i + 1)) = 0
  · have er := (hA1 h0).2
    rw [h0] at hW zth
    rw [if_pos rfl, mm_ou] at hW
    rw [← er] at hW
    have hx2 := x_hI (M := mm P0 P1 Q cl (cn t) (cn f) (cn g) r.1.toInt64 L xs e) okx2 z12 mm_2
    have hx3 := x_I (M := mm P0 P1 r.2 cl (cn t) (cn f) (cn g) r.1.toInt64 L xs e) okx2 zth
    obtain ⟨u5, u6, u7, hX⟩ := lw_35 (code := 0) (j5 := j5) (j6 := j6) (j7 := j7) hi hL scr_mm scr_mm (by decide) hW hx2 hx3 (fun _ => rfl)
    exact ⟨_, _, _, _, t, f, g, _, e, u5, u6, u7, I2, by omega, by omega, hX⟩
  · rw [if_neg h0, mm_e] at hW
    have hx2 := x_hI (M := mm P0 P1 Q cl (cn t) (cn f) (cn g) ou L xs (e + 1)) okx2 z12 mm_2
    have hx3 := x_I (M := mm P0 P1 r.2 cl (cn t) (cn f) (cn g) ou L xs (e + 1)) okx2 zth
    obtain ⟨u5, u6, u7, hX⟩ := lw_35 (code := kFind P0 (xs (i + 1))) (j5 := j5) (j6 := j6) (j7 := j7) hi hL scr_mm scr_mm (by omega) hW hx2 hx3 (fun h => absurd h h0)
    exact ⟨_, _, _, _, t, f, g, _, e + 1, u5, u6, u7, I2, by omega, by omega, hX⟩
theorem rd_36 (J : JN lg P0 P1 Q cl N T D t f g) (ht : t < 512) (hi : i + 7 ≤ L) (hL : L ≤ 3584) : RND 2790 i L xs e t j5 j6 j7 (mm P0 P1 Q cl (cn t) (cn f) (cn g) ou L xs e) := by
  obtain ⟨g12, hA2, hA1⟩ := ask_priceOf (v := (xs (i + 1))) J.1.1
  have z12 := t12_priceOf Q (xs (i + 1)) J.2.1.2.2 g12
  generalize v12_priceOf Q (xs (i + 1)) = r at z12 hA1 hA2
  have hgq := gr_I z12
  have hF := fq_189 (P1 := P1) (Q := Q) (cl := cl) (kp := cn f) (fo := cn g) (ou := ou) (L := L) (xs := xs) (e := e) (a := (xs (i + 1))) J.1 J.2.1.1
  have hc : kFind P0 (xs (i + 1)) ≤ 1 := by unfold kFind; (repeat' split) <;> decide
  have hW := wr_411 hc hF
  clear hF
  have I2 : INV P0 P1 r.2 cl t f g := inv_q J hA2 hgq
  have zth := t12_thrown r.2 hgq True.intro
  have hth : v12_thrown r.2 = cn (kFind P0 (xs (i + 1)) : Nat) := by show r.2.1 12 1 0 = _; rw [hA2]; exact pI_at
  rw [hth] at zth
  by_cases h0 : kFind P0 (xs (i + 1)) = 0
  · have er := (hA1 h0).2
    rw [h0] at hW zth
    rw [if_pos rfl, mm_ou] at hW
    rw [← er] at hW
    have hx2 := x_hI (M := mm P0 P1 Q cl (cn t) (cn f) (cn g) r.1.toInt64 L xs e) okx2 z12 mm_2
    have hx3 := x_I (M := mm P0 P1 r.2 cl (cn t) (cn f) (cn g) r.1.toInt64 L xs e) okx2 zth
    obtain ⟨u5, u6, u7, hX⟩ := lw_36 (code := 0) (j5 := j5) (j6 := j6) (j7 := j7) hi hL scr_mm scr_mm (by decide) hW hx2 hx3 (fun _ => rfl)
    exact ⟨_, _, _, _, t, f, g, _, e, u5, u6, u7, I2, by omega, by omega, hX⟩
  · rw [if_neg h0, mm_e] at hW
    have hx2 := x_hI (M := mm P0 P1 Q cl (cn t) (cn f) (cn g) ou L xs (e + 1)) okx2 z12 mm_2
    have hx3 := x_I (M := mm P0 P1 r.2 cl (cn t) (cn f) (cn g) ou L xs (e + 1)) okx2 zth
    obtain ⟨u5, u6, u7, hX⟩ := lw_36 (code := kFind P0 (xs (i + 1))) (j5 := j5) (j6 := j6) (j7 := j7) hi hL scr_mm scr_mm (by omega) hW hx2 hx3 (fun h => absurd h h0)
    exact ⟨_, _, _, _, t, f, g, _, e + 1, u5, u6, u7, I2, by omega, by omega, hX⟩
theorem rd_37 (J : JN lg P0 P1 Q cl N T D t f g) (ht : t < 512) (hi : i + 7 ≤ L) (hL : L ≤ 3584) : RND 2846 i L xs e t j5 j6 j7 (mm P0 P1 Q cl (cn t) (cn f) (cn g) ou L xs e) := by
  obtain ⟨g12, hA2, hA1⟩ := ask_last (b := (xs (i + 1))) (t := (bzz (xs (i + 2)))) J.1.1
  have z12 := t12_last Q (xs (i + 1)) (bzz (xs (i + 2))) J.2.1.2.2 g12
  generalize v12_last Q (xs (i + 1)) (bzz (xs (i + 2))) = r at z12 hA1 hA2
  have hgq := gr_I z12
  have hF := fq_190 (P1 := P1) (Q := Q) (cl := cl) (kp := cn f) (fo := cn g) (ou := ou) (L := L) (xs := xs) (e := e) (a := (xs (i + 1))) (b := (bzz (xs (i + 2)))) J.1 J.2.1.1
  have hc : kBk (xs (i + 1)) ≤ 1 := by unfold kBk; (repeat' split) <;> decide
  have hW := wr_412 hc hF
  clear hF
  have I2 : INV P0 P1 r.2 cl t f g := inv_q J hA2 hgq
  have zth := t12_thrown r.2 hgq True.intro
  have hth : v12_thrown r.2 = cn (kBk (xs (i + 1)) : Nat) := by show r.2.1 12 1 0 = _; rw [hA2]; exact pI_at
  rw [hth] at zth
  by_cases h0 : kBk (xs (i + 1)) = 0
  · have er := (hA1 h0).2
    rw [h0] at hW zth
    rw [if_pos rfl, mm_ou] at hW
    rw [← er] at hW
    have hx2 := x_hI (M := mm P0 P1 Q cl (cn t) (cn f) (cn g) r.1.toInt64 L xs e) okx2 z12 mm_2
    have hx3 := x_I (M := mm P0 P1 r.2 cl (cn t) (cn f) (cn g) r.1.toInt64 L xs e) okx2 zth
    obtain ⟨u5, u6, u7, hX⟩ := lw_37 (code := 0) (j5 := j5) (j6 := j6) (j7 := j7) hi hL scr_mm scr_mm (by decide) hW hx2 hx3 (fun _ => rfl)
    exact ⟨_, _, _, _, t, f, g, _, e, u5, u6, u7, I2, by omega, by omega, hX⟩
  · rw [if_neg h0, mm_e] at hW
    have hx2 := x_hI (M := mm P0 P1 Q cl (cn t) (cn f) (cn g) ou L xs (e + 1)) okx2 z12 mm_2
    have hx3 := x_I (M := mm P0 P1 r.2 cl (cn t) (cn f) (cn g) ou L xs (e + 1)) okx2 zth
    obtain ⟨u5, u6, u7, hX⟩ := lw_37 (code := kBk (xs (i + 1))) (j5 := j5) (j6 := j6) (j7 := j7) hi hL scr_mm scr_mm (by omega) hW hx2 hx3 (fun h => absurd h h0)
    exact ⟨_, _, _, _, t, f, g, _, e + 1, u5, u6, u7, I2, by omega, by omega, hX⟩
theorem rd_38 (J : JN lg P0 P1 Q cl N T D t f g) (ht : t < 512) (hi : i + 7 ≤ L) (hL : L ≤ 3584) : RND 2930 i L xs e t j5 j6 j7 (mm P0 P1 Q cl (cn t) (cn f) (cn g) ou L xs e) := by
  obtain ⟨g12, hA2, hA1⟩ := ask_end (b := (xs (i + 1))) J.1.1
  have z12 := t12_endOf Q (xs (i + 1)) J.2.1.2.2 g12
  generalize v12_endOf Q (xs (i + 1)) = r at z12 hA1 hA2
  have hgq := gr_I z12
  have hF := fq_191 (P1 := P1) (Q := Q) (cl := cl) (kp := cn f) (fo := cn g) (ou := ou) (L := L) (xs := xs) (e := e) (a := (xs (i + 1))) J.1 J.2.1.1
  have hc : kBk (xs (i + 1)) ≤ 1 := by unfold kBk; (repeat' split) <;> decide
  have hW := wr_413 hc hF
  clear hF
  have I2 : INV P0 P1 r.2 cl t f g := inv_q J hA2 hgq
  have zth := t12_thrown r.2 hgq True.intro
  have hth : v12_thrown r.2 = cn (kBk (xs (i + 1)) : Nat) := by show r.2.1 12 1 0 = _; rw [hA2]; exact pI_at
  rw [hth] at zth
  by_cases h0 : kBk (xs (i + 1)) = 0
  · have er := (hA1 h0).2
    rw [h0] at hW zth
    rw [if_pos rfl, mm_ou] at hW
    rw [← er] at hW
    have hx2 := x_hI (M := mm P0 P1 Q cl (cn t) (cn f) (cn g) r.1.toInt64 L xs e) okx2 z12 mm_2
    have hx3 := x_I (M := mm P0 P1 r.2 cl (cn t) (cn f) (cn g) r.1.toInt64 L xs e) okx2 zth
    obtain ⟨u5, u6, u7, hX⟩ := lw_38 (code := 0) (j5 := j5) (j6 := j6) (j7 := j7) hi hL scr_mm scr_mm (by decide) hW hx2 hx3 (fun _ => rfl)
    exact ⟨_, _, _, _, t, f, g, _, e, u5, u6, u7, I2, by omega, by omega, hX⟩
  · rw [if_neg h0, mm_e] at hW
    have hx2 := x_hI (M := mm P0 P1 Q cl (cn t) (cn f) (cn g) ou L xs (e + 1)) okx2 z12 mm_2
    have hx3 := x_I (M := mm P0 P1 r.2 cl (cn t) (cn f) (cn g) ou L xs (e + 1)) okx2 zth
    obtain ⟨u5, u6, u7, hX⟩ := lw_38 (code := kBk (xs (i + 1))) (j5 := j5) (j6 := j6) (j7 := j7) hi hL scr_mm scr_mm (by omega) hW hx2 hx3 (fun h => absurd h h0)
    exact ⟨_, _, _, _, t, f, g, _, e + 1, u5, u6, u7, I2, by omega, by omega, hX⟩
theorem rd_41 (J : JN lg P0 P1 Q cl N T D t f g) (ht : t < 512) (hi : i + 7 ≤ L) (hL : L ≤ 3584) : RND 3083 i L xs e t j5 j6 j7 (mm P0 P1 Q cl (cn t) (cn f) (cn g) ou L xs e) := by
  obtain ⟨g12, hA2, hA1⟩ := ask_trade (t := (xs (i + 1))) (w := (xs (i + 2))) J.1.1
  have z12 := t12_trade Q (xs (i + 1)) (xs (i + 2)) J.2.1.2.2 g12
  generalize v12_trade Q (xs (i + 1)) (xs (i + 2)) = r at z12 hA1 hA2
  have hgq := gr_I z12
  have hF := fq_194 (P1 := P1) (Q := Q) (cl := cl) (kp := cn f) (fo := cn g) (ou := ou) (L := L) (xs := xs) (e := e) (a := (xs (i + 1))) (b := (xs (i + 2))) J.1 J.2.1.1 (fun h => (hA1 h).1)
  have hc : kTrade P0 (xs (i + 1)) (xs (i + 2)) ≤ 2 := by unfold kTrade; (repeat' split) <;> decide
  have hW := wr_415 hc hF
  clear hF
  have I2 : INV P0 P1 r.2 cl t f g := inv_q J hA2 hgq
  have zth := t12_thrown r.2 hgq True.intro
  have hth : v12_thrown r.2 = cn (kTrade P0 (xs (i + 1)) (xs (i + 2)) : Nat) := by show r.2.1 12 1 0 = _; rw [hA2]; exact pI_at
  rw [hth] at zth
  by_cases h0 : kTrade P0 (xs (i + 1)) (xs (i + 2)) = 0
  · have er := (hA1 h0).2
    rw [h0] at hW zth
    rw [if_pos rfl, mm_ou] at hW
    rw [← er] at hW
    have hx2 := x_hI (M := mm P0 P1 Q cl (cn t) (cn f) (cn g) r.1.toInt64 L xs e) okx2 z12 mm_2
    have hx3 := x_I (M := mm P0 P1 r.2 cl (cn t) (cn f) (cn g) r.1.toInt64 L xs e) okx2 zth
    obtain ⟨u5, u6, u7, hX⟩ := lw_41 (code := 0) (j5 := j5) (j6 := j6) (j7 := j7) hi hL scr_mm scr_mm (by decide) hW hx2 hx3 (fun _ => rfl)
    exact ⟨_, _, _, _, t, f, g, _, e, u5, u6, u7, I2, by omega, by omega, hX⟩
  · rw [if_neg h0, mm_e] at hW
    have hx2 := x_hI (M := mm P0 P1 Q cl (cn t) (cn f) (cn g) ou L xs (e + 1)) okx2 z12 mm_2
    have hx3 := x_I (M := mm P0 P1 r.2 cl (cn t) (cn f) (cn g) ou L xs (e + 1)) okx2 zth
    obtain ⟨u5, u6, u7, hX⟩ := lw_41 (code := kTrade P0 (xs (i + 1)) (xs (i + 2))) (j5 := j5) (j6 := j6) (j7 := j7) hi hL scr_mm scr_mm (by omega) hW hx2 hx3 (fun h => absurd h h0)
    exact ⟨_, _, _, _, t, f, g, _, e + 1, u5, u6, u7, I2, by omega, by omega, hX⟩
theorem rd_42 (J : JN lg P0 P1 Q cl N T D t f g) (ht : t < 512) (hi : i + 7 ≤ L) (hL : L ≤ 3584) : RND 3151 i L xs e t j5 j6 j7 (mm P0 P1 Q cl (cn t) (cn f) (cn g) ou L xs e) := by
  obtain ⟨g12, hA2, hA1⟩ := ask_position (a := (xs (i + 1))) (c := (xs (i + 2))) J.1.1
  have z12 := t12_position Q (xs (i + 1)) (xs (i + 2)) J.2.1.2.2 g12
  generalize v12_position Q (xs (i + 1)) (xs (i + 2)) = r at z12 hA1 hA2
  have hgq := gr_I z12
  have hF := fq_195 (P1 := P1) (Q := Q) (cl := cl) (kp := cn f) (fo := cn g) (ou := ou) (L := L) (xs := xs) (e := e) (a := (xs (i + 1))) (b := (xs (i + 2))) J.1 J.2.1.1
  have hc : kPos (xs (i + 1)) (xs (i + 2)) ≤ 1 := by unfold kPos; (repeat' split) <;> decide
  have hW := wr_416 hc hF
  clear hF
  have I2 : INV P0 P1 r.2 cl t f g := inv_q J hA2 hgq
  have zth := t12_thrown r.2 hgq True.intro
  have hth : v12_thrown r.2 = cn (kPos (xs (i + 1)) (xs (i + 2)) : Nat) := by show r.2.1 12 1 0 = _; rw [hA2]; exact pI_at
  rw [hth] at zth
  by_cases h0 : kPos (xs (i + 1)) (xs (i + 2)) = 0
  · have er := (hA1 h0).2
    rw [h0] at hW zth
    rw [if_pos rfl, mm_ou] at hW
    rw [← er] at hW
    have hx2 := x_hI (M := mm P0 P1 Q cl (cn t) (cn f) (cn g) r.1.toInt64 L xs e) okx2 z12 mm_2
    have hx3 := x_I (M := mm P0 P1 r.2 cl (cn t) (cn f) (cn g) r.1.toInt64 L xs e) okx2 zth
    obtain ⟨u5, u6, u7, hX⟩ := lw_42 (code := 0) (j5 := j5) (j6 := j6) (j7 := j7) hi hL scr_mm scr_mm (by decide) hW hx2 hx3 (fun _ => rfl)
    exact ⟨_, _, _, _, t, f, g, _, e, u5, u6, u7, I2, by omega, by omega, hX⟩
  · rw [if_neg h0, mm_e] at hW
    have hx2 := x_hI (M := mm P0 P1 Q cl (cn t) (cn f) (cn g) ou L xs (e + 1)) okx2 z12 mm_2
    have hx3 := x_I (M := mm P0 P1 r.2 cl (cn t) (cn f) (cn g) ou L xs (e + 1)) okx2 zth
    obtain ⟨u5, u6, u7, hX⟩ := lw_42 (code := kPos (xs (i + 1)) (xs (i + 2))) (j5 := j5) (j6 := j6) (j7 := j7) hi hL scr_mm scr_mm (by omega) hW hx2 hx3 (fun h => absurd h h0)
    exact ⟨_, _, _, _, t, f, g, _, e + 1, u5, u6, u7, I2, by omega, by omega, hX⟩
theorem rd_43 (J : JN lg P0 P1 Q cl N T D t f g) (ht : t < 512) (hi : i + 7 ≤ L) (hL : L ≤ 3584) : RND 3219 i L xs e t j5 j6 j7 (mm P0 P1 Q cl (cn t) (cn f) (cn g) ou L xs e) := by
  obtain ⟨g12, hA2, hA1⟩ := ask_cash (a := (xs (i + 1))) J.1.1
  have z12 := t12_cash Q (xs (i + 1)) J.2.1.2.2 g12
  generalize v12_cash Q (xs (i + 1)) = r at z12 hA1 hA2
  have hgq := gr_L z12
  have hF := fq_196 (P1 := P1) (Q := Q) (cl := cl) (kp := cn f) (fo := cn g) (ou := ou) (L := L) (xs := xs) (e := e) (a := (xs (i + 1))) J.1 J.2.1.1
  have hc : kAcc (xs (i + 1)) ≤ 1 := by unfold kAcc; (repeat' split) <;> decide
  have hW := wr_417 hc hF
  clear hF
  have I2 : INV P0 P1 r.2 cl t f g := inv_q J hA2 hgq
  have zth := t12_thrown r.2 hgq True.intro
  have hth : v12_thrown r.2 = cn (kAcc (xs (i + 1)) : Nat) := by show r.2.1 12 1 0 = _; rw [hA2]; exact pI_at
  rw [hth] at zth
  by_cases h0 : kAcc (xs (i + 1)) = 0
  · have er := (hA1 h0).2
    rw [h0] at hW zth
    rw [if_pos rfl, mm_ou] at hW
    rw [← er] at hW
    have hx2 := x_hL (M := mm P0 P1 Q cl (cn t) (cn f) (cn g) r.1 L xs e) okx2 z12 mm_2
    have hx3 := x_I (M := mm P0 P1 r.2 cl (cn t) (cn f) (cn g) r.1 L xs e) okx2 zth
    obtain ⟨u5, u6, u7, hX⟩ := lw_43 (code := 0) (j5 := j5) (j6 := j6) (j7 := j7) hi hL scr_mm scr_mm (by decide) hW hx2 hx3 (fun _ => rfl)
    exact ⟨_, _, _, _, t, f, g, _, e, u5, u6, u7, I2, by omega, by omega, hX⟩
  · rw [if_neg h0, mm_e] at hW
    have hx2 := x_hL (M := mm P0 P1 Q cl (cn t) (cn f) (cn g) ou L xs (e + 1)) okx2 z12 mm_2
    have hx3 := x_I (M := mm P0 P1 r.2 cl (cn t) (cn f) (cn g) ou L xs (e + 1)) okx2 zth
    obtain ⟨u5, u6, u7, hX⟩ := lw_43 (code := kAcc (xs (i + 1))) (j5 := j5) (j6 := j6) (j7 := j7) hi hL scr_mm scr_mm (by omega) hW hx2 hx3 (fun h => absurd h h0)
    exact ⟨_, _, _, _, t, f, g, _, e + 1, u5, u6, u7, I2, by omega, by omega, hX⟩
theorem rd_44 (J : JN lg P0 P1 Q cl N T D t f g) (ht : t < 512) (hi : i + 7 ≤ L) (hL : L ≤ 3584) : RND 3274 i L xs e t j5 j6 j7 (mm P0 P1 Q cl (cn t) (cn f) (cn g) ou L xs e) := by
  obtain ⟨g12, hA2, hA1⟩ := ask_quoted (a := (xs (i + 1))) J.1.1
  have z12 := t12_quoted Q (xs (i + 1)) J.2.1.2.2 g12
  generalize v12_quoted Q (xs (i + 1)) = r at z12 hA1 hA2
  have hgq := gr_I z12
  have hF := fq_197 (P1 := P1) (Q := Q) (cl := cl) (kp := cn f) (fo := cn g) (ou := ou) (L := L) (xs := xs) (e := e) (a := (xs (i + 1))) J.1 J.2.1.1
  have hc : kTrd (xs (i + 1)) ≤ 1 := by unfold kTrd; (repeat' split) <;> decide
  have hW := wr_418 hc hF
  clear hF
  have I2 : INV P0 P1 r.2 cl t f g := inv_q J hA2 hgq
  have zth := t12_thrown r.2 hgq True.intro
  have hth : v12_thrown r.2 = cn (kTrd (xs (i + 1)) : Nat) := by show r.2.1 12 1 0 = _; rw [hA2]; exact pI_at
  rw [hth] at zth
  by_cases h0 : kTrd (xs (i + 1)) = 0
  · have er := (hA1 h0).2
    rw [h0] at hW zth
    rw [if_pos rfl, mm_ou] at hW
    rw [← er] at hW
    have hx2 := x_hI (M := mm P0 P1 Q cl (cn t) (cn f) (cn g) r.1.toInt64 L xs e) okx2 z12 mm_2
    have hx3 := x_I (M := mm P0 P1 r.2 cl (cn t) (cn f) (cn g) r.1.toInt64 L xs e) okx2 zth
    obtain ⟨u5, u6, u7, hX⟩ := lw_44 (code := 0) (j5 := j5) (j6 := j6) (j7 := j7) hi hL scr_mm scr_mm (by decide) hW hx2 hx3 (fun _ => rfl)
    exact ⟨_, _, _, _, t, f, g, _, e, u5, u6, u7, I2, by omega, by omega, hX⟩
  · rw [if_neg h0, mm_e] at hW
    have hx2 := x_hI (M := mm P0 P1 Q cl (cn t) (cn f) (cn g) ou L xs (e + 1)) okx2 z12 mm_2
    have hx3 := x_I (M := mm P0 P1 r.2 cl (cn t) (cn f) (cn g) ou L xs (e + 1)) okx2 zth
    obtain ⟨u5, u6, u7, hX⟩ := lw_44 (code := kTrd (xs (i + 1))) (j5 := j5) (j6 := j6) (j7 := j7) hi hL scr_mm scr_mm (by omega) hW hx2 hx3 (fun h => absurd h h0)
    exact ⟨_, _, _, _, t, f, g, _, e + 1, u5, u6, u7, I2, by omega, by omega, hX⟩
theorem rd_45 (J : JN lg P0 P1 Q cl N T D t f g) (ht : t < 512) (hi : i + 7 ≤ L) (hL : L ≤ 3584) : RND 3330 i L xs e t j5 j6 j7 (mm P0 P1 Q cl (cn t) (cn f) (cn g) ou L xs e) := by
  obtain ⟨g12, hA2, hA1⟩ := ask_member (m := (xs (i + 1))) (w := (xs (i + 2))) J.1.1
  have z12 := t12_member Q (xs (i + 1)) (xs (i + 2)) J.2.1.2.2 g12
  generalize v12_member Q (xs (i + 1)) (xs (i + 2)) = r at z12 hA1 hA2
  have hgq := gr_L z12
  have hF := fq_198 (P1 := P1) (Q := Q) (cl := cl) (kp := cn f) (fo := cn g) (ou := ou) (L := L) (xs := xs) (e := e) (a := (xs (i + 1))) (b := (xs (i + 2))) J.1 J.2.1.1 (fun h => (hA1 h).1)
  have hc : kMem (xs (i + 1)) (xs (i + 2)) ≤ 2 := by unfold kMem; (repeat' split) <;> decide
  have hW := wr_419 hc hF
  clear hF
  have I2 : INV P0 P1 r.2 cl t f g := inv_q J hA2 hgq
  have zth := t12_thrown r.2 hgq True.intro
  have hth : v12_thrown r.2 = cn (kMem (xs (i + 1)) (xs (i + 2)) : Nat) := by show r.2.1 12 1 0 = _; rw [hA2]; exact pI_at
  rw [hth] at zth
  by_cases h0 : kMem (xs (i + 1)) (xs (i + 2)) = 0
  · have er := (hA1 h0).2
    rw [h0] at hW zth
    rw [if_pos rfl, mm_ou] at hW
    rw [← er] at hW
    have hx2 := x_hL (M := mm P0 P1 Q cl (cn t) (cn f) (cn g) r.1 L xs e) okx2 z12 mm_2
    have hx3 := x_I (M := mm P0 P1 r.2 cl (cn t) (cn f) (cn g) r.1 L xs e) okx2 zth
    obtain ⟨u5, u6, u7, hX⟩ := lw_45 (code := 0) (j5 := j5) (j6 := j6) (j7 := j7) hi hL scr_mm scr_mm (by decide) hW hx2 hx3 (fun _ => rfl)
    exact ⟨_, _, _, _, t, f, g, _, e, u5, u6, u7, I2, by omega, by omega, hX⟩
  · rw [if_neg h0, mm_e] at hW
    have hx2 := x_hL (M := mm P0 P1 Q cl (cn t) (cn f) (cn g) ou L xs (e + 1)) okx2 z12 mm_2
    have hx3 := x_I (M := mm P0 P1 r.2 cl (cn t) (cn f) (cn g) ou L xs (e + 1)) okx2 zth
    obtain ⟨u5, u6, u7, hX⟩ := lw_45 (code := kMem (xs (i + 1)) (xs (i + 2))) (j5 := j5) (j6 := j6) (j7 := j7) hi hL scr_mm scr_mm (by omega) hW hx2 hx3 (fun h => absurd h h0)
    exact ⟨_, _, _, _, t, f, g, _, e + 1, u5, u6, u7, I2, by omega, by omega, hX⟩
theorem rd_34 (J : JN lg P0 P1 Q cl N T D t f g) (ht : t < 512) (hi : i + 7 ≤ L) (hL : L ≤ 3584) : RND 2709 i L xs e t j5 j6 j7 (mm P0 P1 Q cl (cn t) (cn f) (cn g) ou L xs e) := by
  obtain ⟨g12, hA2, hA1⟩ := ask_stateOf (v := (xs (i + 1))) J.1.1
  have z12 := t12_stateOf Q (xs (i + 1)) J.2.1.2.2 g12
  generalize v12_stateOf Q (xs (i + 1)) = r at z12 hA1 hA2
  have hgq := gr_I z12
  have hF := fq_187 (P1 := P1) (Q := Q) (cl := cl) (kp := cn f) (fo := cn g) (ou := ou) (L := L) (xs := xs) (e := e) (a := (xs (i + 1))) J.1 J.2.1.1
  have er := (hA1 rfl).2
  rw [← er] at hF
  have I2 : INV P0 P1 r.2 cl t f g := inv_q J hA2 hgq
  have hx2 := x_hI (M := mm P0 P1 Q cl (cn t) (cn f) (cn g) ou L xs e) okx2 z12 mm_2
  obtain ⟨u5, u6, u7, hX⟩ := lw_34 (j5 := j5) (j6 := j6) (j7 := j7) hi hL scr_mm scr_mm hF hx2
  exact ⟨_, _, _, _, t, f, g, _, e, u5, u6, u7, I2, by omega, by omega, hX⟩
theorem rd_40 (J : JN lg P0 P1 Q cl N T D t f g) (ht : t < 512) (hi : i + 7 ≤ L) (hL : L ≤ 3584) : RND 3070 i L xs e t j5 j6 j7 (mm P0 P1 Q cl (cn t) (cn f) (cn g) ou L xs e) := by
  obtain ⟨g12, hA2, hA1⟩ := ask_trades  J.1.1
  have z12 := t12_trades Q  J.2.1.2.2 g12
  generalize v12_trades Q  = r at z12 hA1 hA2
  have hgq := gr_I z12
  have hF := fq_193 (P1 := P1) (Q := Q) (cl := cl) (kp := cn f) (fo := cn g) (ou := ou) (L := L) (xs := xs) (e := e)  J.1 J.2.1.1
  have er := (hA1 rfl).2
  rw [← er] at hF
  have I2 : INV P0 P1 r.2 cl t f g := inv_q J hA2 hgq
  have hx2 := x_hI (M := mm P0 P1 Q cl (cn t) (cn f) (cn g) ou L xs e) okx2 z12 mm_2
  obtain ⟨u5, u6, u7, hX⟩ := lw_40 (j5 := j5) (j6 := j6) (j7 := j7) hi hL scr_mm scr_mm hF hx2
  exact ⟨_, _, _, _, t, f, g, _, e, u5, u6, u7, I2, by omega, by omega, hX⟩
theorem rd_46 (J : JN lg P0 P1 Q cl N T D t f g) (ht : t < 512) (hi : i + 7 ≤ L) (hL : L ≤ 3584) : RND 3397 i L xs e t j5 j6 j7 (mm P0 P1 Q cl (cn t) (cn f) (cn g) ou L xs e) := by
  obtain ⟨g12, hA2, hA1⟩ := ask_stake  J.1.1
  have z12 := t12_stake Q  J.2.1.2.2 g12
  generalize v12_stake Q  = r at z12 hA1 hA2
  have hgq := gr_I z12
  have hF := fq_199 (P1 := P1) (Q := Q) (cl := cl) (kp := cn f) (fo := cn g) (ou := ou) (L := L) (xs := xs) (e := e)  J.1 J.2.1.1
  have er := (hA1 rfl).2
  rw [← er] at hF
  have I2 : INV P0 P1 r.2 cl t f g := inv_q J hA2 hgq
  have hx2 := x_hI (M := mm P0 P1 Q cl (cn t) (cn f) (cn g) ou L xs e) okx2 z12 mm_2
  obtain ⟨u5, u6, u7, hX⟩ := lw_46 (j5 := j5) (j6 := j6) (j7 := j7) hi hL scr_mm scr_mm hF hx2
  exact ⟨_, _, _, _, t, f, g, _, e, u5, u6, u7, I2, by omega, by omega, hX⟩
end Roundd
