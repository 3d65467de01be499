/-! a round of the law: the log; where an auction would end -/
section RoundL
variable {P0 P1 Q Ps : PM} {cl lg : Nat → Int32} {N T D t f g i L e : Nat} {xs : Nat → Int32} {ou : Int64} {j5 j6 j7 : AV}
theorem rd_29 (J : JN lg P0 P1 Q cl N T D t f g) (ht : t < 512) (hi : i + 7 ≤ L) (hL : L ≤ 3584) : RND 2364 i L xs e t j5 j6 j7 (mm P0 P1 Q cl (cn t) (cn f) (cn g) ou L xs e) := by
  obtain ⟨g12, e12⟩ := ask_events J.1 J.2.2.1.1
  have z12 := t12_events Q J.2.1.2.2 g12
  rw [e12] at z12
  have hgq := gr_I z12
  have hF := fq_182 (P1 := P1) (Q := Q) (cl := cl) (kp := cn f) (fo := cn g) (ou := ou) (L := L) (xs := xs) (e := e) J.1 J.2.1.1
  have I2 : INV P0 P1 (pI Q 12 1 0 (cn 0)) cl t f g := inv_q J (c := 0) rfl hgq
  have hx2 := x_hI (M := mm P0 P1 Q cl (cn t) (cn f) (cn g) ou L xs e) okx2 z12 mm_2
  obtain ⟨u5, u6, u7, hX⟩ := lw_29 (j5 := j5) (j6 := j6) (j7 := j7) hi hL scr_mm scr_mm hF hx2
  exact ⟨_, _, _, _, t, f, g, _, e, u5, u6, u7, I2, by omega, by omega, hX⟩
theorem rd_27 (J : JN lg P0 P1 Q cl N T D t f g) (ht : t < 512) (hi : i + 7 ≤ L) (hL : L ≤ 3584) : RND 2338 i L xs e t j5 j6 j7 (mm P0 P1 Q cl (cn t) (cn f) (cn g) ou L xs e) := by
  obtain ⟨I, ⟨hg0, hg1, hg2⟩, ⟨h60, h61⟩, ⟨hf, hgt, ht5⟩, hR, hP0, hP1⟩ := J
  have l1 : ∀ j, ¬ j = 4001 → (fun j => if j = 4001 then cn (t : Int) else lg j) j = lg j := fun j h => if_neg h
  obtain ⟨g12, Q2, e12, ez, I3⟩ := ask_keep I h60 (lg' := fun j => if j = 4001 then cn t else lg j) l1 (if_pos rfl)
  have z12 := t12_keep Q hg2 g12
  rw [e12] at z12
  have hgq := gr_I z12
  have hF := x_keep (P0 := P0) (P1 := P1) (Q := Q) (cl := cl) (tl := cn t) (kp := cn f) (fo := cn g) (ou := ou) (L := L) (xs := xs) (e := e)
  have l2 : ∀ n, n ≤ 512 → ∀ j, j < 7 * n → (fun j => if j = 4001 then cn (t : Int) else lg j) j = lg j := fun n hn j h => if_neg (by omega)
  have I2 : INV P0 P1 Q2 cl t t g := by
    refine ⟨_, N, T, D, I3, ⟨hg0, hg1, hgq⟩, ⟨(if_neg (by omega)).trans h60, if_pos rfl⟩, ⟨by omega, hgt, ht5⟩, fun i hi => ?_, pld_c (l2 t ht5) hP0, pld_c (l2 g (by omega)) hP1⟩
    obtain ⟨k, hk, r0, r1, r2, r3, r4, r5, r6, r7⟩ := hR i hi
    exact ⟨k, hk, (l1 _ (by omega)).trans r0, r1, r2.trans (l1 _ (by omega)).symm, r3.trans (l1 _ (by omega)).symm, r4.trans (l1 _ (by omega)).symm, r5.trans (l1 _ (by omega)).symm, r6.trans (l1 _ (by omega)).symm, r7.trans (l1 _ (by omega)).symm⟩
  have hx2 := x_hI (M := mm P0 P1 Q cl (cn t) (cn t) (cn g) ou L xs e) okx2 z12 mm_2
  obtain ⟨u5, u6, u7, hX⟩ := lw_27 (j5 := j5) (j6 := j6) (j7 := j7) hi hL scr_mm scr_mm hF hx2
  exact ⟨_, _, _, _, t, t, g, _, e, u5, u6, u7, I2, by omega, by omega, hX⟩
theorem rd_39 (J : JN lg P0 P1 Q cl N T D t f g) (ht : t < 512) (hi : i + 7 ≤ L) (hL : L ≤ 3584) : RND 2986 i L xs e t j5 j6 j7 (mm P0 P1 Q cl (cn t) (cn f) (cn g) ou L xs e) := by
  obtain ⟨I, ⟨hg0, hg1, hg2⟩, J2⟩ := J
  obtain ⟨g12, r, Q2, e12, ez, I3, hA⟩ := ask_ind (b := xs (i + 1)) (t := bzz (xs (i + 2))) I
  have z12 := t12_indicated Q _ _ hg2 g12
  rw [e12] at z12
  have hgq := gr_I z12
  have I2 : INV P0 P1 Q2 cl t f g := ⟨lg, N, T, D, I3, ⟨hg0, hg1, hgq⟩, J2⟩
  have hF := fq_192 (P1 := P1) (Q := Q) (cl := cl) (kp := cn f) (fo := cn g) (ou := ou) (L := L) (xs := xs) (e := e) (a := xs (i + 1)) (b := bzz (xs (i + 2))) I hg0 (fun h => (hA h).1) rfl rfl
  have hv : ∀ b t, vInd P0 b t = (if t = 0 then (if P0.1 1 (v6_bookAt P0 b) 5 = 0 then cn (-100000) else v8_findPrice P0 (v6_bookAt P0 b)) else if (if P0.1 1 (v6_bookAt P0 b) 5 = 0 then cn (-100000) else v8_findPrice P0 (v6_bookAt P0 b)) = cn (-100000) then cn 0 else v8_volumeAt P0 (v6_bookAt P0 b) (inP P0 b)) := fun b t => by
    unfold vInd inP
    rfl
  have hv2 : kBk (xs (i + 1)) = 0 → r = (if bzz (xs (i + 2)) = 0 then (if P0.1 1 (v6_bookAt P0 (xs (i + 1))) 5 = 0 then cn (-100000) else v8_findPrice P0 (v6_bookAt P0 (xs (i + 1)))) else if (if P0.1 1 (v6_bookAt P0 (xs (i + 1))) 5 = 0 then cn (-100000) else v8_findPrice P0 (v6_bookAt P0 (xs (i + 1)))) = cn (-100000) then cn 0 else v8_volumeAt P0 (v6_bookAt P0 (xs (i + 1))) (v8_findPrice P0 (v6_bookAt P0 (xs (i + 1))))) := fun h => by
    rw [(hA h).2, hv]
    unfold inP
    by_cases h5 : P0.1 1 (v6_bookAt P0 (xs (i + 1))) 5 = 0
    · simp only [if_pos h5, if_true]
    · simp only [if_neg h5]
  have hc : kBk (xs (i + 1)) ≤ 1 := by unfold kBk; (repeat' split) <;> decide
  have hW := wr_414 hc hF
  clear hF hv
  have hth : v12_thrown Q2 = cn (kBk (xs (i + 1)) : Nat) := ez
  have zth := t12_thrown Q2 hgq True.intro
  rw [hth] at zth
  by_cases h0 : kBk (xs (i + 1)) = 0
  · have er := hv2 h0
    rw [h0] at hW zth
    rw [if_pos rfl, mm_ou] at hW
    rw [← er] at hW
    have hx2 := x_hI (M := mm P0 P1 Q cl (cn t) (cn f) (cn g) r.toInt64 L xs e) okx2 z12 mm_2
    have hx3 := x_I (M := mm P0 P1 Q2 cl (cn t) (cn f) (cn g) r.toInt64 L xs e) okx2 zth
    obtain ⟨u5, u6, u7, hX⟩ := lw_39 (code := 0) (j5 := j5) (j6 := j6) (j7 := j7) hi hL scr_mm scr_mm (by decide) hW hx2 hx3 (fun _ => rfl)
    exact ⟨_, _, _, _, t, f, g, _, e, u5, u6, u7, I2, by omega, by omega, hX⟩
  · rw [if_neg h0, mm_e] at hW
    have hx2 := x_hI (M := mm P0 P1 Q cl (cn t) (cn f) (cn g) ou L xs (e + 1)) okx2 z12 mm_2
    have hx3 := x_I (M := mm P0 P1 Q2 cl (cn t) (cn f) (cn g) ou L xs (e + 1)) okx2 zth
    obtain ⟨u5, u6, u7, hX⟩ := lw_39 (code := kBk (xs (i + 1))) (j5 := j5) (j6 := j6) (j7 := j7) hi hL scr_mm scr_mm (by omega) hW hx2 hx3 (fun h => absurd h h0)
    exact ⟨_, _, _, _, t, f, g, _, e + 1, u5, u6, u7, I2, by omega, by omega, hX⟩
/-- the follower, brought to where the live one is: they know one reference -/
theorem fol_at (J : JN lg P0 P1 Q cl N T D t f g) : ∃ Ps, FR Ps ∧ plC lg Ps g = P1 ∧ (∀ i, i < t → rwG lg (plC lg Ps i) i ∧ g5_work (rwCl lg (plC lg Ps i) i).2) ∧ PLD lg (plC lg Ps t) t ∧ ∃ Q9 N9 T9 D9 N8 T8 D8, IV lg P0 Q9 N9 T9 D9 t ∧ IV lg (plC lg Ps t) Q9 N8 T8 D8 t := by
  obtain ⟨I, ⟨hg0, hg1, hg2⟩, ⟨h60, h61⟩, ⟨hf, hgt, ht5⟩, hR, ⟨Pz, z1, z2, z3⟩, ⟨Ps, s1, s2, s3⟩⟩ := J
  have hO := row_o hR
  have hE := fr_alike ht5 s1 I hO ⟨Pz, z1, z2, z3⟩
  obtain ⟨N9, T9, D9, I9⟩ := rep_all (n := t) (by omega) hO (fr_iv z1 I) z3
  obtain ⟨N8, T8, D8, I8⟩ := rep_all (n := t) (by omega) hO (fr_iv s1 I) hE
  rw [← z2] at I9
  exact ⟨Ps, s1, s2.symm, fun i hi => fr_g ht5 s1 I hO hE hi, ⟨Ps, s1, rfl, hE⟩, _, N9, T9, D9, N8, T8, D8, I9, I8⟩
theorem rd_30 (J : JN lg P0 P1 Q cl N T D t f g) (ht : t < 512) (hi : i + 7 ≤ L) (hL : L ≤ 3584) : RND 2377 i L xs e t j5 j6 j7 (mm P0 P1 Q cl (cn t) (cn f) (cn g) ou L xs e) := by
  obtain ⟨Ps, s1, s2, hGW, hPL, Q9, N9, T9, D9, N8, T8, D8, I9, I8⟩ := fol_at J
  obtain ⟨I, ⟨hg0, hg1, hg2⟩, ⟨h60, h61⟩, ⟨hf, hgt, ht5⟩, hR, hP0, hP1⟩ := J
  obtain ⟨g0, hA2, hA1⟩ := ask_position (a := xs (i + 1)) (c := xs (i + 2)) I.1
  obtain ⟨-, -, hB1⟩ := ask_position (a := xs (i + 1)) (c := xs (i + 2)) I9.1
  obtain ⟨-, -, hC1⟩ := ask_position (a := xs (i + 1)) (c := xs (i + 2)) I8.1
  have e12 : v12_positionByLog Q (xs (i + 1)) (xs (i + 2)) = v12_position Q (xs (i + 1)) (xs (i + 2)) := by unfold v12_positionByLog bv12_positionByLog; rfl
  have g12 : g12_positionByLog Q (xs (i + 1)) (xs (i + 2)) := by unfold g12_positionByLog bg12_positionByLog; exact ⟨g0, True.intro⟩
  have z12 := t12_positionByLog Q _ _ hg2 g12
  rw [e12] at z12
  clear e12 g12 g0
  generalize v12_position Q (xs (i + 1)) (xs (i + 2)) = r at z12 hA1 hA2
  generalize v12_position Q9 (xs (i + 1)) (xs (i + 2)) = r9 at hB1 hC1
  have hgq := gr_I z12
  have hg1' : Gr 0 (plC lg Ps g) := by rw [s2]; exact hg1
  have hF := x_pos (P0 := P0) (P1 := P1) (Q := Q) (kp := cn f) (ou := ou) (L := L) (xs := xs) (e := e) (a := xs (i + 1)) (b := xs (i + 2)) ht5 hR hGW hgt hg1' s2
  have hgn := (fol_pos (P0 := P0) (Q := Q) (kp := cn f) (ou := ou) (L := L) (xs := xs) (e := e) (a := xs (i + 1)) (b := xs (i + 2)) ht5 hR hGW (t - g) g (by omega) hg1').2
  have hc : kPos (xs (i + 1)) (xs (i + 2)) ≤ 1 := by unfold kPos; (repeat' split) <;> decide
  have hW := wr_406 hc hF
  clear hF
  have I3 : IV lg P0 r.2 N T D t := by rw [hA2]; exact iv_th I
  have hth : v12_thrown r.2 = cn (kPos (xs (i + 1)) (xs (i + 2)) : Nat) := by show r.2.1 12 1 0 = _; rw [hA2]; exact pI_at
  have zth := t12_thrown r.2 hgq True.intro
  rw [hth] at zth
  by_cases h0 : kPos (xs (i + 1)) (xs (i + 2)) = 0
  · have er : v0_holds (plC lg Ps t) (v7_accountAt (plC lg Ps t) (xs (i + 1))) (xs (i + 2)) = r.1 := ((hC1 h0).2.symm.trans (hB1 h0).2).trans (hA1 h0).2.symm
    rw [h0] at hW zth
    rw [if_pos rfl, mm_ou] at hW
    rw [er] at hW
    have I2 : INV P0 (plC lg Ps t) r.2 cl t f t := ⟨lg, N, T, D, I3, ⟨hg0, hgn, hgq⟩, ⟨h60, h61⟩, ⟨hf, Nat.le_refl _, ht5⟩, hR, hP0, hPL⟩
    have hx2 := x_hI (M := mm P0 (plC lg Ps t) Q cl (cn t) (cn f) (cn t) r.1.toInt64 L xs e) okx2 z12 mm_2
    have hx3 := x_I (M := mm P0 (plC lg Ps t) r.2 cl (cn t) (cn f) (cn t) r.1.toInt64 L xs e) okx2 zth
    obtain ⟨u5, u6, u7, hX⟩ := lw_30 (code := 0) (j5 := j5) (j6 := j6) (j7 := j7) hi hL scr_mm scr_mm (by decide) hW hx2 hx3 (fun _ => rfl)
    exact ⟨_, _, _, _, t, f, t, _, e, u5, u6, u7, I2, by omega, by omega, hX⟩
  · rw [if_neg h0, mm_e] at hW
    have I2 : INV P0 P1 r.2 cl t f g := ⟨lg, N, T, D, I3, ⟨hg0, hg1, hgq⟩, ⟨h60, h61⟩, ⟨hf, hgt, ht5⟩, hR, hP0, hP1⟩
    have hx2 := x_hI (M := mm P0 P1 Q cl (cn t) (cn f) (cn g) ou L xs (e + 1)) okx2 z12 mm_2
    have hx3 := x_I (M := mm P0 P1 r.2 cl (cn t) (cn f) (cn g) ou L xs (e + 1)) okx2 zth
    obtain ⟨u5, u6, u7, hX⟩ := lw_30 (code := kPos (xs (i + 1)) (xs (i + 2))) (j5 := j5) (j6 := j6) (j7 := j7) hi hL scr_mm scr_mm (by omega) hW hx2 hx3 (fun h => absurd h h0)
    exact ⟨_, _, _, _, t, f, g, _, e + 1, u5, u6, u7, I2, by omega, by omega, hX⟩
theorem rd_31 (J : JN lg P0 P1 Q cl N T D t f g) (ht : t < 512) (hi : i + 7 ≤ L) (hL : L ≤ 3584) : RND 2445 i L xs e t j5 j6 j7 (mm P0 P1 Q cl (cn t) (cn f) (cn g) ou L xs e) := by
  obtain ⟨Ps, s1, s2, hGW, hPL, Q9, N9, T9, D9, N8, T8, D8, I9, I8⟩ := fol_at J
  obtain ⟨I, ⟨hg0, hg1, hg2⟩, ⟨h60, h61⟩, ⟨hf, hgt, ht5⟩, hR, hP0, hP1⟩ := J
  obtain ⟨g0, hA2, hA1⟩ := ask_best (b := xs (i + 1)) (t := bzz (xs (i + 2))) I.1
  obtain ⟨-, -, hB1⟩ := ask_best (b := xs (i + 1)) (t := bzz (xs (i + 2))) I9.1
  obtain ⟨-, -, hC1⟩ := ask_best (b := xs (i + 1)) (t := bzz (xs (i + 2))) I8.1
  have e12 : v12_bestByLog Q (xs (i + 1)) (bzz (xs (i + 2))) = v12_best Q (xs (i + 1)) (bzz (xs (i + 2))) := by unfold v12_bestByLog bv12_bestByLog; rfl
  have g12 : g12_bestByLog Q (xs (i + 1)) (bzz (xs (i + 2))) := by unfold g12_bestByLog bg12_bestByLog; exact ⟨g0, True.intro⟩
  have z12 := t12_bestByLog Q _ _ hg2 g12
  rw [e12] at z12
  clear e12 g12 g0
  generalize v12_best Q (xs (i + 1)) (bzz (xs (i + 2))) = r at z12 hA1 hA2
  generalize v12_best Q9 (xs (i + 1)) (bzz (xs (i + 2))) = r9 at hB1 hC1
  have hgq := gr_I z12
  have hg1' : Gr 0 (plC lg Ps g) := by rw [s2]; exact hg1
  have hF := x_best (P0 := P0) (P1 := P1) (Q := Q) (kp := cn f) (ou := ou) (L := L) (xs := xs) (e := e) (a := xs (i + 1)) (b := bzz (xs (i + 2))) ht5 hR hGW hgt hg1' s2 (fun h => (hC1 h).1.2) rfl
  have hgn := (fol_best (P0 := P0) (Q := Q) (kp := cn f) (ou := ou) (L := L) (xs := xs) (e := e) (a := xs (i + 1)) (b := bzz (xs (i + 2))) ht5 hR hGW (t - g) g (by omega) hg1').2
  have hc : kBk (xs (i + 1)) ≤ 1 := by unfold kBk; (repeat' split) <;> decide
  have hW := wr_407 hc hF
  clear hF
  have I3 : IV lg P0 r.2 N T D t := by rw [hA2]; exact iv_th I
  have hth : v12_thrown r.2 = cn (kBk (xs (i + 1)) : Nat) := by show r.2.1 12 1 0 = _; rw [hA2]; exact pI_at
  have zth := t12_thrown r.2 hgq True.intro
  rw [hth] at zth
  by_cases h0 : kBk (xs (i + 1)) = 0
  · have er := ((hC1 h0).2.symm.trans (hB1 h0).2).trans (hA1 h0).2.symm
    rw [h0] at hW zth
    rw [if_pos rfl, mm_ou] at hW
    rw [er] at hW
    have I2 : INV P0 (plC lg Ps t) r.2 cl t f t := ⟨lg, N, T, D, I3, ⟨hg0, hgn, hgq⟩, ⟨h60, h61⟩, ⟨hf, Nat.le_refl _, ht5⟩, hR, hP0, hPL⟩
    have hx2 := x_hI (M := mm P0 (plC lg Ps t) Q cl (cn t) (cn f) (cn t) r.1.toInt64 L xs e) okx2 z12 mm_2
    have hx3 := x_I (M := mm P0 (plC lg Ps t) r.2 cl (cn t) (cn f) (cn t) r.1.toInt64 L xs e) okx2 zth
    obtain ⟨u5, u6, u7, hX⟩ := lw_31 (code := 0) (j5 := j5) (j6 := j6) (j7 := j7) hi hL scr_mm scr_mm (by decide) hW hx2 hx3 (fun _ => rfl)
    exact ⟨_, _, _, _, t, f, t, _, e, u5, u6, u7, I2, by omega, by omega, hX⟩
  · rw [if_neg h0, mm_e] at hW
    have I2 : INV P0 P1 r.2 cl t f g := ⟨lg, N, T, D, I3, ⟨hg0, hg1, hgq⟩, ⟨h60, h61⟩, ⟨hf, hgt, ht5⟩, hR, hP0, hP1⟩
    have hx2 := x_hI (M := mm P0 P1 Q cl (cn t) (cn f) (cn g) ou L xs (e + 1)) okx2 z12 mm_2
    have hx3 := x_I (M := mm P0 P1 r.2 cl (cn t) (cn f) (cn g) ou L xs (e + 1)) okx2 zth
    obtain ⟨u5, u6, u7, hX⟩ := lw_31 (code := kBk (xs (i + 1))) (j5 := j5) (j6 := j6) (j7 := j7) hi hL scr_mm scr_mm (by omega) hW hx2 hx3 (fun h => absurd h h0)
    exact ⟨_, _, _, _, t, f, g, _, e + 1, u5, u6, u7, I2, by omega, by omega, hX⟩
/-- begun anew -/
theorem fr_re (I : IV lg P0 Q N T D t) : g5_restore P0 ∧ FR (v5_restore P0) := by
  obtain ⟨h1, h2, h3, h4⟩ := iv_log I
  have hD := fun k hk => (I.1.2.2.2.1.1 k hk).1
  exact ⟨(fresh (lg := lg) I.1.2.2.2.2.1 hD h4 h1 h2 h3).1.1, fun lg' Q' a1 a2 a3 a4 => (fresh (lg := lg') I.1.2.2.2.2.1 hD a4 a1 a2 a3).2⟩
theorem rd_28 (J : JN lg P0 P1 Q cl N T D t f g) (ht : t < 512) (hi : i + 7 ≤ L) (hL : L ≤ 3584) : RND 2351 i L xs e t j5 j6 j7 (mm P0 P1 Q cl (cn t) (cn f) (cn g) ou L xs e) := by
  obtain ⟨I, ⟨hg0, hg1, hg2⟩, ⟨h60, h61⟩, ⟨hf, hgt, ht5⟩, hR, ⟨Pz, z1, z2, z3⟩, ⟨Ps, s1, s2, s3⟩⟩ := J
  have hO := row_o hR
  have hRf : ROW lg cl f := fun i hi => hR i (by omega)
  have hOf := row_o hRf
  have l1 : ∀ j, ¬ j = 4000 → (fun j => if j = 4000 then cn (f : Int) else lg j) j = lg j := fun j h => if_neg h
  obtain ⟨R0, g12, hE, Q2, N2, T2, D2, e12, ez, I3⟩ := fo_eq (lg' := fun j => if j = 4000 then cn f else lg j) ht5 hf I.1 h60 h61 (fun Q' a1 a2 a3 a4 => z1 lg Q' a1 a2 a3 a4) hOf (fun i hi => z3 i (by omega)) l1 (if_pos rfl)
  obtain ⟨-, F0⟩ := fr_re I
  obtain ⟨N8, T8, D8, I8⟩ := rep_all (n := g) (by omega) (fun i hi => hO i (by omega)) (fr_iv s1 I) s3
  rw [← s2] at I8
  obtain ⟨R1, F1⟩ := fr_re I8
  have z12 := t12_failOver Q hg2 g12
  rw [e12] at z12
  have hgq := gr_I z12
  have hGW := fun i (hi : i < f) => fr_g (n := f) (by omega) F0 I hOf hE hi
  obtain ⟨hF, hgn⟩ := x_fo (P0 := P0) (P1 := P1) (Q := Q) (ou := ou) (L := L) (xs := xs) (e := e) ht5 hf hgt hRf hg0 hg1 R0 R1 hGW
  have l2 : ∀ n, n ≤ 512 → ∀ j, j < 7 * n → (fun j => if j = 4000 then cn (f : Int) else lg j) j = lg j := fun n hn j h => if_neg (by omega)
  have hR2 : ROW (fun j => if j = 4000 then cn (f : Int) else lg j) cl f := fun i hi => by
    obtain ⟨k, hk, r0, r1, r2, r3, r4, r5, r6, r7⟩ := hRf i hi
    exact ⟨k, hk, (l1 _ (by omega)).trans r0, r1, r2.trans (l1 _ (by omega)).symm, r3.trans (l1 _ (by omega)).symm, r4.trans (l1 _ (by omega)).symm, r5.trans (l1 _ (by omega)).symm, r6.trans (l1 _ (by omega)).symm, r7.trans (l1 _ (by omega)).symm⟩
  have hP2 : PLD (fun j => if j = 4000 then cn (f : Int) else lg j) (plC lg (v5_restore P0) f) f := pld_c (l2 f (by omega)) ⟨_, F0, rfl, hE⟩
  have hq2 : (fun j => if j = 4000 then cn (f : Int) else lg j) 4000 = cn f ∧ (fun j => if j = 4000 then cn (f : Int) else lg j) 4001 = cn f := ⟨if_pos rfl, (if_neg (by omega)).trans h61⟩
  have hx2 := fun P g' => x_hI (M := mm (plC lg (v5_restore P0) f) P Q cl (cn f) (cn f) g' ou L xs e) okx2 z12 mm_2
  by_cases hgf : g ≤ f
  · rw [if_pos hgf, if_pos hgf] at hF
    obtain ⟨u5, u6, u7, hX⟩ := lw_28 (j5 := j5) (j6 := j6) (j7 := j7) hi hL scr_mm scr_mm hF (hx2 _ _)
    refine ⟨_, _, _, _, f, f, g, _, e, u5, u6, u7, ⟨_, N2, T2, D2, I3, ⟨hgn, hg1, hgq⟩, hq2, ⟨Nat.le_refl _, hgf, by omega⟩, hR2, hP2, pld_c (l2 g (by omega)) ⟨Ps, s1, s2, s3⟩⟩, by omega, by omega, hX⟩
  · rw [if_neg hgf, if_neg hgf] at hF
    obtain ⟨u5, u6, u7, hX⟩ := lw_28 (j5 := j5) (j6 := j6) (j7 := j7) hi hL scr_mm scr_mm hF (hx2 _ _)
    have z00 : cn ((0 : Nat) : Int) = cn 0 := rfl
    rw [← z00] at hX
    refine ⟨_, _, _, _, f, f, 0, _, e, u5, u6, u7, ⟨_, N2, T2, D2, I3, ⟨hgn, gr_V (t5_restore P1 hg1 R1), hgq⟩, hq2, ⟨Nat.le_refl _, by omega, by omega⟩, hR2, hP2, ⟨_, F1, rfl, fun i hi => absurd hi (by omega)⟩⟩, by omega, by omega, hX⟩
end RoundL
