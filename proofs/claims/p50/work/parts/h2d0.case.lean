/-! the cases of the play -/
section Play
variable {P0 P1 Q : PM} {cl : Nat → Int32} {tl kp fo : Int32} {ou : Int64} {L e : Nat} {xs : Nat → Int32} {a b c d x f : Int32}
theorem p_c0_0 {t : Nat} (hg : Gr 0 P0) (G : gE P0 a b c d x f 0) (W : g5_work (vE P0 a b c d x f 0).2) : X 201 97 [rR 3 11 1, rR 0 5 1, vI (cn t), vI (cn t * cn 7), vI a, vI b, vI c, vI d, vI x, vI f, vI (cn 0)] [vI (cn 1)] (mm P0 P1 Q cl tl kp fo ou L xs e) = some (.inl (some (vI (vE P0 a b c d x f 0).1)), mm (v5_work (vE P0 a b c d x f 0).2) P1 Q cl tl kp fo ou L xs e) ∧ Gr 0 (v5_work (vE P0 a b c d x f 0).2) := by
  rw [vE_0] at W ⊢
  rw [gE_0] at G
  refine ⟨?_, gr_V (t5_work _ (gr_I (t5_tellLimit P0 a b c d x f hg G)) W)⟩
  refine y_tab yk201s 0 97 220 0 rfl rfl ((cn_toInt (m := 1) (by decide)).trans (by decide)) (by decide) rfl rfl ?_
  have e2 := x_hI (M := (mm P0 P1 Q cl tl kp fo ou L xs e)) okx0 (t5_tellLimit P0 a b c d x f hg G) mm_0
  refine y_cal yk201_0 8 236 rfl e2 ?_
  have e3 := x_hV (M := (mm (v5_tellLimit P0 a b c d x f).2 P1 Q cl tl kp fo ou L xs e)) okx0 (t5_work _ (gr_I (t5_tellLimit P0 a b c d x f hg G)) W) mm_0
  refine y_ca0 yk201_0 4 695 rfl e3 ?_
  exact y_ret yk201_0 2 rfl rfl
theorem p_c1_0 {t : Nat} (hg : Gr 0 P0) (G : gE P0 a b c d x f 1) (W : g5_work (vE P0 a b c d x f 1).2) : X 201 97 [rR 3 11 1, rR 0 5 1, vI (cn t), vI (cn t * cn 7), vI a, vI b, vI c, vI d, vI x, vI f, vI (cn 0)] [vI (cn 2)] (mm P0 P1 Q cl tl kp fo ou L xs e) = some (.inl (some (vI (vE P0 a b c d x f 1).1)), mm (v5_work (vE P0 a b c d x f 1).2) P1 Q cl tl kp fo ou L xs e) ∧ Gr 0 (v5_work (vE P0 a b c d x f 1).2) := by
  rw [vE_1] at W ⊢
  rw [gE_1] at G
  refine ⟨?_, gr_V (t5_work _ (gr_I (t5_tellMarket P0 a b c hg G)) W)⟩
  refine y_tab yk201s 0 97 241 1 rfl rfl ((cn_toInt (m := 2) (by decide)).trans (by decide)) (by decide) rfl rfl ?_
  have e2 := x_hI (M := (mm P0 P1 Q cl tl kp fo ou L xs e)) okx0 (t5_tellMarket P0 a b c hg G) mm_0
  refine y_cal yk201_1 5 251 rfl e2 ?_
  have e3 := x_hV (M := (mm (v5_tellMarket P0 a b c).2 P1 Q cl tl kp fo ou L xs e)) okx0 (t5_work _ (gr_I (t5_tellMarket P0 a b c hg G)) W) mm_0
  refine y_ca0 yk201_1 4 695 rfl e3 ?_
  exact y_ret yk201_1 2 rfl rfl
theorem p_c2_0 {t : Nat} (hg : Gr 0 P0) (G : gE P0 a b c d x f 2) (W : g5_work (vE P0 a b c d x f 2).2) : X 201 97 [rR 3 11 1, rR 0 5 1, vI (cn t), vI (cn t * cn 7), vI a, vI b, vI c, vI d, vI x, vI f, vI (cn 0)] [vI (cn 3)] (mm P0 P1 Q cl tl kp fo ou L xs e) = some (.inl (some (vI (vE P0 a b c d x f 2).1)), mm (v5_work (vE P0 a b c d x f 2).2) P1 Q cl tl kp fo ou L xs e) ∧ Gr 0 (v5_work (vE P0 a b c d x f 2).2) := by
  rw [vE_2] at W ⊢
  rw [gE_2] at G
  refine ⟨?_, gr_V (t5_work _ (gr_I (t5_tellIceberg P0 a b c d x hg G)) W)⟩
  refine y_tab yk201s 0 97 256 2 rfl rfl ((cn_toInt (m := 3) (by decide)).trans (by decide)) (by decide) rfl rfl ?_
  have e2 := x_hI (M := (mm P0 P1 Q cl tl kp fo ou L xs e)) okx0 (t5_tellIceberg P0 a b c d x hg G) mm_0
  refine y_cal yk201_2 7 270 rfl e2 ?_
  have e3 := x_hV (M := (mm (v5_tellIceberg P0 a b c d x).2 P1 Q cl tl kp fo ou L xs e)) okx0 (t5_work _ (gr_I (t5_tellIceberg P0 a b c d x hg G)) W) mm_0
  refine y_ca0 yk201_2 4 695 rfl e3 ?_
  exact y_ret yk201_2 2 rfl rfl
theorem p_c3_0 {t : Nat} (hg : Gr 0 P0) (G : gE P0 a b c d x f 3) (W : g5_work (vE P0 a b c d x f 3).2) : X 201 97 [rR 3 11 1, rR 0 5 1, vI (cn t), vI (cn t * cn 7), vI a, vI b, vI c, vI d, vI x, vI f, vI (cn 0)] [vI (cn 4)] (mm P0 P1 Q cl tl kp fo ou L xs e) = some (.inl (some (vI (vE P0 a b c d x f 3).1)), mm (v5_work (vE P0 a b c d x f 3).2) P1 Q cl tl kp fo ou L xs e) ∧ Gr 0 (v5_work (vE P0 a b c d x f 3).2) := by
  rw [vE_3] at W ⊢
  rw [gE_3] at G
  refine ⟨?_, gr_V (t5_work _ (gr_I (t5_tellPeg P0 a b c d x hg G)) W)⟩
  refine y_tab yk201s 0 97 275 3 rfl rfl ((cn_toInt (m := 4) (by decide)).trans (by decide)) (by decide) rfl rfl ?_
  have e2 := x_hI (M := (mm P0 P1 Q cl tl kp fo ou L xs e)) okx0 (t5_tellPeg P0 a b c d x hg G) mm_0
  refine y_cal yk201_3 7 289 rfl e2 ?_
  have e3 := x_hV (M := (mm (v5_tellPeg P0 a b c d x).2 P1 Q cl tl kp fo ou L xs e)) okx0 (t5_work _ (gr_I (t5_tellPeg P0 a b c d x hg G)) W) mm_0
  refine y_ca0 yk201_3 4 695 rfl e3 ?_
  exact y_ret yk201_3 2 rfl rfl
theorem p_c4_0 {t : Nat} (hg : Gr 0 P0) (G : gE P0 a b c d x f 4) (W : g5_work (vE P0 a b c d x f 4).2) : X 201 97 [rR 3 11 1, rR 0 5 1, vI (cn t), vI (cn t * cn 7), vI a, vI b, vI c, vI d, vI x, vI f, vI (cn 0)] [vI (cn 5)] (mm P0 P1 Q cl tl kp fo ou L xs e) = some (.inl (some (vI (vE P0 a b c d x f 4).1)), mm (v5_work (vE P0 a b c d x f 4).2) P1 Q cl tl kp fo ou L xs e) ∧ Gr 0 (v5_work (vE P0 a b c d x f 4).2) := by
  rw [vE_4] at W ⊢
  rw [gE_4] at G
  refine ⟨?_, gr_V (t5_work _ (gr_I (t5_tellStop P0 a b c d x hg G)) W)⟩
  refine y_tab yk201s 0 97 294 4 rfl rfl ((cn_toInt (m := 5) (by decide)).trans (by decide)) (by decide) rfl rfl ?_
  have e2 := x_hI (M := (mm P0 P1 Q cl tl kp fo ou L xs e)) okx0 (t5_tellStop P0 a b c d x hg G) mm_0
  refine y_cal yk201_4 7 308 rfl e2 ?_
  have e3 := x_hV (M := (mm (v5_tellStop P0 a b c d x).2 P1 Q cl tl kp fo ou L xs e)) okx0 (t5_work _ (gr_I (t5_tellStop P0 a b c d x hg G)) W) mm_0
  refine y_ca0 yk201_4 4 695 rfl e3 ?_
  exact y_ret yk201_4 2 rfl rfl
theorem p_c5_0 {t : Nat} (hg : Gr 0 P0) (G : gE P0 a b c d x f 5) (W : g5_work (vE P0 a b c d x f 5).2) : X 201 97 [rR 3 11 1, rR 0 5 1, vI (cn t), vI (cn t * cn 7), vI a, vI b, vI c, vI d, vI x, vI f, vI (cn 0)] [vI (cn 6)] (mm P0 P1 Q cl tl kp fo ou L xs e) = some (.inl (some (vI (vE P0 a b c d x f 5).1)), mm (v5_work (vE P0 a b c d x f 5).2) P1 Q cl tl kp fo ou L xs e) ∧ Gr 0 (v5_work (vE P0 a b c d x f 5).2) := by
  rw [vE_5] at W ⊢
  rw [gE_5] at G
  refine ⟨?_, gr_V (t5_work _ (gr_I (t5_tellQuote P0 a b c d x hg G)) W)⟩
  refine y_tab yk201s 0 97 313 5 rfl rfl ((cn_toInt (m := 6) (by decide)).trans (by decide)) (by decide) rfl rfl ?_
  have e2 := x_hI (M := (mm P0 P1 Q cl tl kp fo ou L xs e)) okx0 (t5_tellQuote P0 a b c d x hg G) mm_0
  refine y_cal yk201_5 7 327 rfl e2 ?_
  have e3 := x_hV (M := (mm (v5_tellQuote P0 a b c d x).2 P1 Q cl tl kp fo ou L xs e)) okx0 (t5_work _ (gr_I (t5_tellQuote P0 a b c d x hg G)) W) mm_0
  refine y_ca0 yk201_5 4 695 rfl e3 ?_
  exact y_ret yk201_5 2 rfl rfl
theorem p_c6_0 {t : Nat} (hg : Gr 0 P0) (G : gE P0 a b c d x f 6) (W : g5_work (vE P0 a b c d x f 6).2) : X 201 97 [rR 3 11 1, rR 0 5 1, vI (cn t), vI (cn t * cn 7), vI a, vI b, vI c, vI d, vI x, vI f, vI (cn 0)] [vI (cn 7)] (mm P0 P1 Q cl tl kp fo ou L xs e) = some (.inl (some (vI (vE P0 a b c d x f 6).1)), mm (v5_work (vE P0 a b c d x f 6).2) P1 Q cl tl kp fo ou L xs e) ∧ Gr 0 (v5_work (vE P0 a b c d x f 6).2) := by
  rw [vE_6] at W ⊢
  rw [gE_6] at G
  refine ⟨?_, gr_V (t5_work _ (gr_I (t6_withdraw P0 a hg G)) W)⟩
  refine y_tab yk201s 0 97 332 6 rfl rfl ((cn_toInt (m := 7) (by decide)).trans (by decide)) (by decide) rfl rfl ?_
  refine y_gfr yk201_6 1 333 336 6 1 0 rfl rfl rfl rfl rfl (hg.1 (5, 0, 1) (by decide)) (by decide) ?_
  have e2 := x_hI (M := (mm P0 P1 Q cl tl kp fo ou L xs e)) okx0 (t6_withdraw P0 a hg G) mm_0
  refine y_cal yk201_6 2 341 rfl e2 ?_
  have e3 := x_hV (M := (mm (v6_withdraw P0 a).2 P1 Q cl tl kp fo ou L xs e)) okx0 (t5_work _ (gr_I (t6_withdraw P0 a hg G)) W) mm_0
  refine y_ca0 yk201_6 4 695 rfl e3 ?_
  exact y_ret yk201_6 2 rfl rfl
theorem p_c7_0 {t : Nat} (hg : Gr 0 P0) (G : gE P0 a b c d x f 7) (W : g5_work (vE P0 a b c d x f 7).2) : X 201 97 [rR 3 11 1, rR 0 5 1, vI (cn t), vI (cn t * cn 7), vI a, vI b, vI c, vI d, vI x, vI f, vI (cn 0)] [vI (cn 8)] (mm P0 P1 Q cl tl kp fo ou L xs e) = some (.inl (some (vI (vE P0 a b c d x f 7).1)), mm (v5_work (vE P0 a b c d x f 7).2) P1 Q cl tl kp fo ou L xs e) ∧ Gr 0 (v5_work (vE P0 a b c d x f 7).2) := by
  rw [vE_7] at W ⊢
  rw [gE_7] at G
  refine ⟨?_, gr_V (t5_work _ (gr_I (t1_changeRule P0 (v6_bookAt P0 a) b c d hg G.2)) W)⟩
  refine y_tab yk201s 0 97 346 7 rfl rfl ((cn_toInt (m := 8) (by decide)).trans (by decide)) (by decide) rfl rfl ?_
  refine y_gfr yk201_7 1 347 350 6 1 0 rfl rfl rfl rfl rfl (hg.1 (5, 0, 1) (by decide)) (by decide) ?_
  have e1 := x_R (M := (mm P0 P1 Q cl tl kp fo ou L xs e)) okx0 G.2.1 (t6_bookAt P0 hg a G.1)
  refine y_cal yk201_7 2 355 rfl e1 ?_
  have e2 := x_hI' (M := (mm P0 P1 Q cl tl kp fo ou L xs e)) okx0 (t1_changeRule P0 (v6_bookAt P0 a) b c d hg G.2) (by show vR _ _ _ :: _ = _; rw [vR_pos G.2.1]; try rfl) mm_0
  refine y_cal yk201_7 4 364 rfl e2 ?_
  have e3 := x_hV (M := (mm (v1_changeRule P0 (v6_bookAt P0 a) b c d).2 P1 Q cl tl kp fo ou L xs e)) okx0 (t5_work _ (gr_I (t1_changeRule P0 (v6_bookAt P0 a) b c d hg G.2)) W) mm_0
  refine y_ca0 yk201_7 4 695 rfl e3 ?_
  exact y_ret yk201_7 2 rfl rfl
theorem p_c8_0 {t : Nat} (hg : Gr 0 P0) (G : gE P0 a b c d x f 8) (W : g5_work (vE P0 a b c d x f 8).2) : X 201 97 [rR 3 11 1, rR 0 5 1, vI (cn t), vI (cn t * cn 7), vI a, vI b, vI c, vI d, vI x, vI f, vI (cn 0)] [vI (cn 9)] (mm P0 P1 Q cl tl kp fo ou L xs e) = some (.inl (some (vI (vE P0 a b c d x f 8).1)), mm (v5_work (vE P0 a b c d x f 8).2) P1 Q cl tl kp fo ou L xs e) ∧ Gr 0 (v5_work (vE P0 a b c d x f 8).2) := by
  rw [vE_8] at W ⊢
  rw [gE_8] at G
  refine ⟨?_, gr_V (t5_work _ (gr_I (t1_changeBand P0 (v6_bookAt P0 a) b hg G.2)) W)⟩
  refine y_tab yk201s 0 97 369 8 rfl rfl ((cn_toInt (m := 9) (by decide)).trans (by decide)) (by decide) rfl rfl ?_
  refine y_gfr yk201_8 1 370 373 6 1 0 rfl rfl rfl rfl rfl (hg.1 (5, 0, 1) (by decide)) (by decide) ?_
  have e1 := x_R (M := (mm P0 P1 Q cl tl kp fo ou L xs e)) okx0 G.2.1 (t6_bookAt P0 hg a G.1)
  refine y_cal yk201_8 2 378 rfl e1 ?_
  have e2 := x_hI' (M := (mm P0 P1 Q cl tl kp fo ou L xs e)) okx0 (t1_changeBand P0 (v6_bookAt P0 a) b hg G.2) (by show vR _ _ _ :: _ = _; rw [vR_pos G.2.1]; try rfl) mm_0
  refine y_cal yk201_8 2 383 rfl e2 ?_
  have e3 := x_hV (M := (mm (v1_changeBand P0 (v6_bookAt P0 a) b).2 P1 Q cl tl kp fo ou L xs e)) okx0 (t5_work _ (gr_I (t1_changeBand P0 (v6_bookAt P0 a) b hg G.2)) W) mm_0
  refine y_ca0 yk201_8 4 695 rfl e3 ?_
  exact y_ret yk201_8 2 rfl rfl
theorem p_c9_0 {t : Nat} (hg : Gr 0 P0) (G : gE P0 a b c d x f 9) (W : g5_work (vE P0 a b c d x f 9).2) : X 201 97 [rR 3 11 1, rR 0 5 1, vI (cn t), vI (cn t * cn 7), vI a, vI b, vI c, vI d, vI x, vI f, vI (cn 0)] [vI (cn 10)] (mm P0 P1 Q cl tl kp fo ou L xs e) = some (.inl (some (vI (vE P0 a b c d x f 9).1)), mm (v5_work (vE P0 a b c d x f 9).2) P1 Q cl tl kp fo ou L xs e) ∧ Gr 0 (v5_work (vE P0 a b c d x f 9).2) := by
  rw [vE_9] at W ⊢
  rw [gE_9] at G
  refine ⟨?_, gr_V (t5_work _ (gr_I (t0_changeProtection P0 (v7_accountAt P0 a) b hg G.2)) W)⟩
  refine y_tab yk201s 0 97 388 9 rfl rfl ((cn_toInt (m := 10) (by decide)).trans (by decide)) (by decide) rfl rfl ?_
  refine y_gfr yk201_9 1 389 392 7 1 0 rfl rfl rfl rfl rfl (hg.1 (5, 1, 1) (by decide)) (by decide) ?_
  have e1 := x_R (M := (mm P0 P1 Q cl tl kp fo ou L xs e)) okx0 G.2.1 (t7_accountAt P0 hg a G.1)
  refine y_cal yk201_9 2 397 rfl e1 ?_
  have e2 := x_hI' (M := (mm P0 P1 Q cl tl kp fo ou L xs e)) okx0 (t0_changeProtection P0 (v7_accountAt P0 a) b hg G.2) (by show vR _ _ _ :: _ = _; rw [vR_pos G.2.1]; try rfl) mm_0
  refine y_cal yk201_9 2 402 rfl e2 ?_
  have e3 := x_hV (M := (mm (v0_changeProtection P0 (v7_accountAt P0 a) b).2 P1 Q cl tl kp fo ou L xs e)) okx0 (t5_work _ (gr_I (t0_changeProtection P0 (v7_accountAt P0 a) b hg G.2)) W) mm_0
  refine y_ca0 yk201_9 4 695 rfl e3 ?_
  exact y_ret yk201_9 2 rfl rfl
theorem p_c10_0 {t : Nat} (hg : Gr 0 P0) (G : gE P0 a b c d x f 10) (W : g5_work (vE P0 a b c d x f 10).2) : X 201 97 [rR 3 11 1, rR 0 5 1, vI (cn t), vI (cn t * cn 7), vI a, vI b, vI c, vI d, vI x, vI f, vI (cn 0)] [vI (cn 11)] (mm P0 P1 Q cl tl kp fo ou L xs e) = some (.inl (some (vI (vE P0 a b c d x f 10).1)), mm (v5_work (vE P0 a b c d x f 10).2) P1 Q cl tl kp fo ou L xs e) ∧ Gr 0 (v5_work (vE P0 a b c d x f 10).2) := by
  rw [vE_10] at W ⊢
  rw [gE_10] at G
  refine ⟨?_, gr_V (t5_work _ (gr_I (t0_changeLimit P0 (v7_accountAt P0 a) b c hg G.2)) W)⟩
  refine y_tab yk201s 0 97 407 10 rfl rfl ((cn_toInt (m := 11) (by decide)).trans (by decide)) (by decide) rfl rfl ?_
  refine y_gfr yk201_10 1 408 411 7 1 0 rfl rfl rfl rfl rfl (hg.1 (5, 1, 1) (by decide)) (by decide) ?_
  have e1 := x_R (M := (mm P0 P1 Q cl tl kp fo ou L xs e)) okx0 G.2.1 (t7_accountAt P0 hg a G.1)
  refine y_cal yk201_10 2 416 rfl e1 ?_
  have e2 := x_hI' (M := (mm P0 P1 Q cl tl kp fo ou L xs e)) okx0 (t0_changeLimit P0 (v7_accountAt P0 a) b c hg G.2) (by show vR _ _ _ :: _ = _; rw [vR_pos G.2.1]; try rfl) mm_0
  refine y_cal yk201_10 3 423 rfl e2 ?_
  have e3 := x_hV (M := (mm (v0_changeLimit P0 (v7_accountAt P0 a) b c).2 P1 Q cl tl kp fo ou L xs e)) okx0 (t5_work _ (gr_I (t0_changeLimit P0 (v7_accountAt P0 a) b c hg G.2)) W) mm_0
  refine y_ca0 yk201_10 4 695 rfl e3 ?_
  exact y_ret yk201_10 2 rfl rfl
theorem p_c11_0 {t : Nat} (hg : Gr 0 P0) (G : gE P0 a b c d x f 11) (W : g5_work (vE P0 a b c d x f 11).2) : X 201 97 [rR 3 11 1, rR 0 5 1, vI (cn t), vI (cn t * cn 7), vI a, vI b, vI c, vI d, vI x, vI f, vI (cn 0)] [vI (cn 12)] (mm P0 P1 Q cl tl kp fo ou L xs e) = some (.inl (some (vI (vE P0 a b c d x f 11).1)), mm (v5_work (vE P0 a b c d x f 11).2) P1 Q cl tl kp fo ou L xs e) ∧ Gr 0 (v5_work (vE P0 a b c d x f 11).2) := by
  rw [vE_11] at W ⊢
  rw [gE_11] at G
  refine ⟨?_, gr_V (t5_work _ (gr_I (t6_beginAuction P0 (v6_bookAt P0 a) (b + d) c hg G.2)) W)⟩
  refine y_tab yk201s 0 97 428 11 rfl rfl ((cn_toInt (m := 12) (by decide)).trans (by decide)) (by decide) rfl rfl ?_
  refine y_gfr yk201_11 1 429 432 6 1 0 rfl rfl rfl rfl rfl (hg.1 (5, 0, 1) (by decide)) (by decide) ?_
  refine y_gfr yk201_11 1 433 436 6 1 0 rfl rfl rfl rfl rfl (hg.1 (5, 0, 1) (by decide)) (by decide) ?_
  have e1 := x_R (M := (mm P0 P1 Q cl tl kp fo ou L xs e)) okx0 G.2.1 (t6_bookAt P0 hg a G.1)
  refine y_cal yk201_11 2 441 rfl e1 ?_
  have e2 := x_hI' (M := (mm P0 P1 Q cl tl kp fo ou L xs e)) okx0 (t6_beginAuction P0 (v6_bookAt P0 a) (b + d) c hg G.2) (by show _ :: vR _ _ _ :: _ = _; rw [vR_pos G.2.1]; try rfl) mm_0
  refine y_cal yk201_11 5 451 rfl e2 ?_
  have e3 := x_hV (M := (mm (v6_beginAuction P0 (v6_bookAt P0 a) (b + d) c).2 P1 Q cl tl kp fo ou L xs e)) okx0 (t5_work _ (gr_I (t6_beginAuction P0 (v6_bookAt P0 a) (b + d) c hg G.2)) W) mm_0
  refine y_ca0 yk201_11 4 695 rfl e3 ?_
  exact y_ret yk201_11 2 rfl rfl
theorem p_c12_0 {t : Nat} (hg : Gr 0 P0) (G : gE P0 a b c d x f 12) (W : g5_work (vE P0 a b c d x f 12).2) : X 201 97 [rR 3 11 1, rR 0 5 1, vI (cn t), vI (cn t * cn 7), vI a, vI b, vI c, vI d, vI x, vI f, vI (cn 0)] [vI (cn 13)] (mm P0 P1 Q cl tl kp fo ou L xs e) = some (.inl (some (vI (vE P0 a b c d x f 12).1)), mm (v5_work (vE P0 a b c d x f 12).2) P1 Q cl tl kp fo ou L xs e) ∧ Gr 0 (v5_work (vE P0 a b c d x f 12).2) := by
  rw [vE_12] at W ⊢
  rw [gE_12] at G
  refine ⟨?_, gr_V (t5_work _ (gr_I (t5_letPass P0 a hg G)) W)⟩
  refine y_tab yk201s 0 97 456 12 rfl rfl ((cn_toInt (m := 13) (by decide)).trans (by decide)) (by decide) rfl rfl ?_
  have e2 := x_hI (M := (mm P0 P1 Q cl tl kp fo ou L xs e)) okx0 (t5_letPass P0 a hg G) mm_0
  refine y_cal yk201_12 3 462 rfl e2 ?_
  have e3 := x_hV (M := (mm (v5_letPass P0 a).2 P1 Q cl tl kp fo ou L xs e)) okx0 (t5_work _ (gr_I (t5_letPass P0 a hg G)) W) mm_0
  refine y_ca0 yk201_12 4 695 rfl e3 ?_
  exact y_ret yk201_12 2 rfl rfl
theorem p_c13_0 {t : Nat} (hg : Gr 0 P0) (G : gE P0 a b c d x f 13) (W : g5_work (vE P0 a b c d x f 13).2) : X 201 97 [rR 3 11 1, rR 0 5 1, vI (cn t), vI (cn t * cn 7), vI a, vI b, vI c, vI d, vI x, vI f, vI (cn 0)] [vI (cn 14)] (mm P0 P1 Q cl tl kp fo ou L xs e) = some (.inl (some (vI (vE P0 a b c d x f 13).1)), mm (v5_work (vE P0 a b c d x f 13).2) P1 Q cl tl kp fo ou L xs e) ∧ Gr 0 (v5_work (vE P0 a b c d x f 13).2) := by
  rw [vE_13] at W ⊢
  rw [gE_13] at G
  refine ⟨?_, gr_V (t5_work _ (gr_I (t6_turnDay P0 hg G)) W)⟩
  refine y_tab yk201s 0 97 467 13 rfl rfl ((cn_toInt (m := 14) (by decide)).trans (by decide)) (by decide) rfl rfl ?_
  refine y_gfr yk201_13 1 468 471 6 1 0 rfl rfl rfl rfl rfl (hg.1 (5, 0, 1) (by decide)) (by decide) ?_
  have e2 := x_hI (M := (mm P0 P1 Q cl tl kp fo ou L xs e)) okx0 (t6_turnDay P0 hg G) mm_0
  refine y_cal yk201_13 1 474 rfl e2 ?_
  have e3 := x_hV (M := (mm (v6_turnDay P0).2 P1 Q cl tl kp fo ou L xs e)) okx0 (t5_work _ (gr_I (t6_turnDay P0 hg G)) W) mm_0
  refine y_ca0 yk201_13 4 695 rfl e3 ?_
  exact y_ret yk201_13 2 rfl rfl
theorem p_c14_0 {t : Nat} (hg : Gr 0 P0) (G : gE P0 a b c d x f 14) (W : g5_work (vE P0 a b c d x f 14).2) : X 201 97 [rR 3 11 1, rR 0 5 1, vI (cn t), vI (cn t * cn 7), vI a, vI b, vI c, vI d, vI x, vI f, vI (cn 0)] [vI (cn 15)] (mm P0 P1 Q cl tl kp fo ou L xs e) = some (.inl (some (vI (vE P0 a b c d x f 14).1)), mm (v5_work (vE P0 a b c d x f 14).2) P1 Q cl tl kp fo ou L xs e) ∧ Gr 0 (v5_work (vE P0 a b c d x f 14).2) := by
  rw [vE_14] at W ⊢
  rw [gE_14] at G
  refine ⟨?_, gr_V (t5_work _ (gr_I (t5_undo P0 a hg G)) W)⟩
  refine y_tab yk201s 0 97 479 14 rfl rfl ((cn_toInt (m := 15) (by decide)).trans (by decide)) (by decide) rfl rfl ?_
  have e2 := x_hI (M := (mm P0 P1 Q cl tl kp fo ou L xs e)) okx0 (t5_undo P0 a hg G) mm_0
  refine y_cal yk201_14 3 485 rfl e2 ?_
  have e3 := x_hV (M := (mm (v5_undo P0 a).2 P1 Q cl tl kp fo ou L xs e)) okx0 (t5_work _ (gr_I (t5_undo P0 a hg G)) W) mm_0
  refine y_ca0 yk201_14 4 695 rfl e3 ?_
  exact y_ret yk201_14 2 rfl rfl
end Play
