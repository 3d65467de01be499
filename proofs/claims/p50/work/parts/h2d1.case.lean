/-! the cases of the play -/
section Play
variable {P0 P1 Q : PM} {cl : Nat → Int32} {tl kp fo : Int32} {ou : Int64} {L e : Nat} {xs : Nat → Int32} {a b c d x f : Int32}
theorem p_c15_0 {t : Nat} (hg : Gr 0 P0) (G : gE P0 a b c d x f 15) (W : g5_work (vE P0 a b c d x f 15).2) : X 201 97 [rR 3 11 1, rR 0 5 1, vI (cn t), vI (cn t * cn 7), vI a, vI b, vI c, vI d, vI x, vI f, vI (cn 0)] [vI (cn 16)] (mm P0 P1 Q cl tl kp fo ou L xs e) = some (.inl (some (vI (vE P0 a b c d x f 15).1)), mm (v5_work (vE P0 a b c d x f 15).2) P1 Q cl tl kp fo ou L xs e) ∧ Gr 0 (v5_work (vE P0 a b c d x f 15).2) := by
  rw [vE_15] at W ⊢
  rw [gE_15] at G
  refine ⟨?_, gr_V (t5_work _ (gr_I (t7_reprice P0 a b hg G)) W)⟩
  refine y_tab yk201s 0 97 490 15 rfl rfl ((cn_toInt (m := 16) (by decide)).trans (by decide)) (by decide) rfl rfl ?_
  refine y_gfr yk201_15 1 491 494 7 1 0 rfl rfl rfl rfl rfl (hg.1 (5, 1, 1) (by decide)) (by decide) ?_
  have e2 := x_hI (M := (mm P0 P1 Q cl tl kp fo ou L xs e)) okx0 (t7_reprice P0 a b hg G) mm_0
  refine y_cal yk201_15 3 501 rfl e2 ?_
  have e3 := x_hV (M := (mm (v7_reprice P0 a b).2 P1 Q cl tl kp fo ou L xs e)) okx0 (t5_work _ (gr_I (t7_reprice P0 a b hg G)) W) mm_0
  refine y_ca0 yk201_15 4 695 rfl e3 ?_
  exact y_ret yk201_15 2 rfl rfl
theorem p_c16_0_t {t : Nat} (hb : b = cn 1) (hg : Gr 0 P0) (G : gE P0 a b c d x f 16) (W : g5_work (vE P0 a b c d x f 16).2) : X 201 97 [rR 3 11 1, rR 0 5 1, vI (cn t), vI (cn t * cn 7), vI a, vI b, vI c, vI d, vI x, vI f, vI (cn 0)] [vI (cn 17)] (mm P0 P1 Q cl tl kp fo ou L xs e) = some (.inl (some (vI (vE P0 a b c d x f 16).1)), mm (v5_work (vE P0 a b c d x f 16).2) P1 Q cl tl kp fo ou L xs e) ∧ Gr 0 (v5_work (vE P0 a b c d x f 16).2) := by
  rw [vE_16] at W ⊢
  rw [gE_16] at G
  rw [if_pos hb] at W ⊢ G
  have G2 := G
  refine ⟨?_, gr_V (t5_work _ (gr_I (t7_replaceSide P0 a (cn 1) c hg G2)) W)⟩
  refine y_tab yk201s 0 97 506 16 rfl rfl ((cn_toInt (m := 17) (by decide)).trans (by decide)) (by decide) rfl rfl ?_
  refine y_gfr yk201_16 1 507 510 7 1 0 rfl rfl rfl rfl rfl (hg.1 (5, 1, 1) (by decide)) (by decide) ?_
  refine y_icF yk201_16 3 515 518 rfl rfl rfl (by decide) (by rw [hb]; decide) ?_
  refine y_go yk201_16 2 523 rfl ?_
  have e2 := x_hI (M := (mm P0 P1 Q cl tl kp fo ou L xs e)) okx0 (t7_replaceSide P0 a (cn 1) c hg G2) mm_0
  refine y_cal yk201_16 2 528 rfl e2 ?_
  have e3 := x_hV (M := (mm (v7_replaceSide P0 a (cn 1) c).2 P1 Q cl tl kp fo ou L xs e)) okx0 (t5_work _ (gr_I (t7_replaceSide P0 a (cn 1) c hg G2)) W) mm_0
  refine y_ca0 yk201_16 4 695 rfl e3 ?_
  exact y_ret yk201_16 2 rfl rfl
theorem p_c16_0_f {t : Nat} (hb : ¬ b = cn 1) (hg : Gr 0 P0) (G : gE P0 a b c d x f 16) (W : g5_work (vE P0 a b c d x f 16).2) : X 201 97 [rR 3 11 1, rR 0 5 1, vI (cn t), vI (cn t * cn 7), vI a, vI b, vI c, vI d, vI x, vI f, vI (cn 0)] [vI (cn 17)] (mm P0 P1 Q cl tl kp fo ou L xs e) = some (.inl (some (vI (vE P0 a b c d x f 16).1)), mm (v5_work (vE P0 a b c d x f 16).2) P1 Q cl tl kp fo ou L xs e) ∧ Gr 0 (v5_work (vE P0 a b c d x f 16).2) := by
  rw [vE_16] at W ⊢
  rw [gE_16] at G
  rw [if_neg hb] at W ⊢ G
  have G2 := G
  refine ⟨?_, gr_V (t5_work _ (gr_I (t7_replaceSide P0 a (cn 0) c hg G2)) W)⟩
  refine y_tab yk201s 0 97 506 16 rfl rfl ((cn_toInt (m := 17) (by decide)).trans (by decide)) (by decide) rfl rfl ?_
  refine y_gfr yk201_16 1 507 510 7 1 0 rfl rfl rfl rfl rfl (hg.1 (5, 1, 1) (by decide)) (by decide) ?_
  refine y_icT yk201_16 3 515 522 rfl rfl rfl (decide_eq_true hb) ?_
  have e2 := x_hI (M := (mm P0 P1 Q cl tl kp fo ou L xs e)) okx0 (t7_replaceSide P0 a (cn 0) c hg G2) mm_0
  refine y_cal yk201_16 3 528 rfl e2 ?_
  have e3 := x_hV (M := (mm (v7_replaceSide P0 a (cn 0) c).2 P1 Q cl tl kp fo ou L xs e)) okx0 (t5_work _ (gr_I (t7_replaceSide P0 a (cn 0) c hg G2)) W) mm_0
  refine y_ca0 yk201_16 4 695 rfl e3 ?_
  exact y_ret yk201_16 2 rfl rfl
theorem p_c16_0 {t : Nat} (hg : Gr 0 P0) (G : gE P0 a b c d x f 16) (W : g5_work (vE P0 a b c d x f 16).2) : X 201 97 [rR 3 11 1, rR 0 5 1, vI (cn t), vI (cn t * cn 7), vI a, vI b, vI c, vI d, vI x, vI f, vI (cn 0)] [vI (cn 17)] (mm P0 P1 Q cl tl kp fo ou L xs e) = some (.inl (some (vI (vE P0 a b c d x f 16).1)), mm (v5_work (vE P0 a b c d x f 16).2) P1 Q cl tl kp fo ou L xs e) ∧ Gr 0 (v5_work (vE P0 a b c d x f 16).2) := by
  by_cases hb : b = cn 1
  · exact p_c16_0_t hb hg G W
  · exact p_c16_0_f hb hg G W
theorem p_c17_0 {t : Nat} (hg : Gr 0 P0) (G : gE P0 a b c d x f 17) (W : g5_work (vE P0 a b c d x f 17).2) : X 201 97 [rR 3 11 1, rR 0 5 1, vI (cn t), vI (cn t * cn 7), vI a, vI b, vI c, vI d, vI x, vI f, vI (cn 0)] [vI (cn 18)] (mm P0 P1 Q cl tl kp fo ou L xs e) = some (.inl (some (vI (vE P0 a b c d x f 17).1)), mm (v5_work (vE P0 a b c d x f 17).2) P1 Q cl tl kp fo ou L xs e) ∧ Gr 0 (v5_work (vE P0 a b c d x f 17).2) := by
  rw [vE_17] at W ⊢
  rw [gE_17] at G
  refine ⟨?_, gr_V (t5_work _ (gr_I (t7_allotLots P0 a b c d hg G)) W)⟩
  refine y_tab yk201s 0 97 533 17 rfl rfl ((cn_toInt (m := 18) (by decide)).trans (by decide)) (by decide) rfl rfl ?_
  refine y_gfr yk201_17 1 534 537 7 1 0 rfl rfl rfl rfl rfl (hg.1 (5, 1, 1) (by decide)) (by decide) ?_
  have e2 := x_hI (M := (mm P0 P1 Q cl tl kp fo ou L xs e)) okx0 (t7_allotLots P0 a b c d hg G) mm_0
  refine y_cal yk201_17 5 548 rfl e2 ?_
  have e3 := x_hV (M := (mm (v7_allotLots P0 a b c d).2 P1 Q cl tl kp fo ou L xs e)) okx0 (t5_work _ (gr_I (t7_allotLots P0 a b c d hg G)) W) mm_0
  refine y_ca0 yk201_17 4 695 rfl e3 ?_
  exact y_ret yk201_17 2 rfl rfl
theorem p_c18_0 {t : Nat} (hg : Gr 0 P0) (G : gE P0 a b c d x f 18) (W : g5_work (vE P0 a b c d x f 18).2) : X 201 97 [rR 3 11 1, rR 0 5 1, vI (cn t), vI (cn t * cn 7), vI a, vI b, vI c, vI d, vI x, vI f, vI (cn 0)] [vI (cn 19)] (mm P0 P1 Q cl tl kp fo ou L xs e) = some (.inl (some (vI (vE P0 a b c d x f 18).1)), mm (v5_work (vE P0 a b c d x f 18).2) P1 Q cl tl kp fo ou L xs e) ∧ Gr 0 (v5_work (vE P0 a b c d x f 18).2) := by
  rw [vE_18] at W ⊢
  rw [gE_18] at G
  refine ⟨?_, gr_V (t5_work _ (gr_I (t7_exerciseLots P0 a b c hg G)) W)⟩
  refine y_tab yk201s 0 97 553 18 rfl rfl ((cn_toInt (m := 19) (by decide)).trans (by decide)) (by decide) rfl rfl ?_
  refine y_gfr yk201_18 1 554 557 7 1 0 rfl rfl rfl rfl rfl (hg.1 (5, 1, 1) (by decide)) (by decide) ?_
  have e2 := x_hI (M := (mm P0 P1 Q cl tl kp fo ou L xs e)) okx0 (t7_exerciseLots P0 a b c hg G) mm_0
  refine y_cal yk201_18 4 566 rfl e2 ?_
  have e3 := x_hV (M := (mm (v7_exerciseLots P0 a b c).2 P1 Q cl tl kp fo ou L xs e)) okx0 (t5_work _ (gr_I (t7_exerciseLots P0 a b c hg G)) W) mm_0
  refine y_ca0 yk201_18 4 695 rfl e3 ?_
  exact y_ret yk201_18 2 rfl rfl
theorem p_c19_0 {t : Nat} (hg : Gr 0 P0) (G : gE P0 a b c d x f 19) (W : g5_work (vE P0 a b c d x f 19).2) : X 201 97 [rR 3 11 1, rR 0 5 1, vI (cn t), vI (cn t * cn 7), vI a, vI b, vI c, vI d, vI x, vI f, vI (cn 0)] [vI (cn 20)] (mm P0 P1 Q cl tl kp fo ou L xs e) = some (.inl (some (vI (vE P0 a b c d x f 19).1)), mm (v5_work (vE P0 a b c d x f 19).2) P1 Q cl tl kp fo ou L xs e) ∧ Gr 0 (v5_work (vE P0 a b c d x f 19).2) := by
  rw [vE_19] at W ⊢
  rw [gE_19] at G
  refine ⟨?_, gr_V (t5_work _ (gr_I (t5_convertContract P0 a b c hg G)) W)⟩
  refine y_tab yk201s 0 97 571 19 rfl rfl ((cn_toInt (m := 20) (by decide)).trans (by decide)) (by decide) rfl rfl ?_
  have e2 := x_hI (M := (mm P0 P1 Q cl tl kp fo ou L xs e)) okx0 (t5_convertContract P0 a b c hg G) mm_0
  refine y_cal yk201_19 5 581 rfl e2 ?_
  have e3 := x_hV (M := (mm (v5_convertContract P0 a b c).2 P1 Q cl tl kp fo ou L xs e)) okx0 (t5_work _ (gr_I (t5_convertContract P0 a b c hg G)) W) mm_0
  refine y_ca0 yk201_19 4 695 rfl e3 ?_
  exact y_ret yk201_19 2 rfl rfl
theorem p_c20_0 {t : Nat} (hg : Gr 0 P0) (G : gE P0 a b c d x f 20) (W : g5_work (vE P0 a b c d x f 20).2) : X 201 97 [rR 3 11 1, rR 0 5 1, vI (cn t), vI (cn t * cn 7), vI a, vI b, vI c, vI d, vI x, vI f, vI (cn 0)] [vI (cn 21)] (mm P0 P1 Q cl tl kp fo ou L xs e) = some (.inl (some (vI (vE P0 a b c d x f 20).1)), mm (v5_work (vE P0 a b c d x f 20).2) P1 Q cl tl kp fo ou L xs e) ∧ Gr 0 (v5_work (vE P0 a b c d x f 20).2) := by
  rw [vE_20] at W ⊢
  rw [gE_20] at G
  refine ⟨?_, gr_V (t5_work _ (gr_I (t2_changeMove P0 a b c hg G)) W)⟩
  refine y_tab yk201s 0 97 586 20 rfl rfl ((cn_toInt (m := 21) (by decide)).trans (by decide)) (by decide) rfl rfl ?_
  refine y_gfr yk201_20 1 587 590 2 1 0 rfl rfl rfl rfl rfl (hg.1 (5, 4, 1) (by decide)) (by decide) ?_
  have e2 := x_hI (M := (mm P0 P1 Q cl tl kp fo ou L xs e)) okx0 (t2_changeMove P0 a b c hg G) mm_0
  refine y_cal yk201_20 4 599 rfl e2 ?_
  have e3 := x_hV (M := (mm (v2_changeMove P0 a b c).2 P1 Q cl tl kp fo ou L xs e)) okx0 (t5_work _ (gr_I (t2_changeMove P0 a b c hg G)) W) mm_0
  refine y_ca0 yk201_20 4 695 rfl e3 ?_
  exact y_ret yk201_20 2 rfl rfl
theorem p_c21_0 {t : Nat} (hg : Gr 0 P0) (G : gE P0 a b c d x f 21) (W : g5_work (vE P0 a b c d x f 21).2) : X 201 97 [rR 3 11 1, rR 0 5 1, vI (cn t), vI (cn t * cn 7), vI a, vI b, vI c, vI d, vI x, vI f, vI (cn 0)] [vI (cn 22)] (mm P0 P1 Q cl tl kp fo ou L xs e) = some (.inl (some (vI (vE P0 a b c d x f 21).1)), mm (v5_work (vE P0 a b c d x f 21).2) P1 Q cl tl kp fo ou L xs e) ∧ Gr 0 (v5_work (vE P0 a b c d x f 21).2) := by
  rw [vE_21] at W ⊢
  rw [gE_21] at G
  refine ⟨?_, gr_V (t5_work _ (gr_I (t2_changeHaircut P0 a hg G)) W)⟩
  refine y_tab yk201s 0 97 604 21 rfl rfl ((cn_toInt (m := 22) (by decide)).trans (by decide)) (by decide) rfl rfl ?_
  refine y_gfr yk201_21 1 605 608 2 1 0 rfl rfl rfl rfl rfl (hg.1 (5, 4, 1) (by decide)) (by decide) ?_
  have e2 := x_hI (M := (mm P0 P1 Q cl tl kp fo ou L xs e)) okx0 (t2_changeHaircut P0 a hg G) mm_0
  refine y_cal yk201_21 2 613 rfl e2 ?_
  have e3 := x_hV (M := (mm (v2_changeHaircut P0 a).2 P1 Q cl tl kp fo ou L xs e)) okx0 (t5_work _ (gr_I (t2_changeHaircut P0 a hg G)) W) mm_0
  refine y_ca0 yk201_21 4 695 rfl e3 ?_
  exact y_ret yk201_21 2 rfl rfl
theorem p_c22_0 {t : Nat} (hg : Gr 0 P0) (G : gE P0 a b c d x f 22) (W : g5_work (vE P0 a b c d x f 22).2) : X 201 97 [rR 3 11 1, rR 0 5 1, vI (cn t), vI (cn t * cn 7), vI a, vI b, vI c, vI d, vI x, vI f, vI (cn 0)] [vI (cn 23)] (mm P0 P1 Q cl tl kp fo ou L xs e) = some (.inl (some (vI (vE P0 a b c d x f 22).1)), mm (v5_work (vE P0 a b c d x f 22).2) P1 Q cl tl kp fo ou L xs e) ∧ Gr 0 (v5_work (vE P0 a b c d x f 22).2) := by
  rw [vE_22] at W ⊢
  rw [gE_22] at G
  refine ⟨?_, gr_V (t5_work _ (gr_I (t2_bring P0 a b c hg G)) W)⟩
  refine y_tab yk201s 0 97 618 22 rfl rfl ((cn_toInt (m := 23) (by decide)).trans (by decide)) (by decide) rfl rfl ?_
  refine y_gfr yk201_22 1 619 622 2 1 0 rfl rfl rfl rfl rfl (hg.1 (5, 4, 1) (by decide)) (by decide) ?_
  have e2 := x_hI (M := (mm P0 P1 Q cl tl kp fo ou L xs e)) okx0 (t2_bring P0 a b c hg G) mm_0
  refine y_cal yk201_22 4 631 rfl e2 ?_
  have e3 := x_hV (M := (mm (v2_bring P0 a b c).2 P1 Q cl tl kp fo ou L xs e)) okx0 (t5_work _ (gr_I (t2_bring P0 a b c hg G)) W) mm_0
  refine y_ca0 yk201_22 4 695 rfl e3 ?_
  exact y_ret yk201_22 2 rfl rfl
theorem p_c23_0 {t : Nat} (hg : Gr 0 P0) (G : gE P0 a b c d x f 23) (W : g5_work (vE P0 a b c d x f 23).2) : X 201 97 [rR 3 11 1, rR 0 5 1, vI (cn t), vI (cn t * cn 7), vI a, vI b, vI c, vI d, vI x, vI f, vI (cn 0)] [vI (cn 24)] (mm P0 P1 Q cl tl kp fo ou L xs e) = some (.inl (some (vI (vE P0 a b c d x f 23).1)), mm (v5_work (vE P0 a b c d x f 23).2) P1 Q cl tl kp fo ou L xs e) ∧ Gr 0 (v5_work (vE P0 a b c d x f 23).2) := by
  rw [vE_23] at W ⊢
  rw [gE_23] at G
  refine ⟨?_, gr_V (t5_work _ (gr_I (t2_changeFund P0 a b hg G)) W)⟩
  refine y_tab yk201s 0 97 636 23 rfl rfl ((cn_toInt (m := 24) (by decide)).trans (by decide)) (by decide) rfl rfl ?_
  refine y_gfr yk201_23 1 637 640 2 1 0 rfl rfl rfl rfl rfl (hg.1 (5, 4, 1) (by decide)) (by decide) ?_
  have e2 := x_hI (M := (mm P0 P1 Q cl tl kp fo ou L xs e)) okx0 (t2_changeFund P0 a b hg G) mm_0
  refine y_cal yk201_23 3 647 rfl e2 ?_
  have e3 := x_hV (M := (mm (v2_changeFund P0 a b).2 P1 Q cl tl kp fo ou L xs e)) okx0 (t5_work _ (gr_I (t2_changeFund P0 a b hg G)) W) mm_0
  refine y_ca0 yk201_23 4 695 rfl e3 ?_
  exact y_ret yk201_23 2 rfl rfl
theorem p_c24_0 {t : Nat} (hg : Gr 0 P0) (G : gE P0 a b c d x f 24) (W : g5_work (vE P0 a b c d x f 24).2) : X 201 97 [rR 3 11 1, rR 0 5 1, vI (cn t), vI (cn t * cn 7), vI a, vI b, vI c, vI d, vI x, vI f, vI (cn 0)] [vI (cn 25)] (mm P0 P1 Q cl tl kp fo ou L xs e) = some (.inl (some (vI (vE P0 a b c d x f 24).1)), mm (v5_work (vE P0 a b c d x f 24).2) P1 Q cl tl kp fo ou L xs e) ∧ Gr 0 (v5_work (vE P0 a b c d x f 24).2) := by
  rw [vE_24] at W ⊢
  rw [gE_24] at G
  refine ⟨?_, gr_V (t5_work _ (gr_I (t5_failMember P0 a hg G)) W)⟩
  refine y_tab yk201s 0 97 652 24 rfl rfl ((cn_toInt (m := 25) (by decide)).trans (by decide)) (by decide) rfl rfl ?_
  have e2 := x_hI (M := (mm P0 P1 Q cl tl kp fo ou L xs e)) okx0 (t5_failMember P0 a hg G) mm_0
  refine y_cal yk201_24 3 658 rfl e2 ?_
  have e3 := x_hV (M := (mm (v5_failMember P0 a).2 P1 Q cl tl kp fo ou L xs e)) okx0 (t5_work _ (gr_I (t5_failMember P0 a hg G)) W) mm_0
  refine y_ca0 yk201_24 4 695 rfl e3 ?_
  exact y_ret yk201_24 2 rfl rfl
theorem p_c25_0 {t : Nat} (hg : Gr 0 P0) (G : gE P0 a b c d x f 25) (W : g5_work (vE P0 a b c d x f 25).2) : X 201 97 [rR 3 11 1, rR 0 5 1, vI (cn t), vI (cn t * cn 7), vI a, vI b, vI c, vI d, vI x, vI f, vI (cn 0)] [vI (cn 26)] (mm P0 P1 Q cl tl kp fo ou L xs e) = some (.inl (some (vI (vE P0 a b c d x f 25).1)), mm (v5_work (vE P0 a b c d x f 25).2) P1 Q cl tl kp fo ou L xs e) ∧ Gr 0 (v5_work (vE P0 a b c d x f 25).2) := by
  rw [vE_25] at W ⊢
  rw [gE_25] at G
  refine ⟨?_, gr_V (t5_work _ (gr_I (t2_takeBid P0 a b hg G)) W)⟩
  refine y_tab yk201s 0 97 663 25 rfl rfl ((cn_toInt (m := 26) (by decide)).trans (by decide)) (by decide) rfl rfl ?_
  refine y_gfr yk201_25 1 664 667 2 1 0 rfl rfl rfl rfl rfl (hg.1 (5, 4, 1) (by decide)) (by decide) ?_
  have e2 := x_hI (M := (mm P0 P1 Q cl tl kp fo ou L xs e)) okx0 (t2_takeBid P0 a b hg G) mm_0
  refine y_cal yk201_25 3 674 rfl e2 ?_
  have e3 := x_hV (M := (mm (v2_takeBid P0 a b).2 P1 Q cl tl kp fo ou L xs e)) okx0 (t5_work _ (gr_I (t2_takeBid P0 a b hg G)) W) mm_0
  refine y_ca0 yk201_25 4 695 rfl e3 ?_
  exact y_ret yk201_25 2 rfl rfl
theorem p_c26_0 {t : Nat} (hg : Gr 0 P0) (G : gE P0 a b c d x f 26) (W : g5_work (vE P0 a b c d x f 26).2) : X 201 97 [rR 3 11 1, rR 0 5 1, vI (cn t), vI (cn t * cn 7), vI a, vI b, vI c, vI d, vI x, vI f, vI (cn 0)] [vI (cn 27)] (mm P0 P1 Q cl tl kp fo ou L xs e) = some (.inl (some (vI (vE P0 a b c d x f 26).1)), mm (v5_work (vE P0 a b c d x f 26).2) P1 Q cl tl kp fo ou L xs e) ∧ Gr 0 (v5_work (vE P0 a b c d x f 26).2) := by
  rw [vE_26] at W ⊢
  rw [gE_26] at G
  refine ⟨?_, gr_V (t5_work _ (gr_I (t2_closePortfolio P0 hg G)) W)⟩
  refine y_tab yk201s 0 97 679 26 rfl rfl ((cn_toInt (m := 27) (by decide)).trans (by decide)) (by decide) rfl rfl ?_
  refine y_gfr yk201_26 1 680 683 2 1 0 rfl rfl rfl rfl rfl (hg.1 (5, 4, 1) (by decide)) (by decide) ?_
  have e2 := x_hI (M := (mm P0 P1 Q cl tl kp fo ou L xs e)) okx0 (t2_closePortfolio P0 hg G) mm_0
  refine y_cal yk201_26 1 686 rfl e2 ?_
  have e3 := x_hV (M := (mm (v2_closePortfolio P0).2 P1 Q cl tl kp fo ou L xs e)) okx0 (t5_work _ (gr_I (t2_closePortfolio P0 hg G)) W) mm_0
  refine y_ca0 yk201_26 4 695 rfl e3 ?_
  exact y_ret yk201_26 2 rfl rfl
theorem p_c0_1 {t : Nat} (hg : Gr 0 P1) (G : gE P1 a b c d x f 0) (W : g5_work (vE P1 a b c d x f 0).2) : X 201 97 [rR 3 11 1, rR 1 5 1, vI (cn t), vI (cn t * cn 7), vI a, vI b, vI c, vI d, vI x, vI f, vI (cn 0)] [vI (cn 1)] (mm P0 P1 Q cl tl kp fo ou L xs e) = some (.inl (some (vI (vE P1 a b c d x f 0).1)), mm P0 (v5_work (vE P1 a b c d x f 0).2) Q cl tl kp fo ou L xs e) ∧ Gr 0 (v5_work (vE P1 a b c d x f 0).2) := by
  rw [vE_0] at W ⊢
  rw [gE_0] at G
  refine ⟨?_, gr_V (t5_work _ (gr_I (t5_tellLimit P1 a b c d x f hg G)) W)⟩
  refine y_tab yk201s 0 97 220 0 rfl rfl ((cn_toInt (m := 1) (by decide)).trans (by decide)) (by decide) rfl rfl ?_
  have e2 := x_hI (M := (mm P0 P1 Q cl tl kp fo ou L xs e)) okx1 (t5_tellLimit P1 a b c d x f hg G) mm_1
  refine y_cal yk201_0 8 236 rfl e2 ?_
  have e3 := x_hV (M := (mm P0 (v5_tellLimit P1 a b c d x f).2 Q cl tl kp fo ou L xs e)) okx1 (t5_work _ (gr_I (t5_tellLimit P1 a b c d x f hg G)) W) mm_1
  refine y_ca0 yk201_0 4 695 rfl e3 ?_
  exact y_ret yk201_0 2 rfl rfl
end Play
