/-! the face's calls that are events (market, iceberg, peg, stop) -/
def Y152 : List YR := [(0, .iload_n 1, 1, 0, 0, 0, 0, 0), (1, .invokestatic 23, 3, 194, 1, 1, 11, 0), (4, .ifCond .eq 14, 3, 0, 0, 0, 0, 0), (7, .iload_n 2, 1, 0, 0, 0, 0, 0), (8, .invokestatic 27, 3, 195, 1, 1, 11, 0), (11, .ifCond .eq 7, 3, 0, 0, 0, 0, 0), (14, .iconst 1, 1, 0, 0, 0, 0, 1), (15, .goto 4, 3, 0, 0, 0, 0, 0), (18, .iconst 0, 1, 0, 0, 0, 0, 0), (19, .invokestatic 30, 3, 190, 1, 1, 11, 0), (22, .iload_n 3, 1, 0, 0, 0, 0, 0), (23, .invokestatic 49, 3, 198, 1, 1, 11, 0), (26, .invokestatic 63, 3, 191, 1, 1, 11, 0), (29, .aload_n 0, 1, 0, 0, 0, 0, 0), (30, .getfield 10, 3, 11, 0, 8, 0, 0), (33, .iload_n 1, 1, 0, 0, 0, 0, 0), (34, .iload_n 2, 1, 0, 0, 0, 0, 0), (35, .iload_n 3, 1, 0, 0, 0, 0, 0), (36, .invokevirtual 70, 3, 57, 4, 5, 5, 0), (39, .invokestatic 73, 3, 192, 1, 1, 11, 0), (42, .aload_n 0, 1, 0, 0, 0, 0, 0), (43, .aload_n 0, 1, 0, 0, 0, 0, 0), (44, .getfield 10, 3, 11, 0, 8, 0, 0), (47, .aload_n 0, 1, 0, 0, 0, 0, 0), (48, .iconst 2, 1, 0, 0, 0, 0, 2), (49, .iload_n 1, 1, 0, 0, 0, 0, 0), (50, .iload_n 2, 1, 0, 0, 0, 0, 0), (51, .iload_n 3, 1, 0, 0, 0, 0, 0), (52, .iconst 0, 1, 0, 0, 0, 0, 0), (53, .iconst 0, 1, 0, 0, 0, 0, 0), (54, .iconst 0, 1, 0, 0, 0, 0, 0), (55, .invokevirtual 76, 3, 200, 8, 9, 11, 0), (58, .invokevirtual 80, 3, 201, 3, 11, 11, 0), (61, .ireturn, 1, 0, 0, 0, 0, 0)]
set_option maxRecDepth 100000 in
theorem yr152 : Y152.all (rok3 152) = true := by decide +kernel
set_option maxRecDepth 100000 in
theorem yk152 : T3OK 152 Y152 := t3_ok (K := K152) rfl (fun h => d152 h) yr152
set_option maxRecDepth 100000 in
theorem nh152 : lk hT 152 = none := by decide +kernel
def Y153 : List YR := [(0, .iload_n 1, 1, 0, 0, 0, 0, 0), (1, .invokestatic 23, 3, 194, 1, 1, 11, 0), (4, .ifCond .eq 14, 3, 0, 0, 0, 0, 0), (7, .iload_n 2, 1, 0, 0, 0, 0, 0), (8, .invokestatic 27, 3, 195, 1, 1, 11, 0), (11, .ifCond .eq 7, 3, 0, 0, 0, 0, 0), (14, .iconst 1, 1, 0, 0, 0, 0, 1), (15, .goto 4, 3, 0, 0, 0, 0, 0), (18, .iconst 0, 1, 0, 0, 0, 0, 0), (19, .invokestatic 30, 3, 190, 1, 1, 11, 0), (22, .aload_n 0, 1, 0, 0, 0, 0, 0), (23, .getfield 10, 3, 11, 0, 8, 0, 0), (26, .getfield 34, 3, 5, 0, 9, 0, 0), (29, .iload_n 2, 1, 0, 0, 0, 0, 0), (30, .invokevirtual 38, 3, 73, 2, 2, 6, 0), (33, .iload_n 3, 1, 0, 0, 0, 0, 0), (34, .invokevirtual 44, 3, 11, 2, 2, 1, 0), (37, .ifCond .eq 29, 3, 0, 0, 0, 0, 0), (40, .iload 4, 2, 0, 0, 0, 0, 0), (42, .invokestatic 49, 3, 198, 1, 1, 11, 0), (45, .ifCond .eq 21, 3, 0, 0, 0, 0, 0), (48, .iload 5, 2, 0, 0, 0, 0, 0), (50, .iconst 1, 1, 0, 0, 0, 0, 1), (51, .iload 4, 2, 0, 0, 0, 0, 0), (53, .invokestatic 52, 3, 205, 1, 1, 14, 0), (56, .invokestatic 59, 3, 193, 3, 3, 11, 0), (59, .ifCond .eq 7, 3, 0, 0, 0, 0, 0), (62, .iconst 1, 1, 0, 0, 0, 0, 1), (63, .goto 4, 3, 0, 0, 0, 0, 0), (66, .iconst 0, 1, 0, 0, 0, 0, 0), (67, .invokestatic 63, 3, 191, 1, 1, 11, 0), (70, .aload_n 0, 1, 0, 0, 0, 0, 0), (71, .getfield 10, 3, 11, 0, 8, 0, 0), (74, .iload_n 1, 1, 0, 0, 0, 0, 0), (75, .iload_n 2, 1, 0, 0, 0, 0, 0), (76, .iload 4, 2, 0, 0, 0, 0, 0), (78, .invokevirtual 70, 3, 57, 4, 5, 5, 0), (81, .invokestatic 73, 3, 192, 1, 1, 11, 0), (84, .aload_n 0, 1, 0, 0, 0, 0, 0), (85, .aload_n 0, 1, 0, 0, 0, 0, 0), (86, .getfield 10, 3, 11, 0, 8, 0, 0), (89, .aload_n 0, 1, 0, 0, 0, 0, 0), (90, .iconst 3, 1, 0, 0, 0, 0, 3), (91, .iload_n 1, 1, 0, 0, 0, 0, 0), (92, .iload_n 2, 1, 0, 0, 0, 0, 0), (93, .iload_n 3, 1, 0, 0, 0, 0, 0), (94, .iload 4, 2, 0, 0, 0, 0, 0), (96, .iload 5, 2, 0, 0, 0, 0, 0), (98, .iconst 0, 1, 0, 0, 0, 0, 0), (99, .invokevirtual 76, 3, 200, 8, 9, 11, 0), (102, .invokevirtual 80, 3, 201, 3, 11, 11, 0), (105, .ireturn, 1, 0, 0, 0, 0, 0)]
set_option maxRecDepth 100000 in
theorem yr153 : Y153.all (rok3 153) = true := by decide +kernel
set_option maxRecDepth 100000 in
theorem yk153 : T3OK 153 Y153 := t3_ok (K := K153) rfl (fun h => d153 h) yr153
set_option maxRecDepth 100000 in
theorem nh153 : lk hT 153 = none := by decide +kernel
def Y154 : List YR := [(0, .iload_n 1, 1, 0, 0, 0, 0, 0), (1, .invokestatic 23, 3, 194, 1, 1, 11, 0), (4, .ifCond .eq 14, 3, 0, 0, 0, 0, 0), (7, .iload_n 2, 1, 0, 0, 0, 0, 0), (8, .invokestatic 27, 3, 195, 1, 1, 11, 0), (11, .ifCond .eq 7, 3, 0, 0, 0, 0, 0), (14, .iconst 1, 1, 0, 0, 0, 0, 1), (15, .goto 4, 3, 0, 0, 0, 0, 0), (18, .iconst 0, 1, 0, 0, 0, 0, 0), (19, .invokestatic 30, 3, 190, 1, 1, 11, 0), (22, .aload_n 0, 1, 0, 0, 0, 0, 0), (23, .getfield 10, 3, 11, 0, 8, 0, 0), (26, .getfield 34, 3, 5, 0, 9, 0, 0), (29, .iload_n 2, 1, 0, 0, 0, 0, 0), (30, .invokevirtual 38, 3, 73, 2, 2, 6, 0), (33, .iload_n 3, 1, 0, 0, 0, 0, 0), (34, .invokevirtual 44, 3, 11, 2, 2, 1, 0), (37, .ifCond .eq 26, 3, 0, 0, 0, 0, 0), (40, .iload 4, 2, 0, 0, 0, 0, 0), (42, .invokestatic 49, 3, 198, 1, 1, 11, 0), (45, .ifCond .eq 18, 3, 0, 0, 0, 0, 0), (48, .iload 5, 2, 0, 0, 0, 0, 0), (50, .iconst 0, 1, 0, 0, 0, 0, 0), (51, .bipush 99, 2, 0, 0, 0, 0, 99), (53, .invokestatic 59, 3, 193, 3, 3, 11, 0), (56, .ifCond .eq 7, 3, 0, 0, 0, 0, 0), (59, .iconst 1, 1, 0, 0, 0, 0, 1), (60, .goto 4, 3, 0, 0, 0, 0, 0), (63, .iconst 0, 1, 0, 0, 0, 0, 0), (64, .invokestatic 63, 3, 191, 1, 1, 11, 0), (67, .aload_n 0, 1, 0, 0, 0, 0, 0), (68, .getfield 10, 3, 11, 0, 8, 0, 0), (71, .iload_n 1, 1, 0, 0, 0, 0, 0), (72, .iload_n 2, 1, 0, 0, 0, 0, 0), (73, .iload 4, 2, 0, 0, 0, 0, 0), (75, .invokevirtual 70, 3, 57, 4, 5, 5, 0), (78, .invokestatic 73, 3, 192, 1, 1, 11, 0), (81, .aload_n 0, 1, 0, 0, 0, 0, 0), (82, .aload_n 0, 1, 0, 0, 0, 0, 0), (83, .getfield 10, 3, 11, 0, 8, 0, 0), (86, .aload_n 0, 1, 0, 0, 0, 0, 0), (87, .iconst 4, 1, 0, 0, 0, 0, 4), (88, .iload_n 1, 1, 0, 0, 0, 0, 0), (89, .iload_n 2, 1, 0, 0, 0, 0, 0), (90, .iload_n 3, 1, 0, 0, 0, 0, 0), (91, .iload 4, 2, 0, 0, 0, 0, 0), (93, .iload 5, 2, 0, 0, 0, 0, 0), (95, .iconst 0, 1, 0, 0, 0, 0, 0), (96, .invokevirtual 76, 3, 200, 8, 9, 11, 0), (99, .invokevirtual 80, 3, 201, 3, 11, 11, 0), (102, .ireturn, 1, 0, 0, 0, 0, 0)]
set_option maxRecDepth 100000 in
theorem yr154 : Y154.all (rok3 154) = true := by decide +kernel
set_option maxRecDepth 100000 in
theorem yk154 : T3OK 154 Y154 := t3_ok (K := K154) rfl (fun h => d154 h) yr154
set_option maxRecDepth 100000 in
theorem nh154 : lk hT 154 = none := by decide +kernel
def Y155 : List YR := [(0, .iload_n 1, 1, 0, 0, 0, 0, 0), (1, .invokestatic 23, 3, 194, 1, 1, 11, 0), (4, .ifCond .eq 14, 3, 0, 0, 0, 0, 0), (7, .iload_n 2, 1, 0, 0, 0, 0, 0), (8, .invokestatic 84, 3, 196, 1, 1, 11, 0), (11, .ifCond .eq 7, 3, 0, 0, 0, 0, 0), (14, .iconst 1, 1, 0, 0, 0, 0, 1), (15, .goto 4, 3, 0, 0, 0, 0, 0), (18, .iconst 0, 1, 0, 0, 0, 0, 0), (19, .invokestatic 30, 3, 190, 1, 1, 11, 0), (22, .iload_n 3, 1, 0, 0, 0, 0, 0), (23, .iconst 1, 1, 0, 0, 0, 0, 1), (24, .sipush 9999, 3, 0, 0, 0, 0, 9999), (27, .invokestatic 59, 3, 193, 3, 3, 11, 0), (30, .ifCond .eq 27, 3, 0, 0, 0, 0, 0), (33, .iload 4, 2, 0, 0, 0, 0, 0), (35, .iconst 0, 1, 0, 0, 0, 0, 0), (36, .sipush 9999, 3, 0, 0, 0, 0, 9999), (39, .invokestatic 59, 3, 193, 3, 3, 11, 0), (42, .ifCond .eq 15, 3, 0, 0, 0, 0, 0), (45, .iload 5, 2, 0, 0, 0, 0, 0), (47, .invokestatic 49, 3, 198, 1, 1, 11, 0), (50, .ifCond .eq 7, 3, 0, 0, 0, 0, 0), (53, .iconst 1, 1, 0, 0, 0, 0, 1), (54, .goto 4, 3, 0, 0, 0, 0, 0), (57, .iconst 0, 1, 0, 0, 0, 0, 0), (58, .invokestatic 63, 3, 191, 1, 1, 11, 0), (61, .aload_n 0, 1, 0, 0, 0, 0, 0), (62, .getfield 10, 3, 11, 0, 8, 0, 0), (65, .iload_n 1, 1, 0, 0, 0, 0, 0), (66, .iload_n 2, 1, 0, 0, 0, 0, 0), (67, .iload 5, 2, 0, 0, 0, 0, 0), (69, .invokevirtual 70, 3, 57, 4, 5, 5, 0), (72, .invokestatic 73, 3, 192, 1, 1, 11, 0), (75, .aload_n 0, 1, 0, 0, 0, 0, 0), (76, .aload_n 0, 1, 0, 0, 0, 0, 0), (77, .getfield 10, 3, 11, 0, 8, 0, 0), (80, .aload_n 0, 1, 0, 0, 0, 0, 0), (81, .iconst 5, 1, 0, 0, 0, 0, 5), (82, .iload_n 1, 1, 0, 0, 0, 0, 0), (83, .iload_n 2, 1, 0, 0, 0, 0, 0), (84, .iload_n 3, 1, 0, 0, 0, 0, 0), (85, .iload 4, 2, 0, 0, 0, 0, 0), (87, .iload 5, 2, 0, 0, 0, 0, 0), (89, .iconst 0, 1, 0, 0, 0, 0, 0), (90, .invokevirtual 76, 3, 200, 8, 9, 11, 0), (93, .invokevirtual 80, 3, 201, 3, 11, 11, 0), (96, .ireturn, 1, 0, 0, 0, 0, 0)]
set_option maxRecDepth 100000 in
theorem yr155 : Y155.all (rok3 155) = true := by decide +kernel
set_option maxRecDepth 100000 in
theorem yk155 : T3OK 155 Y155 := t3_ok (K := K155) rfl (fun h => d155 h) yr155
set_option maxRecDepth 100000 in
theorem nh155 : lk hT 155 = none := by decide +kernel
section Face2
variable {P0 P1 Q Q2 : PM} {cl : Nat → Int32} {kp fo : Int32} {ou : Int64} {L e N T D t : Nat} {xs lg : Nat → Int32} {a b c d x f : Int32}
theorem fc_1 (I : IV lg P0 Q2 N T D t) (ht : t < 512) (hg : Gr 0 P0) (HO : kMarket P0 a b c = 0 → gE P0 a b c (cn 0) (cn 0) (cn 0) 1 ∧ g5_work (vE P0 a b c (cn 0) (cn 0) (cn 0) 1).2) : X 152 0 [rR 3 11 1, vI a, vI b, vI c] [] (mm P0 P1 Q cl (cn t) kp fo ou L xs e) = evR (kMarket P0 a b c) [0, 1, 2] (okO P0 P1 Q cl kp fo ou L xs e t 1 a b c (cn 0) (cn 0) (cn 0)) (mm P0 P1 Q cl (cn t) kp fo ou L xs e) := by
  refine y_cal yk152 2 4 rfl x_isTrader ?_
  by_cases h1 : isW a (cn 0) (cn 7) = 0
  · refine y_ifT yk152 0 4 18 rfl rfl rfl (decide_eq_true h1) ?_
    have hk : kMarket P0 a b c = 1 := by unfold kMarket; (try simp only [if_pos h1]); (try (repeat' (first | rfl | split)))
    exact y_thr yk152 2 22 rfl (x_np0 rfl) (by decide +kernel) nh152 (by rw [hk]; rfl)
  · refine y_ifF yk152 0 4 7 rfl rfl rfl (by decide) (decide_eq_false h1) ?_
    refine y_cal yk152 2 11 rfl x_isBook ?_
    by_cases h2 : isW b (cn 0) (cn 5) = 0
    · refine y_ifT yk152 0 11 18 rfl rfl rfl (decide_eq_true h2) ?_
      have hk : kMarket P0 a b c = 1 := by unfold kMarket; (try simp only [if_neg h1, if_pos h2]); (try (repeat' (first | rfl | split)))
      exact y_thr yk152 2 22 rfl (x_np0 rfl) (by decide +kernel) nh152 (by rw [hk]; rfl)
    · refine y_ifF yk152 0 11 14 rfl rfl rfl (by decide) (decide_eq_false h2) ?_
      refine y_go yk152 2 19 rfl ?_
      refine y_ca0 yk152 1 22 rfl (x_np1 (by decide)) ?_
      refine y_cal yk152 2 26 rfl x_isQ ?_
      by_cases h3 : isW c (cn (-50)) (cn 50) = 0
      · have hz3 : isQ c = 0 := by unfold isQ; exact if_pos h3
        have hk : kMarket P0 a b c = 2 := by unfold kMarket; (try simp only [if_neg h1, if_neg h2, if_pos h3]); (try (repeat' (first | rfl | split)))
        exact y_thr yk152 1 29 rfl (x_nr0 hz3) (by decide +kernel) nh152 (by rw [hk]; rfl)
      · by_cases h4 : c = 0
        · have hz4 : isQ c = 0 := by unfold isQ; rw [if_neg h3]; exact if_pos h4
          have hk : kMarket P0 a b c = 2 := by unfold kMarket; (try simp only [if_neg h1, if_neg h2, if_neg h3, if_pos h4]); (try (repeat' (first | rfl | split)))
          exact y_thr yk152 1 29 rfl (x_nr0 hz4) (by decide +kernel) nh152 (by rw [hk]; rfl)
        · have hz4 : ¬ isQ c = 0 := by unfold isQ; rw [if_neg h3, if_neg h4]; decide
          refine y_ca0 yk152 1 29 rfl (x_nr1 hz4) ?_
          refine y_gfr yk152 1 30 33 5 1 0 rfl rfl rfl rfl rfl rfl (by decide) ?_
          have e1 := x_I (M := (mm P0 P1 Q cl (cn t) kp fo ou L xs e)) okx0 (t5_admits P0 hg a b c (gadm I (by omega) h1 h2 h3 h4))
          refine y_cal yk152 4 39 rfl e1 ?_
          by_cases h5 : v5_admits P0 a b c = 0
          · have hk : kMarket P0 a b c = 3 := by unfold kMarket; (try simp only [if_neg h1, if_neg h2, if_neg h3, if_neg h4, if_pos h5]); (try (repeat' (first | rfl | split)))
            exact y_thr yk152 1 42 rfl (x_ns0 h5) (by decide +kernel) nh152 (by rw [hk]; rfl)
          · refine y_ca0 yk152 1 42 rfl (x_ns1 h5) ?_
            refine y_gfr yk152 2 44 47 5 1 0 rfl rfl rfl rfl rfl rfl (by decide) ?_
            have hk : kMarket P0 a b c = 0 := by unfold kMarket; (try simp only [if_neg h1, if_neg h2, if_neg h3, if_neg h4, if_neg h5]); (try (repeat' (first | rfl | split)))
            obtain ⟨G, W⟩ := HO hk
            refine y_cal yk152 9 58 rfl (x_enter ht _ _ _ _ _ _ _) ?_
            refine y_cal yk152 1 61 rfl (x_play_c (k := 1) (by decide) ht hg G W) ?_
            exact y_ret yk152 1 rfl (by rw [hk]; rfl)
theorem fc_2 (I : IV lg P0 Q2 N T D t) (ht : t < 512) (hg : Gr 0 P0) (HO : kIceberg P0 a b c d x = 0 → gE P0 a b c d x (cn 0) 2 ∧ g5_work (vE P0 a b c d x (cn 0) 2).2) : X 153 0 [rR 3 11 1, vI a, vI b, vI c, vI d, vI x] [] (mm P0 P1 Q cl (cn t) kp fo ou L xs e) = evR (kIceberg P0 a b c d x) [0, 1, 2] (okO P0 P1 Q cl kp fo ou L xs e t 2 a b c d x (cn 0)) (mm P0 P1 Q cl (cn t) kp fo ou L xs e) := by
  refine y_cal yk153 2 4 rfl x_isTrader ?_
  by_cases h1 : isW a (cn 0) (cn 7) = 0
  · refine y_ifT yk153 0 4 18 rfl rfl rfl (decide_eq_true h1) ?_
    have hk : kIceberg P0 a b c d x = 1 := by unfold kIceberg; (try simp only [if_pos h1]); (try (repeat' (first | rfl | split)))
    exact y_thr yk153 2 22 rfl (x_np0 rfl) (by decide +kernel) nh153 (by rw [hk]; rfl)
  · refine y_ifF yk153 0 4 7 rfl rfl rfl (by decide) (decide_eq_false h1) ?_
    refine y_cal yk153 2 11 rfl x_isBook ?_
    by_cases h2 : isW b (cn 0) (cn 5) = 0
    · refine y_ifT yk153 0 11 18 rfl rfl rfl (decide_eq_true h2) ?_
      have hk : kIceberg P0 a b c d x = 1 := by unfold kIceberg; (try simp only [if_neg h1, if_pos h2]); (try (repeat' (first | rfl | split)))
      exact y_thr yk153 2 22 rfl (x_np0 rfl) (by decide +kernel) nh153 (by rw [hk]; rfl)
    · refine y_ifF yk153 0 11 14 rfl rfl rfl (by decide) (decide_eq_false h2) ?_
      refine y_go yk153 2 19 rfl ?_
      refine y_ca0 yk153 1 22 rfl (x_np1 (by decide)) ?_
      refine y_gfr yk153 1 23 26 5 1 0 rfl rfl rfl rfl rfl rfl (by decide) ?_
      refine y_gfr yk153 0 26 29 6 1 0 rfl rfl rfl rfl rfl (hg.1 (5, 0, 1) (by decide)) (by decide) ?_
      have e1 := x_R (M := (mm P0 P1 Q cl (cn t) kp fo ou L xs e)) okx0 (fb5 P0 h2).2 (t6_bookAt P0 hg b (fb5 P0 h2).1)
      refine y_cal yk153 2 33 rfl e1 ?_
      have e1 := x_I' (M := (mm P0 P1 Q cl (cn t) kp fo ou L xs e)) okx0 (t1_hasPrice P0 hg (v6_bookAt P0 b) c (gprice P0 (fb5 P0 h2).2)) (by show vR _ _ _ :: _ = _; rw [vR_pos (fb5 P0 h2).2]; try rfl)
      refine y_cal yk153 2 37 rfl e1 ?_
      by_cases h3 : v1_hasPrice P0 (v6_bookAt P0 b) c = 0
      · refine y_ifT yk153 0 37 66 rfl rfl rfl (decide_eq_true h3) ?_
        have hk : kIceberg P0 a b c d x = 2 := by unfold kIceberg; (try simp only [if_neg h1, if_neg h2, if_pos h3]); (try (repeat' (first | rfl | split)))
        exact y_thr yk153 2 70 rfl (x_nr0 rfl) (by decide +kernel) nh153 (by rw [hk]; rfl)
      · refine y_ifF yk153 0 37 40 rfl rfl rfl (by decide) (decide_eq_false h3) ?_
        refine y_cal yk153 2 45 rfl x_isQ ?_
        by_cases h4 : isW d (cn (-50)) (cn 50) = 0
        · have hz4 : isQ d = 0 := by unfold isQ; exact if_pos h4
          refine y_ifT yk153 0 45 66 rfl rfl rfl (decide_eq_true hz4) ?_
          have hk : kIceberg P0 a b c d x = 2 := by unfold kIceberg; (try simp only [if_neg h1, if_neg h2, if_neg h3, if_pos h4]); (try (repeat' (first | rfl | split)))
          exact y_thr yk153 2 70 rfl (x_nr0 rfl) (by decide +kernel) nh153 (by rw [hk]; rfl)
        · by_cases h5 : d = 0
          · have hz5 : isQ d = 0 := by unfold isQ; rw [if_neg h4]; exact if_pos h5
            refine y_ifT yk153 0 45 66 rfl rfl rfl (decide_eq_true hz5) ?_
            have hk : kIceberg P0 a b c d x = 2 := by unfold kIceberg; (try simp only [if_neg h1, if_neg h2, if_neg h3, if_neg h4, if_pos h5]); (try (repeat' (first | rfl | split)))
            exact y_thr yk153 2 70 rfl (x_nr0 rfl) (by decide +kernel) nh153 (by rw [hk]; rfl)
          · have hz5 : ¬ isQ d = 0 := by unfold isQ; rw [if_neg h4, if_neg h5]; decide
            refine y_ifF yk153 0 45 48 rfl rfl rfl (by decide) (decide_eq_false hz5) ?_
            have e1 := x_I (M := (mm P0 P1 Q cl (cn t) kp fo ou L xs e)) okx0 (t14_abs_0f7a4 P0 hg d (gabs P0))
            refine y_cal yk153 4 56 rfl e1 ?_
            refine y_cal yk153 1 59 rfl x_isW ?_
            by_cases h6 : isW x (cn 1) (v14_abs_0f7a4 P0 d) = 0
            · refine y_ifT yk153 0 59 66 rfl rfl rfl (decide_eq_true h6) ?_
              have hk : kIceberg P0 a b c d x = 2 := by unfold kIceberg; (try simp only [if_neg h1, if_neg h2, if_neg h3, if_neg h4, if_neg h5, if_pos h6]); (try (repeat' (first | rfl | split)))
              exact y_thr yk153 2 70 rfl (x_nr0 rfl) (by decide +kernel) nh153 (by rw [hk]; rfl)
            · refine y_ifF yk153 0 59 62 rfl rfl rfl (by decide) (decide_eq_false h6) ?_
              refine y_go yk153 2 67 rfl ?_
              refine y_ca0 yk153 1 70 rfl (x_nr1 (by decide)) ?_
              refine y_gfr yk153 1 71 74 5 1 0 rfl rfl rfl rfl rfl rfl (by decide) ?_
              have e1 := x_I (M := (mm P0 P1 Q cl (cn t) kp fo ou L xs e)) okx0 (t5_admits P0 hg a b d (gadm I (by omega) h1 h2 h4 h5))
              refine y_cal yk153 4 81 rfl e1 ?_
              by_cases h7 : v5_admits P0 a b d = 0
              · have hk : kIceberg P0 a b c d x = 3 := by unfold kIceberg; (try simp only [if_neg h1, if_neg h2, if_neg h3, if_neg h4, if_neg h5, if_neg h6, if_pos h7]); (try (repeat' (first | rfl | split)))
                exact y_thr yk153 1 84 rfl (x_ns0 h7) (by decide +kernel) nh153 (by rw [hk]; rfl)
              · refine y_ca0 yk153 1 84 rfl (x_ns1 h7) ?_
                refine y_gfr yk153 2 86 89 5 1 0 rfl rfl rfl rfl rfl rfl (by decide) ?_
                have hk : kIceberg P0 a b c d x = 0 := by unfold kIceberg; (try simp only [if_neg h1, if_neg h2, if_neg h3, if_neg h4, if_neg h5, if_neg h6, if_neg h7]); (try (repeat' (first | rfl | split)))
                obtain ⟨G, W⟩ := HO hk
                refine y_cal yk153 9 102 rfl (x_enter ht _ _ _ _ _ _ _) ?_
                refine y_cal yk153 1 105 rfl (x_play_c (k := 2) (by decide) ht hg G W) ?_
                exact y_ret yk153 1 rfl (by rw [hk]; rfl)
theorem fc_3 (I : IV lg P0 Q2 N T D t) (ht : t < 512) (hg : Gr 0 P0) (HO : kPeg P0 a b c d x = 0 → gE P0 a b c d x (cn 0) 3 ∧ g5_work (vE P0 a b c d x (cn 0) 3).2) : X 154 0 [rR 3 11 1, vI a, vI b, vI c, vI d, vI x] [] (mm P0 P1 Q cl (cn t) kp fo ou L xs e) = evR (kPeg P0 a b c d x) [0, 1, 2] (okO P0 P1 Q cl kp fo ou L xs e t 3 a b c d x (cn 0)) (mm P0 P1 Q cl (cn t) kp fo ou L xs e) := by
  refine y_cal yk154 2 4 rfl x_isTrader ?_
  by_cases h1 : isW a (cn 0) (cn 7) = 0
  · refine y_ifT yk154 0 4 18 rfl rfl rfl (decide_eq_true h1) ?_
    have hk : kPeg P0 a b c d x = 1 := by unfold kPeg; (try simp only [if_pos h1]); (try (repeat' (first | rfl | split)))
    exact y_thr yk154 2 22 rfl (x_np0 rfl) (by decide +kernel) nh154 (by rw [hk]; rfl)
  · refine y_ifF yk154 0 4 7 rfl rfl rfl (by decide) (decide_eq_false h1) ?_
    refine y_cal yk154 2 11 rfl x_isBook ?_
    by_cases h2 : isW b (cn 0) (cn 5) = 0
    · refine y_ifT yk154 0 11 18 rfl rfl rfl (decide_eq_true h2) ?_
      have hk : kPeg P0 a b c d x = 1 := by unfold kPeg; (try simp only [if_neg h1, if_pos h2]); (try (repeat' (first | rfl | split)))
      exact y_thr yk154 2 22 rfl (x_np0 rfl) (by decide +kernel) nh154 (by rw [hk]; rfl)
    · refine y_ifF yk154 0 11 14 rfl rfl rfl (by decide) (decide_eq_false h2) ?_
      refine y_go yk154 2 19 rfl ?_
      refine y_ca0 yk154 1 22 rfl (x_np1 (by decide)) ?_
      refine y_gfr yk154 1 23 26 5 1 0 rfl rfl rfl rfl rfl rfl (by decide) ?_
      refine y_gfr yk154 0 26 29 6 1 0 rfl rfl rfl rfl rfl (hg.1 (5, 0, 1) (by decide)) (by decide) ?_
      have e1 := x_R (M := (mm P0 P1 Q cl (cn t) kp fo ou L xs e)) okx0 (fb5 P0 h2).2 (t6_bookAt P0 hg b (fb5 P0 h2).1)
      refine y_cal yk154 2 33 rfl e1 ?_
      have e1 := x_I' (M := (mm P0 P1 Q cl (cn t) kp fo ou L xs e)) okx0 (t1_hasPrice P0 hg (v6_bookAt P0 b) c (gprice P0 (fb5 P0 h2).2)) (by show vR _ _ _ :: _ = _; rw [vR_pos (fb5 P0 h2).2]; try rfl)
      refine y_cal yk154 2 37 rfl e1 ?_
      by_cases h3 : v1_hasPrice P0 (v6_bookAt P0 b) c = 0
      · refine y_ifT yk154 0 37 63 rfl rfl rfl (decide_eq_true h3) ?_
        have hk : kPeg P0 a b c d x = 2 := by unfold kPeg; (try simp only [if_neg h1, if_neg h2, if_pos h3]); (try (repeat' (first | rfl | split)))
        exact y_thr yk154 2 67 rfl (x_nr0 rfl) (by decide +kernel) nh154 (by rw [hk]; rfl)
      · refine y_ifF yk154 0 37 40 rfl rfl rfl (by decide) (decide_eq_false h3) ?_
        refine y_cal yk154 2 45 rfl x_isQ ?_
        by_cases h4 : isW d (cn (-50)) (cn 50) = 0
        · have hz4 : isQ d = 0 := by unfold isQ; exact if_pos h4
          refine y_ifT yk154 0 45 63 rfl rfl rfl (decide_eq_true hz4) ?_
          have hk : kPeg P0 a b c d x = 2 := by unfold kPeg; (try simp only [if_neg h1, if_neg h2, if_neg h3, if_pos h4]); (try (repeat' (first | rfl | split)))
          exact y_thr yk154 2 67 rfl (x_nr0 rfl) (by decide +kernel) nh154 (by rw [hk]; rfl)
        · by_cases h5 : d = 0
          · have hz5 : isQ d = 0 := by unfold isQ; rw [if_neg h4]; exact if_pos h5
            refine y_ifT yk154 0 45 63 rfl rfl rfl (decide_eq_true hz5) ?_
            have hk : kPeg P0 a b c d x = 2 := by unfold kPeg; (try simp only [if_neg h1, if_neg h2, if_neg h3, if_neg h4, if_pos h5]); (try (repeat' (first | rfl | split)))
            exact y_thr yk154 2 67 rfl (x_nr0 rfl) (by decide +kernel) nh154 (by rw [hk]; rfl)
          · have hz5 : ¬ isQ d = 0 := by unfold isQ; rw [if_neg h4, if_neg h5]; decide
            refine y_ifF yk154 0 45 48 rfl rfl rfl (by decide) (decide_eq_false hz5) ?_
            refine y_cal yk154 4 56 rfl x_isW ?_
            by_cases h6 : isW x (cn 0) (cn 99) = 0
            · refine y_ifT yk154 0 56 63 rfl rfl rfl (decide_eq_true h6) ?_
              have hk : kPeg P0 a b c d x = 2 := by unfold kPeg; (try simp only [if_neg h1, if_neg h2, if_neg h3, if_neg h4, if_neg h5, if_pos h6]); (try (repeat' (first | rfl | split)))
              exact y_thr yk154 2 67 rfl (x_nr0 rfl) (by decide +kernel) nh154 (by rw [hk]; rfl)
            · refine y_ifF yk154 0 56 59 rfl rfl rfl (by decide) (decide_eq_false h6) ?_
              refine y_go yk154 2 64 rfl ?_
              refine y_ca0 yk154 1 67 rfl (x_nr1 (by decide)) ?_
              refine y_gfr yk154 1 68 71 5 1 0 rfl rfl rfl rfl rfl rfl (by decide) ?_
              have e1 := x_I (M := (mm P0 P1 Q cl (cn t) kp fo ou L xs e)) okx0 (t5_admits P0 hg a b d (gadm I (by omega) h1 h2 h4 h5))
              refine y_cal yk154 4 78 rfl e1 ?_
              by_cases h7 : v5_admits P0 a b d = 0
              · have hk : kPeg P0 a b c d x = 3 := by unfold kPeg; (try simp only [if_neg h1, if_neg h2, if_neg h3, if_neg h4, if_neg h5, if_neg h6, if_pos h7]); (try (repeat' (first | rfl | split)))
                exact y_thr yk154 1 81 rfl (x_ns0 h7) (by decide +kernel) nh154 (by rw [hk]; rfl)
              · refine y_ca0 yk154 1 81 rfl (x_ns1 h7) ?_
                refine y_gfr yk154 2 83 86 5 1 0 rfl rfl rfl rfl rfl rfl (by decide) ?_
                have hk : kPeg P0 a b c d x = 0 := by unfold kPeg; (try simp only [if_neg h1, if_neg h2, if_neg h3, if_neg h4, if_neg h5, if_neg h6, if_neg h7]); (try (repeat' (first | rfl | split)))
                obtain ⟨G, W⟩ := HO hk
                refine y_cal yk154 9 99 rfl (x_enter ht _ _ _ _ _ _ _) ?_
                refine y_cal yk154 1 102 rfl (x_play_c (k := 3) (by decide) ht hg G W) ?_
                exact y_ret yk154 1 rfl (by rw [hk]; rfl)
theorem fc_4 (I : IV lg P0 Q2 N T D t) (ht : t < 512) (hg : Gr 0 P0) (HO : kStop P0 a b c d x = 0 → gE P0 a b c d x (cn 0) 4 ∧ g5_work (vE P0 a b c d x (cn 0) 4).2) : X 155 0 [rR 3 11 1, vI a, vI b, vI c, vI d, vI x] [] (mm P0 P1 Q cl (cn t) kp fo ou L xs e) = evR (kStop P0 a b c d x) [0, 1, 2] (okO P0 P1 Q cl kp fo ou L xs e t 4 a b c d x (cn 0)) (mm P0 P1 Q cl (cn t) kp fo ou L xs e) := by
  refine y_cal yk155 2 4 rfl x_isTrader ?_
  by_cases h1 : isW a (cn 0) (cn 7) = 0
  · refine y_ifT yk155 0 4 18 rfl rfl rfl (decide_eq_true h1) ?_
    have hk : kStop P0 a b c d x = 1 := by unfold kStop; (try simp only [if_pos h1]); (try (repeat' (first | rfl | split)))
    exact y_thr yk155 2 22 rfl (x_np0 rfl) (by decide +kernel) nh155 (by rw [hk]; rfl)
  · refine y_ifF yk155 0 4 7 rfl rfl rfl (by decide) (decide_eq_false h1) ?_
    refine y_cal yk155 2 11 rfl x_isContract ?_
    by_cases h2 : isW b (cn 0) (cn 3) = 0
    · refine y_ifT yk155 0 11 18 rfl rfl rfl (decide_eq_true h2) ?_
      have hk : kStop P0 a b c d x = 1 := by unfold kStop; (try simp only [if_neg h1, if_pos h2]); (try (repeat' (first | rfl | split)))
      exact y_thr yk155 2 22 rfl (x_np0 rfl) (by decide +kernel) nh155 (by rw [hk]; rfl)
    · refine y_ifF yk155 0 11 14 rfl rfl rfl (by decide) (decide_eq_false h2) ?_
      refine y_go yk155 2 19 rfl ?_
      refine y_ca0 yk155 1 22 rfl (x_np1 (by decide)) ?_
      refine y_cal yk155 4 30 rfl x_isW ?_
      by_cases h3 : isW c (cn 1) (cn 9999) = 0
      · refine y_ifT yk155 0 30 57 rfl rfl rfl (decide_eq_true h3) ?_
        have hk : kStop P0 a b c d x = 2 := by unfold kStop; (try simp only [if_neg h1, if_neg h2, if_pos h3]); (try (repeat' (first | rfl | split)))
        exact y_thr yk155 2 61 rfl (x_nr0 rfl) (by decide +kernel) nh155 (by rw [hk]; rfl)
      · refine y_ifF yk155 0 30 33 rfl rfl rfl (by decide) (decide_eq_false h3) ?_
        refine y_cal yk155 4 42 rfl x_isW ?_
        by_cases h4 : isW d (cn 0) (cn 9999) = 0
        · refine y_ifT yk155 0 42 57 rfl rfl rfl (decide_eq_true h4) ?_
          have hk : kStop P0 a b c d x = 2 := by unfold kStop; (try simp only [if_neg h1, if_neg h2, if_neg h3, if_pos h4]); (try (repeat' (first | rfl | split)))
          exact y_thr yk155 2 61 rfl (x_nr0 rfl) (by decide +kernel) nh155 (by rw [hk]; rfl)
        · refine y_ifF yk155 0 42 45 rfl rfl rfl (by decide) (decide_eq_false h4) ?_
          refine y_cal yk155 2 50 rfl x_isQ ?_
          by_cases h5 : isW x (cn (-50)) (cn 50) = 0
          · have hz5 : isQ x = 0 := by unfold isQ; exact if_pos h5
            refine y_ifT yk155 0 50 57 rfl rfl rfl (decide_eq_true hz5) ?_
            have hk : kStop P0 a b c d x = 2 := by unfold kStop; (try simp only [if_neg h1, if_neg h2, if_neg h3, if_neg h4, if_pos h5]); (try (repeat' (first | rfl | split)))
            exact y_thr yk155 2 61 rfl (x_nr0 rfl) (by decide +kernel) nh155 (by rw [hk]; rfl)
          · by_cases h6 : x = 0
            · have hz6 : isQ x = 0 := by unfold isQ; rw [if_neg h5]; exact if_pos h6
              refine y_ifT yk155 0 50 57 rfl rfl rfl (decide_eq_true hz6) ?_
              have hk : kStop P0 a b c d x = 2 := by unfold kStop; (try simp only [if_neg h1, if_neg h2, if_neg h3, if_neg h4, if_neg h5, if_pos h6]); (try (repeat' (first | rfl | split)))
              exact y_thr yk155 2 61 rfl (x_nr0 rfl) (by decide +kernel) nh155 (by rw [hk]; rfl)
            · have hz6 : ¬ isQ x = 0 := by unfold isQ; rw [if_neg h5, if_neg h6]; decide
              refine y_ifF yk155 0 50 53 rfl rfl rfl (by decide) (decide_eq_false hz6) ?_
              refine y_go yk155 2 58 rfl ?_
              refine y_ca0 yk155 1 61 rfl (x_nr1 (by decide)) ?_
              refine y_gfr yk155 1 62 65 5 1 0 rfl rfl rfl rfl rfl rfl (by decide) ?_
              have e1 := x_I (M := (mm P0 P1 Q cl (cn t) kp fo ou L xs e)) okx0 (t5_admits P0 hg a b x (gadm I (by omega) h1 (w35 h2) h5 h6))
              refine y_cal yk155 4 72 rfl e1 ?_
              by_cases h7 : v5_admits P0 a b x = 0
              · have hk : kStop P0 a b c d x = 3 := by unfold kStop; (try simp only [if_neg h1, if_neg h2, if_neg h3, if_neg h4, if_neg h5, if_neg h6, if_pos h7]); (try (repeat' (first | rfl | split)))
                exact y_thr yk155 1 75 rfl (x_ns0 h7) (by decide +kernel) nh155 (by rw [hk]; rfl)
              · refine y_ca0 yk155 1 75 rfl (x_ns1 h7) ?_
                refine y_gfr yk155 2 77 80 5 1 0 rfl rfl rfl rfl rfl rfl (by decide) ?_
                have hk : kStop P0 a b c d x = 0 := by unfold kStop; (try simp only [if_neg h1, if_neg h2, if_neg h3, if_neg h4, if_neg h5, if_neg h6, if_neg h7]); (try (repeat' (first | rfl | split)))
                obtain ⟨G, W⟩ := HO hk
                refine y_cal yk155 9 93 rfl (x_enter ht _ _ _ _ _ _ _) ?_
                refine y_cal yk155 1 96 rfl (x_play_c (k := 4) (by decide) ht hg G W) ?_
                exact y_ret yk155 1 rfl (by rw [hk]; rfl)
end Face2
