/-! the face's calls that are events (limit, quote, cancel, auction) -/
def Y151 : List YR := [(0, .iload_n 1, 1, 0, 0, 0, 0, 0), (1, .invokestatic 23, 3, 194, 1, 1, 11, 0), (4, .ifCond .eq 14, 3, 0, 0, 0, 0, 0), (7, .iload_n 2, 1, 0, 0, 0, 0, 0), (8, .invokestatic 27, 3, 195, 1, 1, 11, 0), (11, .ifCond .eq 7, 3, 0, 0, 0, 0, 0), (14, .iconst 1, 1, 0, 0, 0, 0, 1), (15, .goto 4, 3, 0, 0, 0, 0, 0), (18, .iconst 0, 1, 0, 0, 0, 0, 0), (19, .invokestatic 30, 3, 190, 1, 1, 11, 0), (22, .aload_n 0, 1, 0, 0, 0, 0, 0), (23, .getfield 10, 3, 11, 0, 8, 0, 0), (26, .getfield 34, 3, 5, 0, 9, 0, 0), (29, .iload_n 2, 1, 0, 0, 0, 0, 0), (30, .invokevirtual 38, 3, 73, 2, 2, 6, 0), (33, .iload_n 3, 1, 0, 0, 0, 0, 0), (34, .invokevirtual 44, 3, 11, 2, 2, 1, 0), (37, .ifCond .eq 48, 3, 0, 0, 0, 0, 0), (40, .iload 4, 2, 0, 0, 0, 0, 0), (42, .invokestatic 49, 3, 198, 1, 1, 11, 0), (45, .ifCond .eq 40, 3, 0, 0, 0, 0, 0), (48, .iload 5, 2, 0, 0, 0, 0, 0), (50, .ifCond .lt 35, 3, 0, 0, 0, 0, 0), (53, .iload 5, 2, 0, 0, 0, 0, 0), (55, .iload 4, 2, 0, 0, 0, 0, 0), (57, .invokestatic 52, 3, 205, 1, 1, 14, 0), (60, .if_icmp .gt 25, 3, 0, 0, 0, 0, 0), (63, .iload 6, 2, 0, 0, 0, 0, 0), (65, .ldc 58, 2, 0, 0, 0, 0, (-100000)), (67, .if_icmp .eq 14, 3, 0, 0, 0, 0, 0), (70, .iload 6, 2, 0, 0, 0, 0, 0), (72, .iconst 0, 1, 0, 0, 0, 0, 0), (73, .bipush 9, 2, 0, 0, 0, 0, 9), (75, .invokestatic 59, 3, 193, 3, 3, 11, 0), (78, .ifCond .eq 7, 3, 0, 0, 0, 0, 0), (81, .iconst 1, 1, 0, 0, 0, 0, 1), (82, .goto 4, 3, 0, 0, 0, 0, 0), (85, .iconst 0, 1, 0, 0, 0, 0, 0), (86, .invokestatic 63, 3, 191, 1, 1, 11, 0), (89, .aload_n 0, 1, 0, 0, 0, 0, 0), (90, .getfield 10, 3, 11, 0, 8, 0, 0), (93, .getfield 34, 3, 5, 0, 9, 0, 0), (96, .iload_n 2, 1, 0, 0, 0, 0, 0), (97, .invokevirtual 38, 3, 73, 2, 2, 6, 0), (100, .getfield 66, 3, 1, 5, 1, 0, 0), (103, .istore 7, 2, 0, 0, 0, 0, 0), (105, .aload_n 0, 1, 0, 0, 0, 0, 0), (106, .getfield 10, 3, 11, 0, 8, 0, 0), (109, .iload_n 1, 1, 0, 0, 0, 0, 0), (110, .iload_n 2, 1, 0, 0, 0, 0, 0), (111, .iload 4, 2, 0, 0, 0, 0, 0), (113, .invokevirtual 70, 3, 57, 4, 5, 5, 0), (116, .ifCond .eq 24, 3, 0, 0, 0, 0, 0), (119, .iload 7, 2, 0, 0, 0, 0, 0), (121, .ifCond .eq 15, 3, 0, 0, 0, 0, 0), (124, .iload 6, 2, 0, 0, 0, 0, 0), (126, .ldc 58, 2, 0, 0, 0, 0, (-100000)), (128, .if_icmp .eq 12, 3, 0, 0, 0, 0, 0), (131, .iload 5, 2, 0, 0, 0, 0, 0), (133, .ifCond .gt 7, 3, 0, 0, 0, 0, 0), (136, .iconst 1, 1, 0, 0, 0, 0, 1), (137, .goto 4, 3, 0, 0, 0, 0, 0), (140, .iconst 0, 1, 0, 0, 0, 0, 0), (141, .invokestatic 73, 3, 192, 1, 1, 11, 0), (144, .aload_n 0, 1, 0, 0, 0, 0, 0), (145, .aload_n 0, 1, 0, 0, 0, 0, 0), (146, .getfield 10, 3, 11, 0, 8, 0, 0), (149, .aload_n 0, 1, 0, 0, 0, 0, 0), (150, .iconst 1, 1, 0, 0, 0, 0, 1), (151, .iload_n 1, 1, 0, 0, 0, 0, 0), (152, .iload_n 2, 1, 0, 0, 0, 0, 0), (153, .iload_n 3, 1, 0, 0, 0, 0, 0), (154, .iload 4, 2, 0, 0, 0, 0, 0), (156, .iload 5, 2, 0, 0, 0, 0, 0), (158, .iload 6, 2, 0, 0, 0, 0, 0), (160, .invokevirtual 76, 3, 200, 8, 9, 11, 0), (163, .invokevirtual 80, 3, 201, 3, 11, 11, 0), (166, .ireturn, 1, 0, 0, 0, 0, 0)]
set_option maxRecDepth 100000 in
theorem yr151 : Y151.all (rok3 151) = true := by decide +kernel
set_option maxRecDepth 100000 in
theorem yk151 : T3OK 151 Y151 := t3_ok (K := K151) rfl (fun h => d151 h) yr151
set_option maxRecDepth 100000 in
theorem nh151 : lk hT 151 = none := by decide +kernel
def Y156 : List YR := [(0, .iload_n 1, 1, 0, 0, 0, 0, 0), (1, .invokestatic 23, 3, 194, 1, 1, 11, 0), (4, .ifCond .eq 14, 3, 0, 0, 0, 0, 0), (7, .iload_n 2, 1, 0, 0, 0, 0, 0), (8, .invokestatic 27, 3, 195, 1, 1, 11, 0), (11, .ifCond .eq 7, 3, 0, 0, 0, 0, 0), (14, .iconst 1, 1, 0, 0, 0, 0, 1), (15, .goto 4, 3, 0, 0, 0, 0, 0), (18, .iconst 0, 1, 0, 0, 0, 0, 0), (19, .invokestatic 30, 3, 190, 1, 1, 11, 0), (22, .aload_n 0, 1, 0, 0, 0, 0, 0), (23, .getfield 10, 3, 11, 0, 8, 0, 0), (26, .getfield 34, 3, 5, 0, 9, 0, 0), (29, .iload_n 2, 1, 0, 0, 0, 0, 0), (30, .invokevirtual 38, 3, 73, 2, 2, 6, 0), (33, .astore 6, 2, 0, 0, 0, 0, 0), (35, .aload 6, 2, 0, 0, 0, 0, 0), (37, .iload_n 3, 1, 0, 0, 0, 0, 0), (38, .invokevirtual 44, 3, 11, 2, 2, 1, 0), (41, .ifCond .eq 34, 3, 0, 0, 0, 0, 0), (44, .aload 6, 2, 0, 0, 0, 0, 0), (46, .iload 4, 2, 0, 0, 0, 0, 0), (48, .invokevirtual 44, 3, 11, 2, 2, 1, 0), (51, .ifCond .eq 24, 3, 0, 0, 0, 0, 0), (54, .iload 4, 2, 0, 0, 0, 0, 0), (56, .iload_n 3, 1, 0, 0, 0, 0, 0), (57, .if_icmp .le 18, 3, 0, 0, 0, 0, 0), (60, .iload 5, 2, 0, 0, 0, 0, 0), (62, .iconst 1, 1, 0, 0, 0, 0, 1), (63, .bipush 50, 2, 0, 0, 0, 0, 50), (65, .invokestatic 59, 3, 193, 3, 3, 11, 0), (68, .ifCond .eq 7, 3, 0, 0, 0, 0, 0), (71, .iconst 1, 1, 0, 0, 0, 0, 1), (72, .goto 4, 3, 0, 0, 0, 0, 0), (75, .iconst 0, 1, 0, 0, 0, 0, 0), (76, .invokestatic 63, 3, 191, 1, 1, 11, 0), (79, .aload_n 0, 1, 0, 0, 0, 0, 0), (80, .getfield 10, 3, 11, 0, 8, 0, 0), (83, .getfield 34, 3, 5, 0, 9, 0, 0), (86, .invokevirtual 87, 3, 75, 1, 6, 6, 0), (89, .iconst 2, 1, 0, 0, 0, 0, 2), (90, .iadd, 1, 0, 0, 0, 0, 0), (91, .bipush 40, 2, 0, 0, 0, 0, 40), (93, .if_icmp .gt 36, 3, 0, 0, 0, 0, 0), (96, .aload_n 0, 1, 0, 0, 0, 0, 0), (97, .getfield 10, 3, 11, 0, 8, 0, 0), (100, .iload_n 1, 1, 0, 0, 0, 0, 0), (101, .iload_n 2, 1, 0, 0, 0, 0, 0), (102, .iload 5, 2, 0, 0, 0, 0, 0), (104, .invokevirtual 70, 3, 57, 4, 5, 5, 0), (107, .ifCond .eq 22, 3, 0, 0, 0, 0, 0), (110, .aload_n 0, 1, 0, 0, 0, 0, 0), (111, .getfield 10, 3, 11, 0, 8, 0, 0), (114, .iload_n 1, 1, 0, 0, 0, 0, 0), (115, .iload_n 2, 1, 0, 0, 0, 0, 0), (116, .iload 5, 2, 0, 0, 0, 0, 0), (118, .ineg, 1, 0, 0, 0, 0, 0), (119, .invokevirtual 70, 3, 57, 4, 5, 5, 0), (122, .ifCond .eq 7, 3, 0, 0, 0, 0, 0), (125, .iconst 1, 1, 0, 0, 0, 0, 1), (126, .goto 4, 3, 0, 0, 0, 0, 0), (129, .iconst 0, 1, 0, 0, 0, 0, 0), (130, .invokestatic 73, 3, 192, 1, 1, 11, 0), (133, .aload_n 0, 1, 0, 0, 0, 0, 0), (134, .aload_n 0, 1, 0, 0, 0, 0, 0), (135, .getfield 10, 3, 11, 0, 8, 0, 0), (138, .aload_n 0, 1, 0, 0, 0, 0, 0), (139, .bipush 6, 2, 0, 0, 0, 0, 6), (141, .iload_n 1, 1, 0, 0, 0, 0, 0), (142, .iload_n 2, 1, 0, 0, 0, 0, 0), (143, .iload_n 3, 1, 0, 0, 0, 0, 0), (144, .iload 4, 2, 0, 0, 0, 0, 0), (146, .iload 5, 2, 0, 0, 0, 0, 0), (148, .iconst 0, 1, 0, 0, 0, 0, 0), (149, .invokevirtual 76, 3, 200, 8, 9, 11, 0), (152, .invokevirtual 80, 3, 201, 3, 11, 11, 0), (155, .ireturn, 1, 0, 0, 0, 0, 0)]
set_option maxRecDepth 100000 in
theorem yr156 : Y156.all (rok3 156) = true := by decide +kernel
set_option maxRecDepth 100000 in
theorem yk156 : T3OK 156 Y156 := t3_ok (K := K156) rfl (fun h => d156 h) yr156
set_option maxRecDepth 100000 in
theorem nh156 : lk hT 156 = none := by decide +kernel
set_option maxRecDepth 100000 in
set_option maxRecDepth 100000 in
set_option maxRecDepth 100000 in
def Y160 : List YR := [(0, .iload_n 1, 1, 0, 0, 0, 0, 0), (1, .invokestatic 27, 3, 195, 1, 1, 11, 0), (4, .invokestatic 30, 3, 190, 1, 1, 11, 0), (7, .iload_n 2, 1, 0, 0, 0, 0, 0), (8, .iconst 1, 1, 0, 0, 0, 0, 1), (9, .bipush 20, 2, 0, 0, 0, 0, 20), (11, .invokestatic 59, 3, 193, 3, 3, 11, 0), (14, .ifCond .eq 27, 3, 0, 0, 0, 0, 0), (17, .iload_n 3, 1, 0, 0, 0, 0, 0), (18, .iconst 0, 1, 0, 0, 0, 0, 0), (19, .iload_n 2, 1, 0, 0, 0, 0, 0), (20, .invokestatic 59, 3, 193, 3, 3, 11, 0), (23, .ifCond .eq 18, 3, 0, 0, 0, 0, 0), (26, .iload 4, 2, 0, 0, 0, 0, 0), (28, .iconst 0, 1, 0, 0, 0, 0, 0), (29, .bipush 9, 2, 0, 0, 0, 0, 9), (31, .invokestatic 59, 3, 193, 3, 3, 11, 0), (34, .ifCond .eq 7, 3, 0, 0, 0, 0, 0), (37, .iconst 1, 1, 0, 0, 0, 0, 1), (38, .goto 4, 3, 0, 0, 0, 0, 0), (41, .iconst 0, 1, 0, 0, 0, 0, 0), (42, .invokestatic 63, 3, 191, 1, 1, 11, 0), (45, .aload_n 0, 1, 0, 0, 0, 0, 0), (46, .getfield 10, 3, 11, 0, 8, 0, 0), (49, .getfield 34, 3, 5, 0, 9, 0, 0), (52, .iload_n 1, 1, 0, 0, 0, 0, 0), (53, .invokevirtual 38, 3, 73, 2, 2, 6, 0), (56, .getfield 66, 3, 1, 5, 1, 0, 0), (59, .ifCond .ne 7, 3, 0, 0, 0, 0, 0), (62, .iconst 1, 1, 0, 0, 0, 0, 1), (63, .goto 4, 3, 0, 0, 0, 0, 0), (66, .iconst 0, 1, 0, 0, 0, 0, 0), (67, .invokestatic 73, 3, 192, 1, 1, 11, 0), (70, .aload_n 0, 1, 0, 0, 0, 0, 0), (71, .aload_n 0, 1, 0, 0, 0, 0, 0), (72, .getfield 10, 3, 11, 0, 8, 0, 0), (75, .aload_n 0, 1, 0, 0, 0, 0, 0), (76, .bipush 12, 2, 0, 0, 0, 0, 12), (78, .iload_n 1, 1, 0, 0, 0, 0, 0), (79, .iload_n 2, 1, 0, 0, 0, 0, 0), (80, .iload_n 3, 1, 0, 0, 0, 0, 0), (81, .iload 4, 2, 0, 0, 0, 0, 0), (83, .iconst 0, 1, 0, 0, 0, 0, 0), (84, .iconst 0, 1, 0, 0, 0, 0, 0), (85, .invokevirtual 76, 3, 200, 8, 9, 11, 0), (88, .invokevirtual 80, 3, 201, 3, 11, 11, 0), (91, .ireturn, 1, 0, 0, 0, 0, 0)]
set_option maxRecDepth 100000 in
theorem yr160 : Y160.all (rok3 160) = true := by decide +kernel
set_option maxRecDepth 100000 in
theorem yk160 : T3OK 160 Y160 := t3_ok (K := K160) rfl (fun h => d160 h) yr160
set_option maxRecDepth 100000 in
theorem nh160 : lk hT 160 = none := by decide +kernel
section Face3
variable {P0 P1 Q Q2 : PM} {cl : Nat → Int32} {kp fo : Int32} {ou : Int64} {L e N T D t : Nat} {xs lg : Nat → Int32} {a b c d x f : Int32}
theorem fc_0 (I : IV lg P0 Q2 N T D t) (ht : t < 512) (hg : Gr 0 P0) (HO : kLimit P0 a b c d x f = 0 → gE P0 a b c d x f 0 ∧ g5_work (vE P0 a b c d x f 0).2) : X 151 0 [rR 3 11 1, vI a, vI b, vI c, vI d, vI x, vI f, vJ] [] (mm P0 P1 Q cl (cn t) kp fo ou L xs e) = evR (kLimit P0 a b c d x f) [0, 1, 2] (okO P0 P1 Q cl kp fo ou L xs e t 0 a b c d x f) (mm P0 P1 Q cl (cn t) kp fo ou L xs e) := by
  refine y_cal yk151 2 4 rfl x_isTrader ?_
  by_cases h1 : isW a (cn 0) (cn 7) = 0
  · refine y_ifT yk151 0 4 18 rfl rfl rfl (decide_eq_true h1) ?_
    have hk : kLimit P0 a b c d x f = 1 := by unfold kLimit kLimS; (try simp only [if_pos h1]); (try (repeat' (first | rfl | split)))
    exact y_thr yk151 2 22 rfl (x_np0 rfl) (by decide +kernel) nh151 (by rw [hk]; rfl)
  · refine y_ifF yk151 0 4 7 rfl rfl rfl (by decide) (decide_eq_false h1) ?_
    refine y_cal yk151 2 11 rfl x_isBook ?_
    by_cases h2 : isW b (cn 0) (cn 5) = 0
    · refine y_ifT yk151 0 11 18 rfl rfl rfl (decide_eq_true h2) ?_
      have hk : kLimit P0 a b c d x f = 1 := by unfold kLimit kLimS; (try simp only [if_neg h1, if_pos h2]); (try (repeat' (first | rfl | split)))
      exact y_thr yk151 2 22 rfl (x_np0 rfl) (by decide +kernel) nh151 (by rw [hk]; rfl)
    · refine y_ifF yk151 0 11 14 rfl rfl rfl (by decide) (decide_eq_false h2) ?_
      refine y_go yk151 2 19 rfl ?_
      refine y_ca0 yk151 1 22 rfl (x_np1 (by decide)) ?_
      refine y_gfr yk151 1 23 26 5 1 0 rfl rfl rfl rfl rfl rfl (by decide) ?_
      refine y_gfr yk151 0 26 29 6 1 0 rfl rfl rfl rfl rfl (hg.1 (5, 0, 1) (by decide)) (by decide) ?_
      have e1 := x_R (M := (mm P0 P1 Q cl (cn t) kp fo ou L xs e)) okx0 (fb5 P0 h2).2 (t6_bookAt P0 hg b (fb5 P0 h2).1)
      refine y_cal yk151 2 33 rfl e1 ?_
      have e1 := x_I' (M := (mm P0 P1 Q cl (cn t) kp fo ou L xs e)) okx0 (t1_hasPrice P0 hg (v6_bookAt P0 b) c (gprice P0 (fb5 P0 h2).2)) (by show vR _ _ _ :: _ = _; rw [vR_pos (fb5 P0 h2).2]; try rfl)
      refine y_cal yk151 2 37 rfl e1 ?_
      by_cases h3 : v1_hasPrice P0 (v6_bookAt P0 b) c = 0
      · refine y_ifT yk151 0 37 85 rfl rfl rfl (decide_eq_true h3) ?_
        have hk : kLimit P0 a b c d x f = 2 := by unfold kLimit kLimS; (try simp only [if_neg h1, if_neg h2, if_pos h3]); (try (repeat' (first | rfl | split)))
        exact y_thr yk151 2 89 rfl (x_nr0 rfl) (by decide +kernel) nh151 (by rw [hk]; rfl)
      · refine y_ifF yk151 0 37 40 rfl rfl rfl (by decide) (decide_eq_false h3) ?_
        refine y_cal yk151 2 45 rfl x_isQ ?_
        by_cases h4 : isW d (cn (-50)) (cn 50) = 0
        · have hz4 : isQ d = 0 := by unfold isQ; exact if_pos h4
          refine y_ifT yk151 0 45 85 rfl rfl rfl (decide_eq_true hz4) ?_
          have hk : kLimit P0 a b c d x f = 2 := by unfold kLimit kLimS; (try simp only [if_neg h1, if_neg h2, if_neg h3, if_pos h4]); (try (repeat' (first | rfl | split)))
          exact y_thr yk151 2 89 rfl (x_nr0 rfl) (by decide +kernel) nh151 (by rw [hk]; rfl)
        · by_cases h5 : d = 0
          · have hz5 : isQ d = 0 := by unfold isQ; rw [if_neg h4]; exact if_pos h5
            refine y_ifT yk151 0 45 85 rfl rfl rfl (decide_eq_true hz5) ?_
            have hk : kLimit P0 a b c d x f = 2 := by unfold kLimit kLimS; (try simp only [if_neg h1, if_neg h2, if_neg h3, if_neg h4, if_pos h5]); (try (repeat' (first | rfl | split)))
            exact y_thr yk151 2 89 rfl (x_nr0 rfl) (by decide +kernel) nh151 (by rw [hk]; rfl)
          · have hz5 : ¬ isQ d = 0 := by unfold isQ; rw [if_neg h4, if_neg h5]; decide
            refine y_ifF yk151 0 45 48 rfl rfl rfl (by decide) (decide_eq_false hz5) ?_
            by_cases h6 : x < 0
            · have h7 : isW x (cn 0) (v14_abs_0f7a4 P0 d) = 0 := by unfold isW; exact if_pos h6
              refine y_ifT yk151 1 50 85 rfl rfl rfl (decide_eq_true h6) ?_
              have hk : kLimit P0 a b c d x f = 2 := by unfold kLimit kLimS; (try simp only [if_neg h1, if_neg h2, if_neg h3, if_neg h4, if_neg h5, if_pos h6, if_pos h7]); (try (repeat' (first | rfl | split)))
              exact y_thr yk151 2 89 rfl (x_nr0 rfl) (by decide +kernel) nh151 (by rw [hk]; rfl)
            · refine y_ifF yk151 1 50 53 rfl rfl rfl (by decide) (decide_eq_false h6) ?_
              have e1 := x_I (M := (mm P0 P1 Q cl (cn t) kp fo ou L xs e)) okx0 (t14_abs_0f7a4 P0 hg d (gabs P0))
              refine y_cal yk151 3 60 rfl e1 ?_
              by_cases h8 : (v14_abs_0f7a4 P0 d) < x
              · have h9 : isW x (cn 0) (v14_abs_0f7a4 P0 d) = 0 := by have hx : ¬ x < cn 0 := h6; unfold isW; rw [if_neg hx]; exact if_pos h8
                refine y_icT yk151 0 60 85 rfl rfl rfl (decide_eq_true h8) ?_
                have hk : kLimit P0 a b c d x f = 2 := by unfold kLimit kLimS; (try simp only [if_neg h1, if_neg h2, if_neg h3, if_neg h4, if_neg h5, if_neg h6, if_pos h8, if_pos h9]); (try (repeat' (first | rfl | split)))
                exact y_thr yk151 2 89 rfl (x_nr0 rfl) (by decide +kernel) nh151 (by rw [hk]; rfl)
              · have h10 : ¬ isW x (cn 0) (v14_abs_0f7a4 P0 d) = 0 := by have hx : ¬ x < cn 0 := h6; unfold isW; rw [if_neg hx, if_neg h8]; decide
                refine y_icF yk151 0 60 63 rfl rfl rfl (by decide) (decide_eq_false h8) ?_
                by_cases h11 : f = (cn (-100000))
                · have h12 : isW f (cn 0) (cn 9) = 0 := by rw [h11]; decide
                  refine y_icT yk151 2 67 81 rfl rfl rfl (decide_eq_true h11) ?_
                  refine y_go yk151 2 86 rfl ?_
                  refine y_ca0 yk151 1 89 rfl (x_nr1 (by decide)) ?_
                  refine y_gfr yk151 1 90 93 5 1 0 rfl rfl rfl rfl rfl rfl (by decide) ?_
                  refine y_gfr yk151 0 93 96 6 1 0 rfl rfl rfl rfl rfl (hg.1 (5, 0, 1) (by decide)) (by decide) ?_
                  have e1 := x_R (M := (mm P0 P1 Q cl (cn t) kp fo ou L xs e)) okx0 (fb5 P0 h2).2 (t6_bookAt P0 hg b (fb5 P0 h2).1)
                  refine y_cal yk151 2 100 rfl e1 ?_
                  refine y_gfr yk151 3 106 109 5 1 0 rfl rfl rfl rfl rfl rfl (by decide) ?_
                  have e1 := x_I (M := (mm P0 P1 Q cl (cn t) kp fo ou L xs e)) okx0 (t5_admits P0 hg a b d (gadm I (by omega) h1 h2 h4 h5))
                  refine y_cal yk151 4 116 rfl e1 ?_
                  by_cases h13 : v5_admits P0 a b d = 0
                  · refine y_ifT yk151 0 116 140 rfl rfl rfl (decide_eq_true h13) ?_
                    have hk : kLimit P0 a b c d x f = 3 := by unfold kLimit kLimS; (try simp only [if_neg h1, if_neg h2, if_neg h3, if_neg h4, if_neg h5, if_neg h6, if_neg h8, if_neg h10, if_pos h11, if_pos h12, if_pos h13]); (try (repeat' (first | rfl | split)))
                    exact y_thr yk151 2 144 rfl (x_ns0 rfl) (by decide +kernel) nh151 (by rw [hk]; rfl)
                  · refine y_ifF yk151 0 116 119 rfl rfl rfl (by decide) (decide_eq_false h13) ?_
                    by_cases h14 : P0.1 1 (v6_bookAt P0 b) 5 = 0
                    · refine y_ifT yk151 1 121 136 rfl rfl rfl (decide_eq_true h14) ?_
                      refine y_go yk151 2 141 rfl ?_
                      refine y_ca0 yk151 1 144 rfl (x_ns1 (by decide)) ?_
                      refine y_gfr yk151 2 146 149 5 1 0 rfl rfl rfl rfl rfl rfl (by decide) ?_
                      have hk : kLimit P0 a b c d x f = 0 := by unfold kLimit kLimS; (try simp only [if_neg h1, if_neg h2, if_neg h3, if_neg h4, if_neg h5, if_neg h6, if_neg h8, if_neg h10, if_pos h11, if_pos h12, if_neg h13, if_pos h14]); (try (repeat' (first | rfl | split)))
                      obtain ⟨G, W⟩ := HO hk
                      refine y_cal yk151 9 163 rfl (x_enter ht _ _ _ _ _ _ _) ?_
                      refine y_cal yk151 1 166 rfl (x_play_c (k := 0) (by decide) ht hg G W) ?_
                      exact y_ret yk151 1 rfl (by rw [hk]; rfl)
                    · refine y_ifF yk151 1 121 124 rfl rfl rfl (by decide) (decide_eq_false h14) ?_
                      refine y_icT yk151 2 128 140 rfl rfl rfl (decide_eq_true h11) ?_
                      have hk : kLimit P0 a b c d x f = 3 := by unfold kLimit kLimS; (try simp only [if_neg h1, if_neg h2, if_neg h3, if_neg h4, if_neg h5, if_neg h6, if_neg h8, if_neg h10, if_pos h11, if_pos h12, if_neg h13, if_neg h14]); (try (repeat' (first | rfl | split)))
                      exact y_thr yk151 2 144 rfl (x_ns0 rfl) (by decide +kernel) nh151 (by rw [hk]; rfl)
                · refine y_icF yk151 2 67 70 rfl rfl rfl (by decide) (decide_eq_false h11) ?_
                  refine y_cal yk151 4 78 rfl x_isW ?_
                  by_cases h15 : isW f (cn 0) (cn 9) = 0
                  · refine y_ifT yk151 0 78 85 rfl rfl rfl (decide_eq_true h15) ?_
                    have hk : kLimit P0 a b c d x f = 2 := by unfold kLimit kLimS; (try simp only [if_neg h1, if_neg h2, if_neg h3, if_neg h4, if_neg h5, if_neg h6, if_neg h8, if_neg h10, if_neg h11, if_pos h15]); (try (repeat' (first | rfl | split)))
                    exact y_thr yk151 2 89 rfl (x_nr0 rfl) (by decide +kernel) nh151 (by rw [hk]; rfl)
                  · refine y_ifF yk151 0 78 81 rfl rfl rfl (by decide) (decide_eq_false h15) ?_
                    refine y_go yk151 2 86 rfl ?_
                    refine y_ca0 yk151 1 89 rfl (x_nr1 (by decide)) ?_
                    refine y_gfr yk151 1 90 93 5 1 0 rfl rfl rfl rfl rfl rfl (by decide) ?_
                    refine y_gfr yk151 0 93 96 6 1 0 rfl rfl rfl rfl rfl (hg.1 (5, 0, 1) (by decide)) (by decide) ?_
                    have e1 := x_R (M := (mm P0 P1 Q cl (cn t) kp fo ou L xs e)) okx0 (fb5 P0 h2).2 (t6_bookAt P0 hg b (fb5 P0 h2).1)
                    refine y_cal yk151 2 100 rfl e1 ?_
                    refine y_gfr yk151 3 106 109 5 1 0 rfl rfl rfl rfl rfl rfl (by decide) ?_
                    have e1 := x_I (M := (mm P0 P1 Q cl (cn t) kp fo ou L xs e)) okx0 (t5_admits P0 hg a b d (gadm I (by omega) h1 h2 h4 h5))
                    refine y_cal yk151 4 116 rfl e1 ?_
                    by_cases h16 : v5_admits P0 a b d = 0
                    · refine y_ifT yk151 0 116 140 rfl rfl rfl (decide_eq_true h16) ?_
                      have hk : kLimit P0 a b c d x f = 3 := by unfold kLimit kLimS; (try simp only [if_neg h1, if_neg h2, if_neg h3, if_neg h4, if_neg h5, if_neg h6, if_neg h8, if_neg h10, if_neg h11, if_neg h15, if_pos h16]); (try (repeat' (first | rfl | split)))
                      exact y_thr yk151 2 144 rfl (x_ns0 rfl) (by decide +kernel) nh151 (by rw [hk]; rfl)
                    · refine y_ifF yk151 0 116 119 rfl rfl rfl (by decide) (decide_eq_false h16) ?_
                      by_cases h17 : P0.1 1 (v6_bookAt P0 b) 5 = 0
                      · refine y_ifT yk151 1 121 136 rfl rfl rfl (decide_eq_true h17) ?_
                        refine y_go yk151 2 141 rfl ?_
                        refine y_ca0 yk151 1 144 rfl (x_ns1 (by decide)) ?_
                        refine y_gfr yk151 2 146 149 5 1 0 rfl rfl rfl rfl rfl rfl (by decide) ?_
                        have hk : kLimit P0 a b c d x f = 0 := by unfold kLimit kLimS; (try simp only [if_neg h1, if_neg h2, if_neg h3, if_neg h4, if_neg h5, if_neg h6, if_neg h8, if_neg h10, if_neg h11, if_neg h15, if_neg h16, if_pos h17]); (try (repeat' (first | rfl | split)))
                        obtain ⟨G, W⟩ := HO hk
                        refine y_cal yk151 9 163 rfl (x_enter ht _ _ _ _ _ _ _) ?_
                        refine y_cal yk151 1 166 rfl (x_play_c (k := 0) (by decide) ht hg G W) ?_
                        exact y_ret yk151 1 rfl (by rw [hk]; rfl)
                      · refine y_ifF yk151 1 121 124 rfl rfl rfl (by decide) (decide_eq_false h17) ?_
                        refine y_icF yk151 2 128 131 rfl rfl rfl (by decide) (decide_eq_false h11) ?_
                        by_cases h18 : 0 < x
                        · refine y_ifT yk151 1 133 140 rfl rfl rfl (decide_eq_true h18) ?_
                          have hk : kLimit P0 a b c d x f = 3 := by unfold kLimit kLimS; (try simp only [if_neg h1, if_neg h2, if_neg h3, if_neg h4, if_neg h5, if_neg h6, if_neg h8, if_neg h10, if_neg h11, if_neg h15, if_neg h16, if_neg h17, if_pos h18]); (try (repeat' (first | rfl | split)))
                          exact y_thr yk151 2 144 rfl (x_ns0 rfl) (by decide +kernel) nh151 (by rw [hk]; rfl)
                        · refine y_ifF yk151 1 133 136 rfl rfl rfl (by decide) (decide_eq_false h18) ?_
                          refine y_go yk151 2 141 rfl ?_
                          refine y_ca0 yk151 1 144 rfl (x_ns1 (by decide)) ?_
                          refine y_gfr yk151 2 146 149 5 1 0 rfl rfl rfl rfl rfl rfl (by decide) ?_
                          have hk : kLimit P0 a b c d x f = 0 := by unfold kLimit kLimS; (try simp only [if_neg h1, if_neg h2, if_neg h3, if_neg h4, if_neg h5, if_neg h6, if_neg h8, if_neg h10, if_neg h11, if_neg h15, if_neg h16, if_neg h17, if_neg h18]); (try (repeat' (first | rfl | split)))
                          obtain ⟨G, W⟩ := HO hk
                          refine y_cal yk151 9 163 rfl (x_enter ht _ _ _ _ _ _ _) ?_
                          refine y_cal yk151 1 166 rfl (x_play_c (k := 0) (by decide) ht hg G W) ?_
                          exact y_ret yk151 1 rfl (by rw [hk]; rfl)
theorem fc_5 (I : IV lg P0 Q2 N T D t) (ht : t < 512) (hg : Gr 0 P0) (HO : kQuote P0 a b c d x = 0 → gE P0 a b c d x (cn 0) 5 ∧ g5_work (vE P0 a b c d x (cn 0) 5).2) : X 156 0 [rR 3 11 1, vI a, vI b, vI c, vI d, vI x, vJ] [] (mm P0 P1 Q cl (cn t) kp fo ou L xs e) = evR (kQuote P0 a b c d x) [0, 1, 2] (okO P0 P1 Q cl kp fo ou L xs e t 5 a b c d x (cn 0)) (mm P0 P1 Q cl (cn t) kp fo ou L xs e) := by
  refine y_cal yk156 2 4 rfl x_isTrader ?_
  by_cases h1 : isW a (cn 0) (cn 7) = 0
  · refine y_ifT yk156 0 4 18 rfl rfl rfl (decide_eq_true h1) ?_
    have hk : kQuote P0 a b c d x = 1 := by unfold kQuote; (try simp only [if_pos h1]); (try (repeat' (first | rfl | split)))
    exact y_thr yk156 2 22 rfl (x_np0 rfl) (by decide +kernel) nh156 (by rw [hk]; rfl)
  · refine y_ifF yk156 0 4 7 rfl rfl rfl (by decide) (decide_eq_false h1) ?_
    refine y_cal yk156 2 11 rfl x_isBook ?_
    by_cases h2 : isW b (cn 0) (cn 5) = 0
    · refine y_ifT yk156 0 11 18 rfl rfl rfl (decide_eq_true h2) ?_
      have hk : kQuote P0 a b c d x = 1 := by unfold kQuote; (try simp only [if_neg h1, if_pos h2]); (try (repeat' (first | rfl | split)))
      exact y_thr yk156 2 22 rfl (x_np0 rfl) (by decide +kernel) nh156 (by rw [hk]; rfl)
    · refine y_ifF yk156 0 11 14 rfl rfl rfl (by decide) (decide_eq_false h2) ?_
      refine y_go yk156 2 19 rfl ?_
      refine y_ca0 yk156 1 22 rfl (x_np1 (by decide)) ?_
      refine y_gfr yk156 1 23 26 5 1 0 rfl rfl rfl rfl rfl rfl (by decide) ?_
      refine y_gfr yk156 0 26 29 6 1 0 rfl rfl rfl rfl rfl (hg.1 (5, 0, 1) (by decide)) (by decide) ?_
      have e1 := x_R (M := (mm P0 P1 Q cl (cn t) kp fo ou L xs e)) okx0 (fb5 P0 h2).2 (t6_bookAt P0 hg b (fb5 P0 h2).1)
      refine y_cal yk156 2 33 rfl e1 ?_
      have e1 := x_I' (M := (mm P0 P1 Q cl (cn t) kp fo ou L xs e)) okx0 (t1_hasPrice P0 hg (v6_bookAt P0 b) c (gprice P0 (fb5 P0 h2).2)) (by show vR _ _ _ :: _ = _; rw [vR_pos (fb5 P0 h2).2]; try rfl)
      refine y_cal yk156 4 41 rfl e1 ?_
      by_cases h3 : v1_hasPrice P0 (v6_bookAt P0 b) c = 0
      · refine y_ifT yk156 0 41 75 rfl rfl rfl (decide_eq_true h3) ?_
        have hk : kQuote P0 a b c d x = 2 := by unfold kQuote; (try simp only [if_neg h1, if_neg h2, if_pos h3]); (try (repeat' (first | rfl | split)))
        exact y_thr yk156 2 79 rfl (x_nr0 rfl) (by decide +kernel) nh156 (by rw [hk]; rfl)
      · refine y_ifF yk156 0 41 44 rfl rfl rfl (by decide) (decide_eq_false h3) ?_
        have e1 := x_I' (M := (mm P0 P1 Q cl (cn t) kp fo ou L xs e)) okx0 (t1_hasPrice P0 hg (v6_bookAt P0 b) d (gprice P0 (fb5 P0 h2).2)) (by show vR _ _ _ :: _ = _; rw [vR_pos (fb5 P0 h2).2]; try rfl)
        refine y_cal yk156 3 51 rfl e1 ?_
        by_cases h4 : v1_hasPrice P0 (v6_bookAt P0 b) d = 0
        · refine y_ifT yk156 0 51 75 rfl rfl rfl (decide_eq_true h4) ?_
          have hk : kQuote P0 a b c d x = 2 := by unfold kQuote; (try simp only [if_neg h1, if_neg h2, if_neg h3, if_pos h4]); (try (repeat' (first | rfl | split)))
          exact y_thr yk156 2 79 rfl (x_nr0 rfl) (by decide +kernel) nh156 (by rw [hk]; rfl)
        · refine y_ifF yk156 0 51 54 rfl rfl rfl (by decide) (decide_eq_false h4) ?_
          by_cases h5 : c < d
          · refine y_icF yk156 2 57 60 rfl rfl rfl (by decide) (decide_eq_false (fun h9 => absurd h5 (Int32.not_lt.mpr h9))) ?_
            refine y_cal yk156 4 68 rfl x_isW ?_
            by_cases h6 : isW x (cn 1) (cn 50) = 0
            · refine y_ifT yk156 0 68 75 rfl rfl rfl (decide_eq_true h6) ?_
              have hk : kQuote P0 a b c d x = 2 := by unfold kQuote; (try simp only [if_neg h1, if_neg h2, if_neg h3, if_neg h4, if_pos h5, if_pos h6]); (try (repeat' (first | rfl | split)))
              exact y_thr yk156 2 79 rfl (x_nr0 rfl) (by decide +kernel) nh156 (by rw [hk]; rfl)
            · refine y_ifF yk156 0 68 71 rfl rfl rfl (by decide) (decide_eq_false h6) ?_
              refine y_go yk156 2 76 rfl ?_
              refine y_ca0 yk156 1 79 rfl (x_nr1 (by decide)) ?_
              refine y_gfr yk156 1 80 83 5 1 0 rfl rfl rfl rfl rfl rfl (by decide) ?_
              refine y_gfr yk156 0 83 86 6 1 0 rfl rfl rfl rfl rfl (hg.1 (5, 0, 1) (by decide)) (by decide) ?_
              have e1 := x_I (M := (mm P0 P1 Q cl (cn t) kp fo ou L xs e)) okx0 (t6_countLive P0 hg  (g_liveP P0))
              refine y_cal yk156 1 89 rfl e1 ?_
              by_cases h7 : (cn 40) < ((v6_countLive P0) + (cn 2))
              · refine y_icT yk156 3 93 129 rfl rfl rfl (decide_eq_true h7) ?_
                have hk : kQuote P0 a b c d x = 3 := by unfold kQuote; (try simp only [if_neg h1, if_neg h2, if_neg h3, if_neg h4, if_pos h5, if_neg h6, if_pos h7]); (try (repeat' (first | rfl | split)))
                exact y_thr yk156 2 133 rfl (x_ns0 rfl) (by decide +kernel) nh156 (by rw [hk]; rfl)
              · refine y_icF yk156 3 93 96 rfl rfl rfl (by decide) (decide_eq_false h7) ?_
                refine y_gfr yk156 1 97 100 5 1 0 rfl rfl rfl rfl rfl rfl (by decide) ?_
                have e1 := x_I (M := (mm P0 P1 Q cl (cn t) kp fo ou L xs e)) okx0 (t5_admits P0 hg a b x (gadmq I (by omega) h1 h2 h6).1)
                refine y_cal yk156 4 107 rfl e1 ?_
                by_cases h8 : v5_admits P0 a b x = 0
                · refine y_ifT yk156 0 107 129 rfl rfl rfl (decide_eq_true h8) ?_
                  have hk : kQuote P0 a b c d x = 3 := by unfold kQuote; (try simp only [if_neg h1, if_neg h2, if_neg h3, if_neg h4, if_pos h5, if_neg h6, if_neg h7, if_pos h8]); (try (repeat' (first | rfl | split)))
                  exact y_thr yk156 2 133 rfl (x_ns0 rfl) (by decide +kernel) nh156 (by rw [hk]; rfl)
                · refine y_ifF yk156 0 107 110 rfl rfl rfl (by decide) (decide_eq_false h8) ?_
                  refine y_gfr yk156 1 111 114 5 1 0 rfl rfl rfl rfl rfl rfl (by decide) ?_
                  have e1 := x_I (M := (mm P0 P1 Q cl (cn t) kp fo ou L xs e)) okx0 (t5_admits P0 hg a b (-x) (gadmq I (by omega) h1 h2 h6).2)
                  refine y_cal yk156 5 122 rfl e1 ?_
                  by_cases h9 : v5_admits P0 a b (-x) = 0
                  · refine y_ifT yk156 0 122 129 rfl rfl rfl (decide_eq_true h9) ?_
                    have hk : kQuote P0 a b c d x = 3 := by unfold kQuote; (try simp only [if_neg h1, if_neg h2, if_neg h3, if_neg h4, if_pos h5, if_neg h6, if_neg h7, if_neg h8, if_pos h9]); (try (repeat' (first | rfl | split)))
                    exact y_thr yk156 2 133 rfl (x_ns0 rfl) (by decide +kernel) nh156 (by rw [hk]; rfl)
                  · refine y_ifF yk156 0 122 125 rfl rfl rfl (by decide) (decide_eq_false h9) ?_
                    refine y_go yk156 2 130 rfl ?_
                    refine y_ca0 yk156 1 133 rfl (x_ns1 (by decide)) ?_
                    refine y_gfr yk156 2 135 138 5 1 0 rfl rfl rfl rfl rfl rfl (by decide) ?_
                    have hk : kQuote P0 a b c d x = 0 := by unfold kQuote; (try simp only [if_neg h1, if_neg h2, if_neg h3, if_neg h4, if_pos h5, if_neg h6, if_neg h7, if_neg h8, if_neg h9]); (try (repeat' (first | rfl | split)))
                    obtain ⟨G, W⟩ := HO hk
                    refine y_cal yk156 9 152 rfl (x_enter ht _ _ _ _ _ _ _) ?_
                    refine y_cal yk156 1 155 rfl (x_play_c (k := 5) (by decide) ht hg G W) ?_
                    exact y_ret yk156 1 rfl (by rw [hk]; rfl)
          · refine y_icT yk156 2 57 75 rfl rfl rfl (decide_eq_true (Int32.not_lt.mp h5)) ?_
            have hk : kQuote P0 a b c d x = 2 := by unfold kQuote; (try simp only [if_neg h1, if_neg h2, if_neg h3, if_neg h4, if_neg h5]); (try (repeat' (first | rfl | split)))
            exact y_thr yk156 2 79 rfl (x_nr0 rfl) (by decide +kernel) nh156 (by rw [hk]; rfl)
theorem fc_11 (I : IV lg P0 Q2 N T D t) (ht : t < 512) (hg : Gr 0 P0) (HO : kAuction P0 a b c d = 0 → gE P0 a b c d (cn 0) (cn 0) 11 ∧ g5_work (vE P0 a b c d (cn 0) (cn 0) 11).2) : X 160 0 [rR 3 11 1, vI a, vI b, vI c, vI d] [] (mm P0 P1 Q cl (cn t) kp fo ou L xs e) = evR (kAuction P0 a b c d) [0, 1, 2] (okO P0 P1 Q cl kp fo ou L xs e t 11 a b c d (cn 0) (cn 0)) (mm P0 P1 Q cl (cn t) kp fo ou L xs e) := by
  refine y_cal yk160 2 4 rfl x_isBook ?_
  by_cases h1 : isW a (cn 0) (cn 5) = 0
  · have hk : kAuction P0 a b c d = 1 := by unfold kAuction; (try simp only [if_pos h1]); (try (repeat' (first | rfl | split)))
    exact y_thr yk160 1 7 rfl (x_np0 h1) (by decide +kernel) nh160 (by rw [hk]; rfl)
  · refine y_ca0 yk160 1 7 rfl (x_np1 h1) ?_
    refine y_cal yk160 4 14 rfl x_isW ?_
    by_cases h2 : isW b (cn 1) (cn 20) = 0
    · refine y_ifT yk160 0 14 41 rfl rfl rfl (decide_eq_true h2) ?_
      have hk : kAuction P0 a b c d = 2 := by unfold kAuction; (try simp only [if_neg h1, if_pos h2]); (try (repeat' (first | rfl | split)))
      exact y_thr yk160 2 45 rfl (x_nr0 rfl) (by decide +kernel) nh160 (by rw [hk]; rfl)
    · refine y_ifF yk160 0 14 17 rfl rfl rfl (by decide) (decide_eq_false h2) ?_
      refine y_cal yk160 4 23 rfl x_isW ?_
      by_cases h3 : isW c (cn 0) b = 0
      · refine y_ifT yk160 0 23 41 rfl rfl rfl (decide_eq_true h3) ?_
        have hk : kAuction P0 a b c d = 2 := by unfold kAuction; (try simp only [if_neg h1, if_neg h2, if_pos h3]); (try (repeat' (first | rfl | split)))
        exact y_thr yk160 2 45 rfl (x_nr0 rfl) (by decide +kernel) nh160 (by rw [hk]; rfl)
      · refine y_ifF yk160 0 23 26 rfl rfl rfl (by decide) (decide_eq_false h3) ?_
        refine y_cal yk160 4 34 rfl x_isW ?_
        by_cases h4 : isW d (cn 0) (cn 9) = 0
        · refine y_ifT yk160 0 34 41 rfl rfl rfl (decide_eq_true h4) ?_
          have hk : kAuction P0 a b c d = 2 := by unfold kAuction; (try simp only [if_neg h1, if_neg h2, if_neg h3, if_pos h4]); (try (repeat' (first | rfl | split)))
          exact y_thr yk160 2 45 rfl (x_nr0 rfl) (by decide +kernel) nh160 (by rw [hk]; rfl)
        · refine y_ifF yk160 0 34 37 rfl rfl rfl (by decide) (decide_eq_false h4) ?_
          refine y_go yk160 2 42 rfl ?_
          refine y_ca0 yk160 1 45 rfl (x_nr1 (by decide)) ?_
          refine y_gfr yk160 1 46 49 5 1 0 rfl rfl rfl rfl rfl rfl (by decide) ?_
          refine y_gfr yk160 0 49 52 6 1 0 rfl rfl rfl rfl rfl (hg.1 (5, 0, 1) (by decide)) (by decide) ?_
          have e1 := x_R (M := (mm P0 P1 Q cl (cn t) kp fo ou L xs e)) okx0 (fb5 P0 h1).2 (t6_bookAt P0 hg a (fb5 P0 h1).1)
          refine y_cal yk160 2 56 rfl e1 ?_
          by_cases h5 : P0.1 1 (v6_bookAt P0 a) 5 = 0
          · refine y_ifF yk160 1 59 62 rfl rfl rfl (by decide) (decide_eq_false (fun h9 => h9 h5)) ?_
            refine y_go yk160 2 67 rfl ?_
            refine y_ca0 yk160 1 70 rfl (x_ns1 (by decide)) ?_
            refine y_gfr yk160 2 72 75 5 1 0 rfl rfl rfl rfl rfl rfl (by decide) ?_
            have hk : kAuction P0 a b c d = 0 := by unfold kAuction; (try simp only [if_neg h1, if_neg h2, if_neg h3, if_neg h4, if_pos h5]); (try (repeat' (first | rfl | split)))
            obtain ⟨G, W⟩ := HO hk
            refine y_cal yk160 9 88 rfl (x_enter ht _ _ _ _ _ _ _) ?_
            refine y_cal yk160 1 91 rfl (x_play_c (k := 11) (by decide) ht hg G W) ?_
            exact y_ret yk160 1 rfl (by rw [hk]; rfl)
          · refine y_ifT yk160 1 59 66 rfl rfl rfl (decide_eq_true h5) ?_
            have hk : kAuction P0 a b c d = 3 := by unfold kAuction; (try simp only [if_neg h1, if_neg h2, if_neg h3, if_neg h4, if_neg h5]); (try (repeat' (first | rfl | split)))
            exact y_thr yk160 2 70 rfl (x_ns0 rfl) (by decide +kernel) nh160 (by rw [hk]; rfl)
end Face3
