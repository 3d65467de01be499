/-! the face's calls that are events (limit, quote, cancel, auction) -/
def Y153 : List YR := [(0, .iload_n 1, 1, 0, 0, 0, 0, 0), (1, .invokestatic 23, 3, 204, 1, 1, 11, 0), (4, .ifCond .eq 14, 3, 0, 0, 0, 0, 0), (7, .iload_n 2, 1, 0, 0, 0, 0, 0), (8, .invokestatic 27, 3, 205, 1, 1, 11, 0), (11, .ifCond .eq 7, 3, 0, 0, 0, 0, 0), (14, .iconst 1, 1, 0, 0, 0, 0, 1), (15, .goto 4, 3, 0, 0, 0, 0, 0), (18, .iconst 0, 1, 0, 0, 0, 0, 0), (19, .invokestatic 30, 3, 200, 1, 1, 11, 0), (22, .aload_n 0, 1, 0, 0, 0, 0, 0), (23, .getfield 10, 3, 11, 0, 8, 0, 0), (26, .getfield 34, 3, 5, 0, 9, 0, 0), (29, .iload_n 2, 1, 0, 0, 0, 0, 0), (30, .invokevirtual 38, 3, 74, 2, 2, 6, 0), (33, .iload_n 3, 1, 0, 0, 0, 0, 0), (34, .invokevirtual 44, 3, 11, 2, 2, 1, 0), (37, .ifCond .eq 48, 3, 0, 0, 0, 0, 0), (40, .iload 4, 2, 0, 0, 0, 0, 0), (42, .invokestatic 49, 3, 208, 1, 1, 11, 0), (45, .ifCond .eq 40, 3, 0, 0, 0, 0, 0), (48, .iload 5, 2, 0, 0, 0, 0, 0), (50, .ifCond .lt 35, 3, 0, 0, 0, 0, 0), (53, .iload 5, 2, 0, 0, 0, 0, 0), (55, .iload 4, 2, 0, 0, 0, 0, 0), (57, .invokestatic 52, 3, 373, 1, 1, 14, 0), (60, .if_icmp .gt 25, 3, 0, 0, 0, 0, 0), (63, .iload 6, 2, 0, 0, 0, 0, 0), (65, .ldc 58, 2, 0, 0, 0, 0, (-100000)), (67, .if_icmp .eq 14, 3, 0, 0, 0, 0, 0), (70, .iload 6, 2, 0, 0, 0, 0, 0), (72, .iconst 0, 1, 0, 0, 0, 0, 0), (73, .bipush 9, 2, 0, 0, 0, 0, 9), (75, .invokestatic 59, 3, 203, 3, 3, 11, 0), (78, .ifCond .eq 7, 3, 0, 0, 0, 0, 0), (81, .iconst 1, 1, 0, 0, 0, 0, 1), (82, .goto 4, 3, 0, 0, 0, 0, 0), (85, .iconst 0, 1, 0, 0, 0, 0, 0), (86, .invokestatic 63, 3, 201, 1, 1, 11, 0), (89, .aload_n 0, 1, 0, 0, 0, 0, 0), (90, .getfield 10, 3, 11, 0, 8, 0, 0), (93, .getfield 34, 3, 5, 0, 9, 0, 0), (96, .iload_n 2, 1, 0, 0, 0, 0, 0), (97, .invokevirtual 38, 3, 74, 2, 2, 6, 0), (100, .getfield 66, 3, 1, 5, 1, 0, 0), (103, .istore 7, 2, 0, 0, 0, 0, 0), (105, .aload_n 0, 1, 0, 0, 0, 0, 0), (106, .getfield 10, 3, 11, 0, 8, 0, 0), (109, .iload_n 1, 1, 0, 0, 0, 0, 0), (110, .iload_n 2, 1, 0, 0, 0, 0, 0), (111, .iload 4, 2, 0, 0, 0, 0, 0), (113, .invokevirtual 70, 3, 58, 4, 5, 5, 0), (116, .ifCond .eq 24, 3, 0, 0, 0, 0, 0), (119, .iload 7, 2, 0, 0, 0, 0, 0), (121, .ifCond .eq 15, 3, 0, 0, 0, 0, 0), (124, .iload 6, 2, 0, 0, 0, 0, 0), (126, .ldc 58, 2, 0, 0, 0, 0, (-100000)), (128, .if_icmp .eq 12, 3, 0, 0, 0, 0, 0), (131, .iload 5, 2, 0, 0, 0, 0, 0), (133, .ifCond .gt 7, 3, 0, 0, 0, 0, 0), (136, .iconst 1, 1, 0, 0, 0, 0, 1), (137, .goto 4, 3, 0, 0, 0, 0, 0), (140, .iconst 0, 1, 0, 0, 0, 0, 0), (141, .invokestatic 73, 3, 202, 1, 1, 11, 0), (144, .aload_n 0, 1, 0, 0, 0, 0, 0), (145, .aload_n 0, 1, 0, 0, 0, 0, 0), (146, .getfield 10, 3, 11, 0, 8, 0, 0), (149, .aload_n 0, 1, 0, 0, 0, 0, 0), (150, .iconst 1, 1, 0, 0, 0, 0, 1), (151, .iload_n 1, 1, 0, 0, 0, 0, 0), (152, .iload_n 2, 1, 0, 0, 0, 0, 0), (153, .iload_n 3, 1, 0, 0, 0, 0, 0), (154, .iload 4, 2, 0, 0, 0, 0, 0), (156, .iload 5, 2, 0, 0, 0, 0, 0), (158, .iload 6, 2, 0, 0, 0, 0, 0), (160, .invokevirtual 76, 3, 210, 8, 9, 11, 0), (163, .invokevirtual 80, 3, 211, 3, 11, 11, 0), (166, .ireturn, 1, 0, 0, 0, 0, 0)]
set_option maxRecDepth 100000 in
theorem yr153 : Y153.all (rok3 153) = true := by decide +kernel
set_option maxRecDepth 100000 in
theorem yk153 : T3OK 153 Y153 := t3_ok (K := K153) rfl (fun h => d153 h) yr153
set_option maxRecDepth 100000 in
theorem nh153 : lk hT 153 = none := by decide +kernel
def Y158 : List YR := [(0, .iload_n 1, 1, 0, 0, 0, 0, 0), (1, .invokestatic 23, 3, 204, 1, 1, 11, 0), (4, .ifCond .eq 14, 3, 0, 0, 0, 0, 0), (7, .iload_n 2, 1, 0, 0, 0, 0, 0), (8, .invokestatic 27, 3, 205, 1, 1, 11, 0), (11, .ifCond .eq 7, 3, 0, 0, 0, 0, 0), (14, .iconst 1, 1, 0, 0, 0, 0, 1), (15, .goto 4, 3, 0, 0, 0, 0, 0), (18, .iconst 0, 1, 0, 0, 0, 0, 0), (19, .invokestatic 30, 3, 200, 1, 1, 11, 0), (22, .aload_n 0, 1, 0, 0, 0, 0, 0), (23, .getfield 10, 3, 11, 0, 8, 0, 0), (26, .getfield 34, 3, 5, 0, 9, 0, 0), (29, .iload_n 2, 1, 0, 0, 0, 0, 0), (30, .invokevirtual 38, 3, 74, 2, 2, 6, 0), (33, .astore 6, 2, 0, 0, 0, 0, 0), (35, .aload 6, 2, 0, 0, 0, 0, 0), (37, .iload_n 3, 1, 0, 0, 0, 0, 0), (38, .invokevirtual 44, 3, 11, 2, 2, 1, 0), (41, .ifCond .eq 34, 3, 0, 0, 0, 0, 0), (44, .aload 6, 2, 0, 0, 0, 0, 0), (46, .iload 4, 2, 0, 0, 0, 0, 0), (48, .invokevirtual 44, 3, 11, 2, 2, 1, 0), (51, .ifCond .eq 24, 3, 0, 0, 0, 0, 0), (54, .iload 4, 2, 0, 0, 0, 0, 0), (56, .iload_n 3, 1, 0, 0, 0, 0, 0), (57, .if_icmp .le 18, 3, 0, 0, 0, 0, 0), (60, .iload 5, 2, 0, 0, 0, 0, 0), (62, .iconst 1, 1, 0, 0, 0, 0, 1), (63, .bipush 50, 2, 0, 0, 0, 0, 50), (65, .invokestatic 59, 3, 203, 3, 3, 11, 0), (68, .ifCond .eq 7, 3, 0, 0, 0, 0, 0), (71, .iconst 1, 1, 0, 0, 0, 0, 1), (72, .goto 4, 3, 0, 0, 0, 0, 0), (75, .iconst 0, 1, 0, 0, 0, 0, 0), (76, .invokestatic 63, 3, 201, 1, 1, 11, 0), (79, .aload_n 0, 1, 0, 0, 0, 0, 0), (80, .getfield 10, 3, 11, 0, 8, 0, 0), (83, .getfield 34, 3, 5, 0, 9, 0, 0), (86, .invokevirtual 87, 3, 76, 1, 6, 6, 0), (89, .iconst 2, 1, 0, 0, 0, 0, 2), (90, .iadd, 1, 0, 0, 0, 0, 0), (91, .bipush 40, 2, 0, 0, 0, 0, 40), (93, .if_icmp .gt 36, 3, 0, 0, 0, 0, 0), (96, .aload_n 0, 1, 0, 0, 0, 0, 0), (97, .getfield 10, 3, 11, 0, 8, 0, 0), (100, .iload_n 1, 1, 0, 0, 0, 0, 0), (101, .iload_n 2, 1, 0, 0, 0, 0, 0), (102, .iload 5, 2, 0, 0, 0, 0, 0), (104, .invokevirtual 70, 3, 58, 4, 5, 5, 0), (107, .ifCond .eq 22, 3, 0, 0, 0, 0, 0), (110, .aload_n 0, 1, 0, 0, 0, 0, 0), (111, .getfield 10, 3, 11, 0, 8, 0, 0), (114, .iload_n 1, 1, 0, 0, 0, 0, 0), (115, .iload_n 2, 1, 0, 0, 0, 0, 0), (116, .iload 5, 2, 0, 0, 0, 0, 0), (118, .ineg, 1, 0, 0, 0, 0, 0), (119, .invokevirtual 70, 3, 58, 4, 5, 5, 0), (122, .ifCond .eq 7, 3, 0, 0, 0, 0, 0), (125, .iconst 1, 1, 0, 0, 0, 0, 1), (126, .goto 4, 3, 0, 0, 0, 0, 0), (129, .iconst 0, 1, 0, 0, 0, 0, 0), (130, .invokestatic 73, 3, 202, 1, 1, 11, 0), (133, .aload_n 0, 1, 0, 0, 0, 0, 0), (134, .aload_n 0, 1, 0, 0, 0, 0, 0), (135, .getfield 10, 3, 11, 0, 8, 0, 0), (138, .aload_n 0, 1, 0, 0, 0, 0, 0), (139, .bipush 6, 2, 0, 0, 0, 0, 6), (141, .iload_n 1, 1, 0, 0, 0, 0, 0), (142, .iload_n 2, 1, 0, 0, 0, 0, 0), (143, .iload_n 3, 1, 0, 0, 0, 0, 0), (144, .iload 4, 2, 0, 0, 0, 0, 0), (146, .iload 5, 2, 0, 0, 0, 0, 0), (148, .iconst 0, 1, 0, 0, 0, 0, 0), (149, .invokevirtual 76, 3, 210, 8, 9, 11, 0), (152, .invokevirtual 80, 3, 211, 3, 11, 11, 0), (155, .ireturn, 1, 0, 0, 0, 0, 0)]
set_option maxRecDepth 100000 in
theorem yr158 : Y158.all (rok3 158) = true := by decide +kernel
set_option maxRecDepth 100000 in
theorem yk158 : T3OK 158 Y158 := t3_ok (K := K158) rfl (fun h => d158 h) yr158
set_option maxRecDepth 100000 in
theorem nh158 : lk hT 158 = none := by decide +kernel
def Y159 : List YR := [(0, .aload_n 0, 1, 0, 0, 0, 0, 0), (1, .getfield 10, 3, 11, 0, 8, 0, 0), (4, .getfield 34, 3, 5, 0, 9, 0, 0), (7, .iload_n 1, 1, 0, 0, 0, 0, 0), (8, .invokevirtual 91, 3, 75, 2, 6, 6, 0), (11, .astore_n 2, 1, 0, 0, 0, 0, 0), (12, .aload_n 2, 1, 0, 0, 0, 0, 0), (13, .ifnonnull 13, 3, 0, 0, 0, 0, 0), (16, .new 95, 3, 0, 0, 0, 0, 0), (19, .dup, 1, 0, 0, 0, 0, 0), (20, .ldc 97, 2, 1, 0, 0, 0, 0), (22, .invokespecial 99, 3, 0, 0, 0, 0, 9), (25, .athrow, 1, 0, 0, 0, 0, 0), (26, .aload_n 2, 1, 0, 0, 0, 0, 0), (27, .getfield 102, 3, 10, 4, 4, 0, 0), (30, .aload_n 0, 1, 0, 0, 0, 0, 0), (31, .getfield 10, 3, 11, 0, 8, 0, 0), (34, .getfield 34, 3, 5, 0, 9, 0, 0), (37, .getfield 108, 3, 6, 2, 0, 0, 0), (40, .invokevirtual 112, 3, 14, 2, 2, 1, 0), (43, .ifCond .ne 7, 3, 0, 0, 0, 0, 0), (46, .iconst 1, 1, 0, 0, 0, 0, 1), (47, .goto 4, 3, 0, 0, 0, 0, 0), (50, .iconst 0, 1, 0, 0, 0, 0, 0), (51, .invokestatic 73, 3, 202, 1, 1, 11, 0), (54, .aload_n 0, 1, 0, 0, 0, 0, 0), (55, .aload_n 0, 1, 0, 0, 0, 0, 0), (56, .getfield 10, 3, 11, 0, 8, 0, 0), (59, .aload_n 0, 1, 0, 0, 0, 0, 0), (60, .bipush 7, 2, 0, 0, 0, 0, 7), (62, .iload_n 1, 1, 0, 0, 0, 0, 0), (63, .iconst 0, 1, 0, 0, 0, 0, 0), (64, .iconst 0, 1, 0, 0, 0, 0, 0), (65, .iconst 0, 1, 0, 0, 0, 0, 0), (66, .iconst 0, 1, 0, 0, 0, 0, 0), (67, .iconst 0, 1, 0, 0, 0, 0, 0), (68, .invokevirtual 76, 3, 210, 8, 9, 11, 0), (71, .invokevirtual 80, 3, 211, 3, 11, 11, 0), (74, .ireturn, 1, 0, 0, 0, 0, 0)]
set_option maxRecDepth 100000 in
theorem yr159 : Y159.all (rok3 159) = true := by decide +kernel
set_option maxRecDepth 100000 in
theorem yk159 : T3OK 159 Y159 := t3_ok (K := K159) rfl (fun h => d159 h) yr159
set_option maxRecDepth 100000 in
theorem nh159 : lk hT 159 = none := by decide +kernel
def Y164 : List YR := [(0, .iload_n 1, 1, 0, 0, 0, 0, 0), (1, .invokestatic 27, 3, 205, 1, 1, 11, 0), (4, .invokestatic 30, 3, 200, 1, 1, 11, 0), (7, .iload_n 2, 1, 0, 0, 0, 0, 0), (8, .iconst 1, 1, 0, 0, 0, 0, 1), (9, .bipush 20, 2, 0, 0, 0, 0, 20), (11, .invokestatic 59, 3, 203, 3, 3, 11, 0), (14, .ifCond .eq 27, 3, 0, 0, 0, 0, 0), (17, .iload_n 3, 1, 0, 0, 0, 0, 0), (18, .iconst 0, 1, 0, 0, 0, 0, 0), (19, .iload_n 2, 1, 0, 0, 0, 0, 0), (20, .invokestatic 59, 3, 203, 3, 3, 11, 0), (23, .ifCond .eq 18, 3, 0, 0, 0, 0, 0), (26, .iload 4, 2, 0, 0, 0, 0, 0), (28, .iconst 0, 1, 0, 0, 0, 0, 0), (29, .bipush 9, 2, 0, 0, 0, 0, 9), (31, .invokestatic 59, 3, 203, 3, 3, 11, 0), (34, .ifCond .eq 7, 3, 0, 0, 0, 0, 0), (37, .iconst 1, 1, 0, 0, 0, 0, 1), (38, .goto 4, 3, 0, 0, 0, 0, 0), (41, .iconst 0, 1, 0, 0, 0, 0, 0), (42, .invokestatic 63, 3, 201, 1, 1, 11, 0), (45, .aload_n 0, 1, 0, 0, 0, 0, 0), (46, .getfield 10, 3, 11, 0, 8, 0, 0), (49, .getfield 34, 3, 5, 0, 9, 0, 0), (52, .iload_n 1, 1, 0, 0, 0, 0, 0), (53, .invokevirtual 38, 3, 74, 2, 2, 6, 0), (56, .getfield 66, 3, 1, 5, 1, 0, 0), (59, .ifCond .ne 7, 3, 0, 0, 0, 0, 0), (62, .iconst 1, 1, 0, 0, 0, 0, 1), (63, .goto 4, 3, 0, 0, 0, 0, 0), (66, .iconst 0, 1, 0, 0, 0, 0, 0), (67, .invokestatic 73, 3, 202, 1, 1, 11, 0), (70, .aload_n 0, 1, 0, 0, 0, 0, 0), (71, .aload_n 0, 1, 0, 0, 0, 0, 0), (72, .getfield 10, 3, 11, 0, 8, 0, 0), (75, .aload_n 0, 1, 0, 0, 0, 0, 0), (76, .bipush 12, 2, 0, 0, 0, 0, 12), (78, .iload_n 1, 1, 0, 0, 0, 0, 0), (79, .iload_n 2, 1, 0, 0, 0, 0, 0), (80, .iload_n 3, 1, 0, 0, 0, 0, 0), (81, .iload 4, 2, 0, 0, 0, 0, 0), (83, .iconst 0, 1, 0, 0, 0, 0, 0), (84, .iconst 0, 1, 0, 0, 0, 0, 0), (85, .invokevirtual 76, 3, 210, 8, 9, 11, 0), (88, .invokevirtual 80, 3, 211, 3, 11, 11, 0), (91, .ireturn, 1, 0, 0, 0, 0, 0)]
set_option maxRecDepth 100000 in
theorem yr164 : Y164.all (rok3 164) = true := by decide +kernel
set_option maxRecDepth 100000 in
theorem yk164 : T3OK 164 Y164 := t3_ok (K := K164) rfl (fun h => d164 h) yr164
set_option maxRecDepth 100000 in
theorem nh164 : lk hT 164 = none := by decide +kernel
section Face3
variable {P0 P1 Q Q2 : PM} {cl : Nat → Int32} {kp fo : Int32} {ou : Int64} {L e N T D t : Nat} {xs lg : Nat → Int32} {a b c d x f : Int32}
theorem fc_0 (I : IV lg P0 Q2 N T D t) (ht : t < 512) (hg : Gr 0 P0) (HO : kLimit P0 a b c d x f = 0 → gE P0 a b c d x f 0 ∧ g5_work (vE P0 a b c d x f 0).2) : X 153 0 [rR 3 11 1, vI a, vI b, vI c, vI d, vI x, vI f, vJ] [] (mm P0 P1 Q cl (cn t) kp fo ou L xs e) = evR (kLimit P0 a b c d x f) [0, 1, 2] (okO P0 P1 Q cl kp fo ou L xs e t 0 a b c d x f) (mm P0 P1 Q cl (cn t) kp fo ou L xs e) := by
  refine y_cal yk153 2 4 rfl x_isTrader ?_
  by_cases h1 : isW a (cn 0) (cn 7) = 0
  · refine y_ifT yk153 0 4 18 rfl rfl rfl (decide_eq_true h1) ?_
    have hk : kLimit P0 a b c d x f = 1 := by unfold kLimit kLimS; (try simp only [if_pos h1]); (try (repeat' (first | rfl | split)))
    exact y_thr yk153 2 22 rfl (x_np0 rfl) (by decide +kernel) nh153 (by rw [hk]; rfl)
  · refine y_ifF yk153 0 4 7 rfl rfl rfl (by decide) (decide_eq_false h1) ?_
    refine y_cal yk153 2 11 rfl x_isBook ?_
    by_cases h2 : isW b (cn 0) (cn 5) = 0
    · refine y_ifT yk153 0 11 18 rfl rfl rfl (decide_eq_true h2) ?_
      have hk : kLimit P0 a b c d x f = 1 := by unfold kLimit kLimS; (try simp only [if_neg h1, if_pos h2]); (try (repeat' (first | rfl | split)))
      exact y_thr yk153 2 22 rfl (x_np0 rfl) (by decide +kernel) nh153 (by rw [hk]; rfl)
    · refine y_ifF yk153 0 11 14 rfl rfl rfl (by decide) (decide_eq_false h2) ?_
      refine y_go yk153 2 19 rfl ?_
      refine y_ca0 yk153 1 22 rfl (x_np1 (by decide)) ?_
      refine y_gfr yk153 1 23 26 5 1 0 rfl rfl rfl rfl rfl rfl (by decide) ?_
      refine y_gfr yk153 0 26 29 6 1 0 rfl rfl rfl rfl rfl (hg.1 (5, 0, 1) (by decide)) (by decide) ?_
      have e1 := x_R (M := (mm P0 P1 Q cl (cn t) kp fo ou L xs e)) okx0 (fb5 P0 h2).2 (t6_bookAt P0 hg b (fb5 P0 h2).1)
      refine y_cal yk153 2 33 rfl e1 ?_
      have e1 := x_I' (M := (mm P0 P1 Q cl (cn t) kp fo ou L xs e)) okx0 (t1_hasPrice P0 hg (v6_bookAt P0 b) c (gprice P0 (fb5 P0 h2).2)) (by show vR _ _ _ :: _ = _; rw [vR_pos (fb5 P0 h2).2]; try rfl)
      refine y_cal yk153 2 37 rfl e1 ?_
      by_cases h3 : v1_hasPrice P0 (v6_bookAt P0 b) c = 0
      · refine y_ifT yk153 0 37 85 rfl rfl rfl (decide_eq_true h3) ?_
        have hk : kLimit P0 a b c d x f = 2 := by unfold kLimit kLimS; (try simp only [if_neg h1, if_neg h2, if_pos h3]); (try (repeat' (first | rfl | split)))
        exact y_thr yk153 2 89 rfl (x_nr0 rfl) (by decide +kernel) nh153 (by rw [hk]; rfl)
      · refine y_ifF yk153 0 37 40 rfl rfl rfl (by decide) (decide_eq_false h3) ?_
        refine y_cal yk153 2 45 rfl x_isQ ?_
        by_cases h4 : isW d (cn (-50)) (cn 50) = 0
        · have hz4 : isQ d = 0 := by unfold isQ; exact if_pos h4
          refine y_ifT yk153 0 45 85 rfl rfl rfl (decide_eq_true hz4) ?_
          have hk : kLimit P0 a b c d x f = 2 := by unfold kLimit kLimS; (try simp only [if_neg h1, if_neg h2, if_neg h3, if_pos h4]); (try (repeat' (first | rfl | split)))
          exact y_thr yk153 2 89 rfl (x_nr0 rfl) (by decide +kernel) nh153 (by rw [hk]; rfl)
        · by_cases h5 : d = 0
          · have hz5 : isQ d = 0 := by unfold isQ; rw [if_neg h4]; exact if_pos h5
            refine y_ifT yk153 0 45 85 rfl rfl rfl (decide_eq_true hz5) ?_
            have hk : kLimit P0 a b c d x f = 2 := by unfold kLimit kLimS; (try simp only [if_neg h1, if_neg h2, if_neg h3, if_neg h4, if_pos h5]); (try (repeat' (first | rfl | split)))
            exact y_thr yk153 2 89 rfl (x_nr0 rfl) (by decide +kernel) nh153 (by rw [hk]; rfl)
          · have hz5 : ¬ isQ d = 0 := by unfold isQ; rw [if_neg h4, if_neg h5]; decide
            refine y_ifF yk153 0 45 48 rfl rfl rfl (by decide) (decide_eq_false hz5) ?_
            by_cases h6 : x < 0
            · have h7 : isW x (cn 0) (v14_abs_0f7a4 P0 d) = 0 := by unfold isW; exact if_pos h6
              refine y_ifT yk153 1 50 85 rfl rfl rfl (decide_eq_true h6) ?_
              have hk : kLimit P0 a b c d x f = 2 := by unfold kLimit kLimS; (try simp only [if_neg h1, if_neg h2, if_neg h3, if_neg h4, if_neg h5, if_pos h6, if_pos h7]); (try (repeat' (first | rfl | split)))
              exact y_thr yk153 2 89 rfl (x_nr0 rfl) (by decide +kernel) nh153 (by rw [hk]; rfl)
            · refine y_ifF yk153 1 50 53 rfl rfl rfl (by decide) (decide_eq_false h6) ?_
              have e1 := x_I (M := (mm P0 P1 Q cl (cn t) kp fo ou L xs e)) okx0 (t14_abs_0f7a4 P0 hg d (gabs P0))
              refine y_cal yk153 3 60 rfl e1 ?_
              by_cases h8 : (v14_abs_0f7a4 P0 d) < x
              · have h9 : isW x (cn 0) (v14_abs_0f7a4 P0 d) = 0 := by have hx : ¬ x < cn 0 := h6; unfold isW; rw [if_neg hx]; exact if_pos h8
                refine y_icT yk153 0 60 85 rfl rfl rfl (decide_eq_true h8) ?_
                have hk : kLimit P0 a b c d x f = 2 := by unfold kLimit kLimS; (try simp only [if_neg h1, if_neg h2, if_neg h3, if_neg h4, if_neg h5, if_neg h6, if_pos h8, if_pos h9]); (try (repeat' (first | rfl | split)))
                exact y_thr yk153 2 89 rfl (x_nr0 rfl) (by decide +kernel) nh153 (by rw [hk]; rfl)
              · have h10 : ¬ isW x (cn 0) (v14_abs_0f7a4 P0 d) = 0 := by have hx : ¬ x < cn 0 := h6; unfold isW; rw [if_neg hx, if_neg h8]; decide
                refine y_icF yk153 0 60 63 rfl rfl rfl (by decide) (decide_eq_false h8) ?_
                by_cases h11 : f = (cn (-100000))
                · have h12 : isW f (cn 0) (cn 9) = 0 := by rw [h11]; decide
                  refine y_icT yk153 2 67 81 rfl rfl rfl (decide_eq_true h11) ?_
                  refine y_go yk153 2 86 rfl ?_
                  refine y_ca0 yk153 1 89 rfl (x_nr1 (by decide)) ?_
                  refine y_gfr yk153 1 90 93 5 1 0 rfl rfl rfl rfl rfl rfl (by decide) ?_
                  refine y_gfr yk153 0 93 96 6 1 0 rfl rfl rfl rfl rfl (hg.1 (5, 0, 1) (by decide)) (by decide) ?_
                  have e1 := x_R (M := (mm P0 P1 Q cl (cn t) kp fo ou L xs e)) okx0 (fb5 P0 h2).2 (t6_bookAt P0 hg b (fb5 P0 h2).1)
                  refine y_cal yk153 2 100 rfl e1 ?_
                  refine y_gfr yk153 3 106 109 5 1 0 rfl rfl rfl rfl rfl rfl (by decide) ?_
                  have e1 := x_I (M := (mm P0 P1 Q cl (cn t) kp fo ou L xs e)) okx0 (t5_admits P0 hg a b d (gadm I (by omega) h1 h2 h4 h5))
                  refine y_cal yk153 4 116 rfl e1 ?_
                  by_cases h13 : v5_admits P0 a b d = 0
                  · refine y_ifT yk153 0 116 140 rfl rfl rfl (decide_eq_true h13) ?_
                    have hk : kLimit P0 a b c d x f = 3 := by unfold kLimit kLimS; (try simp only [if_neg h1, if_neg h2, if_neg h3, if_neg h4, if_neg h5, if_neg h6, if_neg h8, if_neg h10, if_pos h11, if_pos h12, if_pos h13]); (try (repeat' (first | rfl | split)))
                    exact y_thr yk153 2 144 rfl (x_ns0 rfl) (by decide +kernel) nh153 (by rw [hk]; rfl)
                  · refine y_ifF yk153 0 116 119 rfl rfl rfl (by decide) (decide_eq_false h13) ?_
                    by_cases h14 : P0.1 1 (v6_bookAt P0 b) 5 = 0
                    · refine y_ifT yk153 1 121 136 rfl rfl rfl (decide_eq_true h14) ?_
                      refine y_go yk153 2 141 rfl ?_
                      refine y_ca0 yk153 1 144 rfl (x_ns1 (by decide)) ?_
                      refine y_gfr yk153 2 146 149 5 1 0 rfl rfl rfl rfl rfl rfl (by decide) ?_
                      have hk : kLimit P0 a b c d x f = 0 := by unfold kLimit kLimS; (try simp only [if_neg h1, if_neg h2, if_neg h3, if_neg h4, if_neg h5, if_neg h6, if_neg h8, if_neg h10, if_pos h11, if_pos h12, if_neg h13, if_pos h14]); (try (repeat' (first | rfl | split)))
                      obtain ⟨G, W⟩ := HO hk
                      refine y_cal yk153 9 163 rfl (x_enter ht _ _ _ _ _ _ _) ?_
                      refine y_cal yk153 1 166 rfl (x_play_c (k := 0) (by decide) ht hg G W) ?_
                      exact y_ret yk153 1 rfl (by rw [hk]; rfl)
                    · refine y_ifF yk153 1 121 124 rfl rfl rfl (by decide) (decide_eq_false h14) ?_
                      refine y_icT yk153 2 128 140 rfl rfl rfl (decide_eq_true h11) ?_
                      have hk : kLimit P0 a b c d x f = 3 := by unfold kLimit kLimS; (try simp only [if_neg h1, if_neg h2, if_neg h3, if_neg h4, if_neg h5, if_neg h6, if_neg h8, if_neg h10, if_pos h11, if_pos h12, if_neg h13, if_neg h14]); (try (repeat' (first | rfl | split)))
                      exact y_thr yk153 2 144 rfl (x_ns0 rfl) (by decide +kernel) nh153 (by rw [hk]; rfl)
                · refine y_icF yk153 2 67 70 rfl rfl rfl (by decide) (decide_eq_false h11) ?_
                  refine y_cal yk153 4 78 rfl x_isW ?_
                  by_cases h15 : isW f (cn 0) (cn 9) = 0
                  · refine y_ifT yk153 0 78 85 rfl rfl rfl (decide_eq_true h15) ?_
                    have hk : kLimit P0 a b c d x f = 2 := by unfold kLimit kLimS; (try simp only [if_neg h1, if_neg h2, if_neg h3, if_neg h4, if_neg h5, if_neg h6, if_neg h8, if_neg h10, if_neg h11, if_pos h15]); (try (repeat' (first | rfl | split)))
                    exact y_thr yk153 2 89 rfl (x_nr0 rfl) (by decide +kernel) nh153 (by rw [hk]; rfl)
                  · refine y_ifF yk153 0 78 81 rfl rfl rfl (by decide) (decide_eq_false h15) ?_
                    refine y_go yk153 2 86 rfl ?_
                    refine y_ca0 yk153 1 89 rfl (x_nr1 (by decide)) ?_
                    refine y_gfr yk153 1 90 93 5 1 0 rfl rfl rfl rfl rfl rfl (by decide) ?_
                    refine y_gfr yk153 0 93 96 6 1 0 rfl rfl rfl rfl rfl (hg.1 (5, 0, 1) (by decide)) (by decide) ?_
                    have e1 := x_R (M := (mm P0 P1 Q cl (cn t) kp fo ou L xs e)) okx0 (fb5 P0 h2).2 (t6_bookAt P0 hg b (fb5 P0 h2).1)
                    refine y_cal yk153 2 100 rfl e1 ?_
                    refine y_gfr yk153 3 106 109 5 1 0 rfl rfl rfl rfl rfl rfl (by decide) ?_
                    have e1 := x_I (M := (mm P0 P1 Q cl (cn t) kp fo ou L xs e)) okx0 (t5_admits P0 hg a b d (gadm I (by omega) h1 h2 h4 h5))
                    refine y_cal yk153 4 116 rfl e1 ?_
                    by_cases h16 : v5_admits P0 a b d = 0
                    · refine y_ifT yk153 0 116 140 rfl rfl rfl (decide_eq_true h16) ?_
                      have hk : kLimit P0 a b c d x f = 3 := by unfold kLimit kLimS; (try simp only [if_neg h1, if_neg h2, if_neg h3, if_neg h4, if_neg h5, if_neg h6, if_neg h8, if_neg h10, if_neg h11, if_neg h15, if_pos h16]); (try (repeat' (first | rfl | split)))
                      exact y_thr yk153 2 144 rfl (x_ns0 rfl) (by decide +kernel) nh153 (by rw [hk]; rfl)
                    · refine y_ifF yk153 0 116 119 rfl rfl rfl (by decide) (decide_eq_false h16) ?_
                      by_cases h17 : P0.1 1 (v6_bookAt P0 b) 5 = 0
                      · refine y_ifT yk153 1 121 136 rfl rfl rfl (decide_eq_true h17) ?_
                        refine y_go yk153 2 141 rfl ?_
                        refine y_ca0 yk153 1 144 rfl (x_ns1 (by decide)) ?_
                        refine y_gfr yk153 2 146 149 5 1 0 rfl rfl rfl rfl rfl rfl (by decide) ?_
                        have hk : kLimit P0 a b c d x f = 0 := by unfold kLimit kLimS; (try simp only [if_neg h1, if_neg h2, if_neg h3, if_neg h4, if_neg h5, if_neg h6, if_neg h8, if_neg h10, if_neg h11, if_neg h15, if_neg h16, if_pos h17]); (try (repeat' (first | rfl | split)))
                        obtain ⟨G, W⟩ := HO hk
                        refine y_cal yk153 9 163 rfl (x_enter ht _ _ _ _ _ _ _) ?_
                        refine y_cal yk153 1 166 rfl (x_play_c (k := 0) (by decide) ht hg G W) ?_
                        exact y_ret yk153 1 rfl (by rw [hk]; rfl)
                      · refine y_ifF yk153 1 121 124 rfl rfl rfl (by decide) (decide_eq_false h17) ?_
                        refine y_icF yk153 2 128 131 rfl rfl rfl (by decide) (decide_eq_false h11) ?_
                        by_cases h18 : 0 < x
                        · refine y_ifT yk153 1 133 140 rfl rfl rfl (decide_eq_true h18) ?_
                          have hk : kLimit P0 a b c d x f = 3 := by unfold kLimit kLimS; (try simp only [if_neg h1, if_neg h2, if_neg h3, if_neg h4, if_neg h5, if_neg h6, if_neg h8, if_neg h10, if_neg h11, if_neg h15, if_neg h16, if_neg h17, if_pos h18]); (try (repeat' (first | rfl | split)))
                          exact y_thr yk153 2 144 rfl (x_ns0 rfl) (by decide +kernel) nh153 (by rw [hk]; rfl)
                        · refine y_ifF yk153 1 133 136 rfl rfl rfl (by decide) (decide_eq_false h18) ?_
                          refine y_go yk153 2 141 rfl ?_
                          refine y_ca0 yk153 1 144 rfl (x_ns1 (by decide)) ?_
                          refine y_gfr yk153 2 146 149 5 1 0 rfl rfl rfl rfl rfl rfl (by decide) ?_
                          have hk : kLimit P0 a b c d x f = 0 := by unfold kLimit kLimS; (try simp only [if_neg h1, if_neg h2, if_neg h3, if_neg h4, if_neg h5, if_neg h6, if_neg h8, if_neg h10, if_neg h11, if_neg h15, if_neg h16, if_neg h17, if_neg h18]); (try (repeat' (first | rfl | split)))
                          obtain ⟨G, W⟩ := HO hk
                          refine y_cal yk153 9 163 rfl (x_enter ht _ _ _ _ _ _ _) ?_
                          refine y_cal yk153 1 166 rfl (x_play_c (k := 0) (by decide) ht hg G W) ?_
                          exact y_ret yk153 1 rfl (by rw [hk]; rfl)
theorem fc_5 (I : IV lg P0 Q2 N T D t) (ht : t < 512) (hg : Gr 0 P0) (HO : kQuote P0 a b c d x = 0 → gE P0 a b c d x (cn 0) 5 ∧ g5_work (vE P0 a b c d x (cn 0) 5).2) : X 158 0 [rR 3 11 1, vI a, vI b, vI c, vI d, vI x, vJ] [] (mm P0 P1 Q cl (cn t) kp fo ou L xs e) = evR (kQuote P0 a b c d x) [0, 1, 2] (okO P0 P1 Q cl kp fo ou L xs e t 5 a b c d x (cn 0)) (mm P0 P1 Q cl (cn t) kp fo ou L xs e) := by
  refine y_cal yk158 2 4 rfl x_isTrader ?_
  by_cases h1 : isW a (cn 0) (cn 7) = 0
  · refine y_ifT yk158 0 4 18 rfl rfl rfl (decide_eq_true h1) ?_
    have hk : kQuote P0 a b c d x = 1 := by unfold kQuote; (try simp only [if_pos h1]); (try (repeat' (first | rfl | split)))
    exact y_thr yk158 2 22 rfl (x_np0 rfl) (by decide +kernel) nh158 (by rw [hk]; rfl)
  · refine y_ifF yk158 0 4 7 rfl rfl rfl (by decide) (decide_eq_false h1) ?_
    refine y_cal yk158 2 11 rfl x_isBook ?_
    by_cases h2 : isW b (cn 0) (cn 5) = 0
    · refine y_ifT yk158 0 11 18 rfl rfl rfl (decide_eq_true h2) ?_
      have hk : kQuote P0 a b c d x = 1 := by unfold kQuote; (try simp only [if_neg h1, if_pos h2]); (try (repeat' (first | rfl | split)))
      exact y_thr yk158 2 22 rfl (x_np0 rfl) (by decide +kernel) nh158 (by rw [hk]; rfl)
    · refine y_ifF yk158 0 11 14 rfl rfl rfl (by decide) (decide_eq_false h2) ?_
      refine y_go yk158 2 19 rfl ?_
      refine y_ca0 yk158 1 22 rfl (x_np1 (by decide)) ?_
      refine y_gfr yk158 1 23 26 5 1 0 rfl rfl rfl rfl rfl rfl (by decide) ?_
      refine y_gfr yk158 0 26 29 6 1 0 rfl rfl rfl rfl rfl (hg.1 (5, 0, 1) (by decide)) (by decide) ?_
      have e1 := x_R (M := (mm P0 P1 Q cl (cn t) kp fo ou L xs e)) okx0 (fb5 P0 h2).2 (t6_bookAt P0 hg b (fb5 P0 h2).1)
      refine y_cal yk158 2 33 rfl e1 ?_
      have e1 := x_I' (M := (mm P0 P1 Q cl (cn t) kp fo ou L xs e)) okx0 (t1_hasPrice P0 hg (v6_bookAt P0 b) c (gprice P0 (fb5 P0 h2).2)) (by show vR _ _ _ :: _ = _; rw [vR_pos (fb5 P0 h2).2]; try rfl)
      refine y_cal yk158 4 41 rfl e1 ?_
      by_cases h3 : v1_hasPrice P0 (v6_bookAt P0 b) c = 0
      · refine y_ifT yk158 0 41 75 rfl rfl rfl (decide_eq_true h3) ?_
        have hk : kQuote P0 a b c d x = 2 := by unfold kQuote; (try simp only [if_neg h1, if_neg h2, if_pos h3]); (try (repeat' (first | rfl | split)))
        exact y_thr yk158 2 79 rfl (x_nr0 rfl) (by decide +kernel) nh158 (by rw [hk]; rfl)
      · refine y_ifF yk158 0 41 44 rfl rfl rfl (by decide) (decide_eq_false h3) ?_
        have e1 := x_I' (M := (mm P0 P1 Q cl (cn t) kp fo ou L xs e)) okx0 (t1_hasPrice P0 hg (v6_bookAt P0 b) d (gprice P0 (fb5 P0 h2).2)) (by show vR _ _ _ :: _ = _; rw [vR_pos (fb5 P0 h2).2]; try rfl)
        refine y_cal yk158 3 51 rfl e1 ?_
        by_cases h4 : v1_hasPrice P0 (v6_bookAt P0 b) d = 0
        · refine y_ifT yk158 0 51 75 rfl rfl rfl (decide_eq_true h4) ?_
          have hk : kQuote P0 a b c d x = 2 := by unfold kQuote; (try simp only [if_neg h1, if_neg h2, if_neg h3, if_pos h4]); (try (repeat' (first | rfl | split)))
          exact y_thr yk158 2 79 rfl (x_nr0 rfl) (by decide +kernel) nh158 (by rw [hk]; rfl)
        · refine y_ifF yk158 0 51 54 rfl rfl rfl (by decide) (decide_eq_false h4) ?_
          by_cases h5 : c < d
          · refine y_icF yk158 2 57 60 rfl rfl rfl (by decide) (decide_eq_false (fun h9 => absurd h5 (Int32.not_lt.mpr h9))) ?_
            refine y_cal yk158 4 68 rfl x_isW ?_
            by_cases h6 : isW x (cn 1) (cn 50) = 0
            · refine y_ifT yk158 0 68 75 rfl rfl rfl (decide_eq_true h6) ?_
              have hk : kQuote P0 a b c d x = 2 := by unfold kQuote; (try simp only [if_neg h1, if_neg h2, if_neg h3, if_neg h4, if_pos h5, if_pos h6]); (try (repeat' (first | rfl | split)))
              exact y_thr yk158 2 79 rfl (x_nr0 rfl) (by decide +kernel) nh158 (by rw [hk]; rfl)
            · refine y_ifF yk158 0 68 71 rfl rfl rfl (by decide) (decide_eq_false h6) ?_
              refine y_go yk158 2 76 rfl ?_
              refine y_ca0 yk158 1 79 rfl (x_nr1 (by decide)) ?_
              refine y_gfr yk158 1 80 83 5 1 0 rfl rfl rfl rfl rfl rfl (by decide) ?_
              refine y_gfr yk158 0 83 86 6 1 0 rfl rfl rfl rfl rfl (hg.1 (5, 0, 1) (by decide)) (by decide) ?_
              have e1 := x_I (M := (mm P0 P1 Q cl (cn t) kp fo ou L xs e)) okx0 (t6_countLive P0 hg  (g_liveP P0))
              refine y_cal yk158 1 89 rfl e1 ?_
              by_cases h7 : (cn 40) < ((v6_countLive P0) + (cn 2))
              · refine y_icT yk158 3 93 129 rfl rfl rfl (decide_eq_true h7) ?_
                have hk : kQuote P0 a b c d x = 3 := by unfold kQuote; (try simp only [if_neg h1, if_neg h2, if_neg h3, if_neg h4, if_pos h5, if_neg h6, if_pos h7]); (try (repeat' (first | rfl | split)))
                exact y_thr yk158 2 133 rfl (x_ns0 rfl) (by decide +kernel) nh158 (by rw [hk]; rfl)
              · refine y_icF yk158 3 93 96 rfl rfl rfl (by decide) (decide_eq_false h7) ?_
                refine y_gfr yk158 1 97 100 5 1 0 rfl rfl rfl rfl rfl rfl (by decide) ?_
                have e1 := x_I (M := (mm P0 P1 Q cl (cn t) kp fo ou L xs e)) okx0 (t5_admits P0 hg a b x (gadmq I (by omega) h1 h2 h6).1)
                refine y_cal yk158 4 107 rfl e1 ?_
                by_cases h8 : v5_admits P0 a b x = 0
                · refine y_ifT yk158 0 107 129 rfl rfl rfl (decide_eq_true h8) ?_
                  have hk : kQuote P0 a b c d x = 3 := by unfold kQuote; (try simp only [if_neg h1, if_neg h2, if_neg h3, if_neg h4, if_pos h5, if_neg h6, if_neg h7, if_pos h8]); (try (repeat' (first | rfl | split)))
                  exact y_thr yk158 2 133 rfl (x_ns0 rfl) (by decide +kernel) nh158 (by rw [hk]; rfl)
                · refine y_ifF yk158 0 107 110 rfl rfl rfl (by decide) (decide_eq_false h8) ?_
                  refine y_gfr yk158 1 111 114 5 1 0 rfl rfl rfl rfl rfl rfl (by decide) ?_
                  have e1 := x_I (M := (mm P0 P1 Q cl (cn t) kp fo ou L xs e)) okx0 (t5_admits P0 hg a b (-x) (gadmq I (by omega) h1 h2 h6).2)
                  refine y_cal yk158 5 122 rfl e1 ?_
                  by_cases h9 : v5_admits P0 a b (-x) = 0
                  · refine y_ifT yk158 0 122 129 rfl rfl rfl (decide_eq_true h9) ?_
                    have hk : kQuote P0 a b c d x = 3 := by unfold kQuote; (try simp only [if_neg h1, if_neg h2, if_neg h3, if_neg h4, if_pos h5, if_neg h6, if_neg h7, if_neg h8, if_pos h9]); (try (repeat' (first | rfl | split)))
                    exact y_thr yk158 2 133 rfl (x_ns0 rfl) (by decide +kernel) nh158 (by rw [hk]; rfl)
                  · refine y_ifF yk158 0 122 125 rfl rfl rfl (by decide) (decide_eq_false h9) ?_
                    refine y_go yk158 2 130 rfl ?_
                    refine y_ca0 yk158 1 133 rfl (x_ns1 (by decide)) ?_
                    refine y_gfr yk158 2 135 138 5 1 0 rfl rfl rfl rfl rfl rfl (by decide) ?_
                    have hk : kQuote P0 a b c d x = 0 := by unfold kQuote; (try simp only [if_neg h1, if_neg h2, if_neg h3, if_neg h4, if_pos h5, if_neg h6, if_neg h7, if_neg h8, if_neg h9]); (try (repeat' (first | rfl | split)))
                    obtain ⟨G, W⟩ := HO hk
                    refine y_cal yk158 9 152 rfl (x_enter ht _ _ _ _ _ _ _) ?_
                    refine y_cal yk158 1 155 rfl (x_play_c (k := 5) (by decide) ht hg G W) ?_
                    exact y_ret yk158 1 rfl (by rw [hk]; rfl)
          · refine y_icT yk158 2 57 75 rfl rfl rfl (decide_eq_true (Int32.not_lt.mp h5)) ?_
            have hk : kQuote P0 a b c d x = 2 := by unfold kQuote; (try simp only [if_neg h1, if_neg h2, if_neg h3, if_neg h4, if_neg h5]); (try (repeat' (first | rfl | split)))
            exact y_thr yk158 2 79 rfl (x_nr0 rfl) (by decide +kernel) nh158 (by rw [hk]; rfl)
theorem fc_6 (I : IV lg P0 Q2 N T D t) (ht : t < 512) (hg : Gr 0 P0) (HO : kCancel P0 a = 0 → gE P0 a (cn 0) (cn 0) (cn 0) (cn 0) (cn 0) 6 ∧ g5_work (vE P0 a (cn 0) (cn 0) (cn 0) (cn 0) (cn 0) 6).2) : X 159 0 [rR 3 11 1, vI a, vJ] [] (mm P0 P1 Q cl (cn t) kp fo ou L xs e) = evR (kCancel P0 a) [0, 2] (okO P0 P1 Q cl kp fo ou L xs e t 6 a (cn 0) (cn 0) (cn 0) (cn 0) (cn 0)) (mm P0 P1 Q cl (cn t) kp fo ou L xs e) := by
  refine y_gfr yk159 1 1 4 5 1 0 rfl rfl rfl rfl rfl rfl (by decide) ?_
  refine y_gfr yk159 0 4 7 6 1 0 rfl rfl rfl rfl rfl (hg.1 (5, 0, 1) (by decide)) (by decide) ?_
  by_cases h1 : v6_find P0 a = 0
  · have e1 := x_N (M := (mm P0 P1 Q cl (cn t) kp fo ou L xs e)) okx0 h1 (t6_find P0 hg a (gfind I))
    refine y_cal yk159 2 11 rfl e1 ?_
    refine y_go yk159 3 16 rfl ?_
    have hk : kCancel P0 a = 1 := by unfold kCancel; (try simp only [if_pos h1]); (try (repeat' (first | rfl | split)))
    exact y_ret yk159 1 rfl (by rw [hk]; rfl)
  · have e1 := x_R (M := (mm P0 P1 Q cl (cn t) kp fo ou L xs e)) okx0 h1 (t6_find P0 hg a (gfind I))
    refine y_cal yk159 2 11 rfl e1 ?_
    refine y_go yk159 3 26 rfl ?_
    refine y_gfr yk159 1 27 30 1 (P0.2.2 10 (v6_find P0 a) 4) 0 rfl rfl rfl rfl rfl rfl (gfindb I h1) ?_
    refine y_gfr yk159 1 31 34 5 1 0 rfl rfl rfl rfl rfl rfl (by decide) ?_
    refine y_gfr yk159 0 34 37 6 1 0 rfl rfl rfl rfl rfl (hg.1 (5, 0, 1) (by decide)) (by decide) ?_
    have e1 := x_I' (M := (mm P0 P1 Q cl (cn t) kp fo ou L xs e)) okx0 (t1_isFrozen P0 hg (P0.2.2 10 (v6_find P0 a) 4) (P0.1 6 1 2) (gfroz P0 (gfindb I h1))) (by show vR _ _ _ :: _ = _; rw [vR_pos (gfindb I h1)]; try rfl)
    refine y_cal yk159 2 43 rfl e1 ?_
    by_cases h2 : v1_isFrozen P0 (P0.2.2 10 (v6_find P0 a) 4) (P0.1 6 1 2) = 0
    · refine y_ifF yk159 0 43 46 rfl rfl rfl (by decide) (decide_eq_false (fun h9 => h9 h2)) ?_
      refine y_go yk159 2 51 rfl ?_
      refine y_ca0 yk159 1 54 rfl (x_ns1 (by decide)) ?_
      refine y_gfr yk159 2 56 59 5 1 0 rfl rfl rfl rfl rfl rfl (by decide) ?_
      have hk : kCancel P0 a = 0 := by unfold kCancel; (try simp only [if_neg h1, if_pos h2]); (try (repeat' (first | rfl | split)))
      obtain ⟨G, W⟩ := HO hk
      refine y_cal yk159 9 71 rfl (x_enter ht _ _ _ _ _ _ _) ?_
      refine y_cal yk159 1 74 rfl (x_play_c (k := 6) (by decide) ht hg G W) ?_
      exact y_ret yk159 1 rfl (by rw [hk]; rfl)
    · refine y_ifT yk159 0 43 50 rfl rfl rfl (decide_eq_true h2) ?_
      have hk : kCancel P0 a = 2 := by unfold kCancel; (try simp only [if_neg h1, if_neg h2]); (try (repeat' (first | rfl | split)))
      exact y_thr yk159 2 54 rfl (x_ns0 rfl) (by decide +kernel) nh159 (by rw [hk]; rfl)
theorem fc_11 (I : IV lg P0 Q2 N T D t) (ht : t < 512) (hg : Gr 0 P0) (HO : kAuction P0 a b c d = 0 → gE P0 a b c d (cn 0) (cn 0) 11 ∧ g5_work (vE P0 a b c d (cn 0) (cn 0) 11).2) : X 164 0 [rR 3 11 1, vI a, vI b, vI c, vI d] [] (mm P0 P1 Q cl (cn t) kp fo ou L xs e) = evR (kAuction P0 a b c d) [0, 1, 2] (okO P0 P1 Q cl kp fo ou L xs e t 11 a b c d (cn 0) (cn 0)) (mm P0 P1 Q cl (cn t) kp fo ou L xs e) := by
  refine y_cal yk164 2 4 rfl x_isBook ?_
  by_cases h1 : isW a (cn 0) (cn 5) = 0
  · have hk : kAuction P0 a b c d = 1 := by unfold kAuction; (try simp only [if_pos h1]); (try (repeat' (first | rfl | split)))
    exact y_thr yk164 1 7 rfl (x_np0 h1) (by decide +kernel) nh164 (by rw [hk]; rfl)
  · refine y_ca0 yk164 1 7 rfl (x_np1 h1) ?_
    refine y_cal yk164 4 14 rfl x_isW ?_
    by_cases h2 : isW b (cn 1) (cn 20) = 0
    · refine y_ifT yk164 0 14 41 rfl rfl rfl (decide_eq_true h2) ?_
      have hk : kAuction P0 a b c d = 2 := by unfold kAuction; (try simp only [if_neg h1, if_pos h2]); (try (repeat' (first | rfl | split)))
      exact y_thr yk164 2 45 rfl (x_nr0 rfl) (by decide +kernel) nh164 (by rw [hk]; rfl)
    · refine y_ifF yk164 0 14 17 rfl rfl rfl (by decide) (decide_eq_false h2) ?_
      refine y_cal yk164 4 23 rfl x_isW ?_
      by_cases h3 : isW c (cn 0) b = 0
      · refine y_ifT yk164 0 23 41 rfl rfl rfl (decide_eq_true h3) ?_
        have hk : kAuction P0 a b c d = 2 := by unfold kAuction; (try simp only [if_neg h1, if_neg h2, if_pos h3]); (try (repeat' (first | rfl | split)))
        exact y_thr yk164 2 45 rfl (x_nr0 rfl) (by decide +kernel) nh164 (by rw [hk]; rfl)
      · refine y_ifF yk164 0 23 26 rfl rfl rfl (by decide) (decide_eq_false h3) ?_
        refine y_cal yk164 4 34 rfl x_isW ?_
        by_cases h4 : isW d (cn 0) (cn 9) = 0
        · refine y_ifT yk164 0 34 41 rfl rfl rfl (decide_eq_true h4) ?_
          have hk : kAuction P0 a b c d = 2 := by unfold kAuction; (try simp only [if_neg h1, if_neg h2, if_neg h3, if_pos h4]); (try (repeat' (first | rfl | split)))
          exact y_thr yk164 2 45 rfl (x_nr0 rfl) (by decide +kernel) nh164 (by rw [hk]; rfl)
        · refine y_ifF yk164 0 34 37 rfl rfl rfl (by decide) (decide_eq_false h4) ?_
          refine y_go yk164 2 42 rfl ?_
          refine y_ca0 yk164 1 45 rfl (x_nr1 (by decide)) ?_
          refine y_gfr yk164 1 46 49 5 1 0 rfl rfl rfl rfl rfl rfl (by decide) ?_
          refine y_gfr yk164 0 49 52 6 1 0 rfl rfl rfl rfl rfl (hg.1 (5, 0, 1) (by decide)) (by decide) ?_
          have e1 := x_R (M := (mm P0 P1 Q cl (cn t) kp fo ou L xs e)) okx0 (fb5 P0 h1).2 (t6_bookAt P0 hg a (fb5 P0 h1).1)
          refine y_cal yk164 2 56 rfl e1 ?_
          by_cases h5 : P0.1 1 (v6_bookAt P0 a) 5 = 0
          · refine y_ifF yk164 1 59 62 rfl rfl rfl (by decide) (decide_eq_false (fun h9 => h9 h5)) ?_
            refine y_go yk164 2 67 rfl ?_
            refine y_ca0 yk164 1 70 rfl (x_ns1 (by decide)) ?_
            refine y_gfr yk164 2 72 75 5 1 0 rfl rfl rfl rfl rfl rfl (by decide) ?_
            have hk : kAuction P0 a b c d = 0 := by unfold kAuction; (try simp only [if_neg h1, if_neg h2, if_neg h3, if_neg h4, if_pos h5]); (try (repeat' (first | rfl | split)))
            obtain ⟨G, W⟩ := HO hk
            refine y_cal yk164 9 88 rfl (x_enter ht _ _ _ _ _ _ _) ?_
            refine y_cal yk164 1 91 rfl (x_play_c (k := 11) (by decide) ht hg G W) ?_
            exact y_ret yk164 1 rfl (by rw [hk]; rfl)
          · refine y_ifT yk164 1 59 66 rfl rfl rfl (decide_eq_true h5) ?_
            have hk : kAuction P0 a b c d = 3 := by unfold kAuction; (try simp only [if_neg h1, if_neg h2, if_neg h3, if_neg h4, if_neg h5]); (try (repeat' (first | rfl | split)))
            exact y_thr yk164 2 70 rfl (x_ns0 rfl) (by decide +kernel) nh164 (by rw [hk]; rfl)
end Face3
