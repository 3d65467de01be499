/-! the face's calls that are events (bust, adjust, giveUp, allot, exercise, convert) -/
def Y167 : List YR := [(0, .aload_n 0, 1, 0, 0, 0, 0, 0), (1, .iload_n 1, 1, 0, 0, 0, 0, 0), (2, .invokevirtual 119, 3, 209, 2, 3, 11, 0), (5, .getfield 123, 3, 4, 5, 1, 0, 0), (8, .ifCond .ne 7, 3, 0, 0, 0, 0, 0), (11, .iconst 1, 1, 0, 0, 0, 0, 1), (12, .goto 4, 3, 0, 0, 0, 0, 0), (15, .iconst 0, 1, 0, 0, 0, 0, 0), (16, .invokestatic 73, 3, 202, 1, 1, 11, 0), (19, .aload_n 0, 1, 0, 0, 0, 0, 0), (20, .aload_n 0, 1, 0, 0, 0, 0, 0), (21, .getfield 10, 3, 11, 0, 8, 0, 0), (24, .aload_n 0, 1, 0, 0, 0, 0, 0), (25, .bipush 15, 2, 0, 0, 0, 0, 15), (27, .iload_n 1, 1, 0, 0, 0, 0, 0), (28, .iconst 0, 1, 0, 0, 0, 0, 0), (29, .iconst 0, 1, 0, 0, 0, 0, 0), (30, .iconst 0, 1, 0, 0, 0, 0, 0), (31, .iconst 0, 1, 0, 0, 0, 0, 0), (32, .iconst 0, 1, 0, 0, 0, 0, 0), (33, .invokevirtual 76, 3, 210, 8, 9, 11, 0), (36, .invokevirtual 80, 3, 211, 3, 11, 11, 0), (39, .ireturn, 1, 0, 0, 0, 0, 0)]
set_option maxRecDepth 100000 in
theorem yr167 : Y167.all (rok3 167) = true := by decide +kernel
set_option maxRecDepth 100000 in
theorem yk167 : T3OK 167 Y167 := t3_ok (K := K167) rfl (fun h => d167 h) yr167
set_option maxRecDepth 100000 in
theorem nh167 : lk hT 167 = none := by decide +kernel
def Y168 : List YR := [(0, .aload_n 0, 1, 0, 0, 0, 0, 0), (1, .iload_n 1, 1, 0, 0, 0, 0, 0), (2, .invokevirtual 119, 3, 209, 2, 3, 11, 0), (5, .astore_n 3, 1, 0, 0, 0, 0, 0), (6, .aload_n 3, 1, 0, 0, 0, 0, 0), (7, .getfield 128, 3, 4, 0, 4, 0, 0), (10, .iload_n 2, 1, 0, 0, 0, 0, 0), (11, .invokevirtual 44, 3, 11, 2, 2, 1, 0), (14, .invokestatic 63, 3, 201, 1, 1, 11, 0), (17, .aload_n 3, 1, 0, 0, 0, 0, 0), (18, .getfield 123, 3, 4, 5, 1, 0, 0), (21, .ifCond .ne 7, 3, 0, 0, 0, 0, 0), (24, .iconst 1, 1, 0, 0, 0, 0, 1), (25, .goto 4, 3, 0, 0, 0, 0, 0), (28, .iconst 0, 1, 0, 0, 0, 0, 0), (29, .invokestatic 73, 3, 202, 1, 1, 11, 0), (32, .aload_n 0, 1, 0, 0, 0, 0, 0), (33, .aload_n 0, 1, 0, 0, 0, 0, 0), (34, .getfield 10, 3, 11, 0, 8, 0, 0), (37, .aload_n 0, 1, 0, 0, 0, 0, 0), (38, .bipush 16, 2, 0, 0, 0, 0, 16), (40, .iload_n 1, 1, 0, 0, 0, 0, 0), (41, .iload_n 2, 1, 0, 0, 0, 0, 0), (42, .iconst 0, 1, 0, 0, 0, 0, 0), (43, .iconst 0, 1, 0, 0, 0, 0, 0), (44, .iconst 0, 1, 0, 0, 0, 0, 0), (45, .iconst 0, 1, 0, 0, 0, 0, 0), (46, .invokevirtual 76, 3, 210, 8, 9, 11, 0), (49, .invokevirtual 80, 3, 211, 3, 11, 11, 0), (52, .ireturn, 1, 0, 0, 0, 0, 0)]
set_option maxRecDepth 100000 in
theorem yr168 : Y168.all (rok3 168) = true := by decide +kernel
set_option maxRecDepth 100000 in
theorem yk168 : T3OK 168 Y168 := t3_ok (K := K168) rfl (fun h => d168 h) yr168
set_option maxRecDepth 100000 in
theorem nh168 : lk hT 168 = none := by decide +kernel
def Y169 : List YR := [(0, .aload_n 0, 1, 0, 0, 0, 0, 0), (1, .iload_n 1, 1, 0, 0, 0, 0, 0), (2, .invokevirtual 119, 3, 209, 2, 3, 11, 0), (5, .astore 4, 2, 0, 0, 0, 0, 0), (7, .iload_n 3, 1, 0, 0, 0, 0, 0), (8, .invokestatic 23, 3, 204, 1, 1, 11, 0), (11, .invokestatic 30, 3, 200, 1, 1, 11, 0), (14, .aload 4, 2, 0, 0, 0, 0, 0), (16, .getfield 123, 3, 4, 5, 1, 0, 0), (19, .ifCond .ne 31, 3, 0, 0, 0, 0, 0), (22, .aload 4, 2, 0, 0, 0, 0, 0), (24, .getfield 129, 3, 4, 1, 3, 0, 0), (27, .getfield 133, 3, 0, 0, 0, 0, 0), (30, .iload_n 3, 1, 0, 0, 0, 0, 0), (31, .if_icmp .eq 19, 3, 0, 0, 0, 0, 0), (34, .aload 4, 2, 0, 0, 0, 0, 0), (36, .getfield 138, 3, 4, 2, 3, 0, 0), (39, .getfield 133, 3, 0, 0, 0, 0, 0), (42, .iload_n 3, 1, 0, 0, 0, 0, 0), (43, .if_icmp .eq 7, 3, 0, 0, 0, 0, 0), (46, .iconst 1, 1, 0, 0, 0, 0, 1), (47, .goto 4, 3, 0, 0, 0, 0, 0), (50, .iconst 0, 1, 0, 0, 0, 0, 0), (51, .invokestatic 73, 3, 202, 1, 1, 11, 0), (54, .aload_n 0, 1, 0, 0, 0, 0, 0), (55, .aload_n 0, 1, 0, 0, 0, 0, 0), (56, .getfield 10, 3, 11, 0, 8, 0, 0), (59, .aload_n 0, 1, 0, 0, 0, 0, 0), (60, .bipush 17, 2, 0, 0, 0, 0, 17), (62, .iload_n 1, 1, 0, 0, 0, 0, 0), (63, .iload_n 2, 1, 0, 0, 0, 0, 0), (64, .ifCond .eq 7, 3, 0, 0, 0, 0, 0), (67, .iconst 1, 1, 0, 0, 0, 0, 1), (68, .goto 4, 3, 0, 0, 0, 0, 0), (71, .iconst 0, 1, 0, 0, 0, 0, 0), (72, .iload_n 3, 1, 0, 0, 0, 0, 0), (73, .iconst 0, 1, 0, 0, 0, 0, 0), (74, .iconst 0, 1, 0, 0, 0, 0, 0), (75, .iconst 0, 1, 0, 0, 0, 0, 0), (76, .invokevirtual 76, 3, 210, 8, 9, 11, 0), (79, .invokevirtual 80, 3, 211, 3, 11, 11, 0), (82, .ireturn, 1, 0, 0, 0, 0, 0)]
set_option maxRecDepth 100000 in
theorem yr169 : Y169.all (rok3 169) = true := by decide +kernel
set_option maxRecDepth 100000 in
theorem yk169 : T3OK 169 Y169 := t3_ok (K := K169) rfl (fun h => d169 h) yr169
set_option maxRecDepth 100000 in
theorem nh169 : lk hT 169 = none := by decide +kernel
def Y170 : List YR := [(0, .iload_n 1, 1, 0, 0, 0, 0, 0), (1, .invokestatic 23, 3, 204, 1, 1, 11, 0), (4, .ifCond .eq 21, 3, 0, 0, 0, 0, 0), (7, .iload_n 2, 1, 0, 0, 0, 0, 0), (8, .invokestatic 23, 3, 204, 1, 1, 11, 0), (11, .ifCond .eq 14, 3, 0, 0, 0, 0, 0), (14, .iload_n 3, 1, 0, 0, 0, 0, 0), (15, .invokestatic 84, 3, 206, 1, 1, 11, 0), (18, .ifCond .eq 7, 3, 0, 0, 0, 0, 0), (21, .iconst 1, 1, 0, 0, 0, 0, 1), (22, .goto 4, 3, 0, 0, 0, 0, 0), (25, .iconst 0, 1, 0, 0, 0, 0, 0), (26, .invokestatic 30, 3, 200, 1, 1, 11, 0), (29, .iload_n 1, 1, 0, 0, 0, 0, 0), (30, .iload_n 2, 1, 0, 0, 0, 0, 0), (31, .if_icmp .eq 26, 3, 0, 0, 0, 0, 0), (34, .iload 4, 2, 0, 0, 0, 0, 0), (36, .ifCond .eq 21, 3, 0, 0, 0, 0, 0), (39, .iload 4, 2, 0, 0, 0, 0, 0), (41, .sipush (-999), 3, 0, 0, 0, 0, (-999)), (44, .sipush 999, 3, 0, 0, 0, 0, 999), (47, .invokestatic 59, 3, 203, 3, 3, 11, 0), (50, .ifCond .eq 7, 3, 0, 0, 0, 0, 0), (53, .iconst 1, 1, 0, 0, 0, 0, 1), (54, .goto 4, 3, 0, 0, 0, 0, 0), (57, .iconst 0, 1, 0, 0, 0, 0, 0), (58, .invokestatic 63, 3, 201, 1, 1, 11, 0), (61, .aload_n 0, 1, 0, 0, 0, 0, 0), (62, .getfield 10, 3, 11, 0, 8, 0, 0), (65, .getfield 141, 3, 5, 1, 10, 0, 0), (68, .iload_n 1, 1, 0, 0, 0, 0, 0), (69, .iload_n 3, 1, 0, 0, 0, 0, 0), (70, .iload 4, 2, 0, 0, 0, 0, 0), (72, .invokevirtual 145, 3, 113, 4, 7, 7, 0), (75, .invokestatic 73, 3, 202, 1, 1, 11, 0), (78, .aload_n 0, 1, 0, 0, 0, 0, 0), (79, .aload_n 0, 1, 0, 0, 0, 0, 0), (80, .getfield 10, 3, 11, 0, 8, 0, 0), (83, .aload_n 0, 1, 0, 0, 0, 0, 0), (84, .bipush 18, 2, 0, 0, 0, 0, 18), (86, .iload_n 1, 1, 0, 0, 0, 0, 0), (87, .iload_n 2, 1, 0, 0, 0, 0, 0), (88, .iload_n 3, 1, 0, 0, 0, 0, 0), (89, .iload 4, 2, 0, 0, 0, 0, 0), (91, .iconst 0, 1, 0, 0, 0, 0, 0), (92, .iconst 0, 1, 0, 0, 0, 0, 0), (93, .invokevirtual 76, 3, 210, 8, 9, 11, 0), (96, .invokevirtual 80, 3, 211, 3, 11, 11, 0), (99, .ireturn, 1, 0, 0, 0, 0, 0)]
set_option maxRecDepth 100000 in
theorem yr170 : Y170.all (rok3 170) = true := by decide +kernel
set_option maxRecDepth 100000 in
theorem yk170 : T3OK 170 Y170 := t3_ok (K := K170) rfl (fun h => d170 h) yr170
set_option maxRecDepth 100000 in
theorem nh170 : lk hT 170 = none := by decide +kernel
def Y171 : List YR := [(0, .iload_n 1, 1, 0, 0, 0, 0, 0), (1, .iconst 0, 1, 0, 0, 0, 0, 0), (2, .bipush 8, 2, 0, 0, 0, 0, 8), (4, .invokestatic 59, 3, 203, 3, 3, 11, 0), (7, .invokestatic 30, 3, 200, 1, 1, 11, 0), (10, .iload_n 2, 1, 0, 0, 0, 0, 0), (11, .iconst 1, 1, 0, 0, 0, 0, 1), (12, .bipush 99, 2, 0, 0, 0, 0, 99), (14, .invokestatic 59, 3, 203, 3, 3, 11, 0), (17, .ifCond .eq 18, 3, 0, 0, 0, 0, 0), (20, .iload_n 3, 1, 0, 0, 0, 0, 0), (21, .iconst 0, 1, 0, 0, 0, 0, 0), (22, .sipush 7874, 3, 0, 0, 0, 0, 7874), (25, .invokestatic 59, 3, 203, 3, 3, 11, 0), (28, .ifCond .eq 7, 3, 0, 0, 0, 0, 0), (31, .iconst 1, 1, 0, 0, 0, 0, 1), (32, .goto 4, 3, 0, 0, 0, 0, 0), (35, .iconst 0, 1, 0, 0, 0, 0, 0), (36, .invokestatic 63, 3, 201, 1, 1, 11, 0), (39, .aload_n 0, 1, 0, 0, 0, 0, 0), (40, .getfield 10, 3, 11, 0, 8, 0, 0), (43, .getfield 141, 3, 5, 1, 10, 0, 0), (46, .iload_n 1, 1, 0, 0, 0, 0, 0), (47, .invokevirtual 150, 3, 105, 2, 2, 7, 0), (50, .iconst 3, 1, 0, 0, 0, 0, 3), (51, .invokevirtual 154, 3, 2, 2, 2, 0, 0), (54, .iload_n 2, 1, 0, 0, 0, 0, 0), (55, .if_icmp .lt 7, 3, 0, 0, 0, 0, 0), (58, .iconst 1, 1, 0, 0, 0, 0, 1), (59, .goto 4, 3, 0, 0, 0, 0, 0), (62, .iconst 0, 1, 0, 0, 0, 0, 0), (63, .invokestatic 73, 3, 202, 1, 1, 11, 0), (66, .aload_n 0, 1, 0, 0, 0, 0, 0), (67, .aload_n 0, 1, 0, 0, 0, 0, 0), (68, .getfield 10, 3, 11, 0, 8, 0, 0), (71, .aload_n 0, 1, 0, 0, 0, 0, 0), (72, .bipush 19, 2, 0, 0, 0, 0, 19), (74, .iload_n 1, 1, 0, 0, 0, 0, 0), (75, .iload_n 2, 1, 0, 0, 0, 0, 0), (76, .iload_n 3, 1, 0, 0, 0, 0, 0), (77, .iconst 0, 1, 0, 0, 0, 0, 0), (78, .iconst 0, 1, 0, 0, 0, 0, 0), (79, .iconst 0, 1, 0, 0, 0, 0, 0), (80, .invokevirtual 76, 3, 210, 8, 9, 11, 0), (83, .invokevirtual 80, 3, 211, 3, 11, 11, 0), (86, .ireturn, 1, 0, 0, 0, 0, 0)]
set_option maxRecDepth 100000 in
theorem yr171 : Y171.all (rok3 171) = true := by decide +kernel
set_option maxRecDepth 100000 in
theorem yk171 : T3OK 171 Y171 := t3_ok (K := K171) rfl (fun h => d171 h) yr171
set_option maxRecDepth 100000 in
theorem nh171 : lk hT 171 = none := by decide +kernel
def Y172 : List YR := [(0, .iload_n 1, 1, 0, 0, 0, 0, 0), (1, .iconst 0, 1, 0, 0, 0, 0, 0), (2, .iconst 2, 1, 0, 0, 0, 0, 2), (3, .invokestatic 59, 3, 203, 3, 3, 11, 0), (6, .invokestatic 30, 3, 200, 1, 1, 11, 0), (9, .iload_n 2, 1, 0, 0, 0, 0, 0), (10, .iconst 1, 1, 0, 0, 0, 0, 1), (11, .bipush 9, 2, 0, 0, 0, 0, 9), (13, .invokestatic 59, 3, 203, 3, 3, 11, 0), (16, .ifCond .eq 17, 3, 0, 0, 0, 0, 0), (19, .iload_n 3, 1, 0, 0, 0, 0, 0), (20, .iconst 1, 1, 0, 0, 0, 0, 1), (21, .bipush 9, 2, 0, 0, 0, 0, 9), (23, .invokestatic 59, 3, 203, 3, 3, 11, 0), (26, .ifCond .eq 7, 3, 0, 0, 0, 0, 0), (29, .iconst 1, 1, 0, 0, 0, 0, 1), (30, .goto 4, 3, 0, 0, 0, 0, 0), (33, .iconst 0, 1, 0, 0, 0, 0, 0), (34, .invokestatic 63, 3, 201, 1, 1, 11, 0), (37, .aload_n 0, 1, 0, 0, 0, 0, 0), (38, .getfield 10, 3, 11, 0, 8, 0, 0), (41, .getfield 141, 3, 5, 1, 10, 0, 0), (44, .iload_n 1, 1, 0, 0, 0, 0, 0), (45, .iload_n 2, 1, 0, 0, 0, 0, 0), (46, .iload_n 3, 1, 0, 0, 0, 0, 0), (47, .invokevirtual 157, 3, 117, 4, 5, 7, 0), (50, .invokestatic 73, 3, 202, 1, 1, 11, 0), (53, .aload_n 0, 1, 0, 0, 0, 0, 0), (54, .aload_n 0, 1, 0, 0, 0, 0, 0), (55, .getfield 10, 3, 11, 0, 8, 0, 0), (58, .aload_n 0, 1, 0, 0, 0, 0, 0), (59, .bipush 20, 2, 0, 0, 0, 0, 20), (61, .iload_n 1, 1, 0, 0, 0, 0, 0), (62, .iload_n 2, 1, 0, 0, 0, 0, 0), (63, .iload_n 3, 1, 0, 0, 0, 0, 0), (64, .iconst 0, 1, 0, 0, 0, 0, 0), (65, .iconst 0, 1, 0, 0, 0, 0, 0), (66, .iconst 0, 1, 0, 0, 0, 0, 0), (67, .invokevirtual 76, 3, 210, 8, 9, 11, 0), (70, .invokevirtual 80, 3, 211, 3, 11, 11, 0), (73, .ireturn, 1, 0, 0, 0, 0, 0)]
set_option maxRecDepth 100000 in
theorem yr172 : Y172.all (rok3 172) = true := by decide +kernel
set_option maxRecDepth 100000 in
theorem yk172 : T3OK 172 Y172 := t3_ok (K := K172) rfl (fun h => d172 h) yr172
set_option maxRecDepth 100000 in
theorem nh172 : lk hT 172 = none := by decide +kernel
section Face4
variable {P0 P1 Q Q2 : PM} {cl : Nat → Int32} {kp fo : Int32} {ou : Int64} {L e N T D t : Nat} {xs lg : Nat → Int32} {a b c d x f : Int32}
theorem fc_14 (I : IV lg P0 Q2 N T D t) (ht : t < 512) (hg : Gr 0 P0) (HO : kBust P0 a = 0 → gE P0 a (cn 0) (cn 0) (cn 0) (cn 0) (cn 0) 14 ∧ g5_work (vE P0 a (cn 0) (cn 0) (cn 0) (cn 0) (cn 0) 14).2) : X 167 0 [rR 3 11 1, vI a] [] (mm P0 P1 Q cl (cn t) kp fo ou L xs e) = evR (kBust P0 a) [0, 2] (okO P0 P1 Q cl kp fo ou L xs e t 14 a (cn 0) (cn 0) (cn 0) (cn 0) (cn 0)) (mm P0 P1 Q cl (cn t) kp fo ou L xs e) := by
  by_cases h1 : v7_find P0 a = 0
  · have hk : kBust P0 a = 1 := by unfold kBust; (try simp only [if_pos h1]); (try (repeat' (first | rfl | split)))
    exact y_thr yk167 3 5 rfl (x_kept0 hg (gkept I).1 h1) (by decide +kernel) nh167 (by rw [hk]; rfl)
  · refine y_cal yk167 3 5 rfl (x_kept1 hg (gkept I).1 h1) ?_
    by_cases h2 : P0.1 4 (v7_find P0 a) 5 = 0
    · refine y_ifF yk167 1 8 11 rfl rfl rfl (by decide) (decide_eq_false (fun h9 => h9 h2)) ?_
      refine y_go yk167 2 16 rfl ?_
      refine y_ca0 yk167 1 19 rfl (x_ns1 (by decide)) ?_
      refine y_gfr yk167 2 21 24 5 1 0 rfl rfl rfl rfl rfl rfl (by decide) ?_
      have hk : kBust P0 a = 0 := by unfold kBust; (try simp only [if_neg h1, if_pos h2]); (try (repeat' (first | rfl | split)))
      obtain ⟨G, W⟩ := HO hk
      refine y_cal yk167 9 36 rfl (x_enter ht _ _ _ _ _ _ _) ?_
      refine y_cal yk167 1 39 rfl (x_play_c (k := 14) (by decide) ht hg G W) ?_
      exact y_ret yk167 1 rfl (by rw [hk]; rfl)
    · refine y_ifT yk167 1 8 15 rfl rfl rfl (decide_eq_true h2) ?_
      have hk : kBust P0 a = 2 := by unfold kBust; (try simp only [if_neg h1, if_neg h2]); (try (repeat' (first | rfl | split)))
      exact y_thr yk167 2 19 rfl (x_ns0 rfl) (by decide +kernel) nh167 (by rw [hk]; rfl)
theorem fc_15 (I : IV lg P0 Q2 N T D t) (ht : t < 512) (hg : Gr 0 P0) (HO : kAdjust P0 a b = 0 → gE P0 a b (cn 0) (cn 0) (cn 0) (cn 0) 15 ∧ g5_work (vE P0 a b (cn 0) (cn 0) (cn 0) (cn 0) 15).2) : X 168 0 [rR 3 11 1, vI a, vI b, vJ] [] (mm P0 P1 Q cl (cn t) kp fo ou L xs e) = evR (kAdjust P0 a b) [0, 1, 2] (okO P0 P1 Q cl kp fo ou L xs e t 15 a b (cn 0) (cn 0) (cn 0) (cn 0)) (mm P0 P1 Q cl (cn t) kp fo ou L xs e) := by
  by_cases h1 : v7_find P0 a = 0
  · have hk : kAdjust P0 a b = 1 := by unfold kAdjust; (try simp only [if_pos h1]); (try (repeat' (first | rfl | split)))
    exact y_thr yk168 3 5 rfl (x_kept0 hg (gkept I).1 h1) (by decide +kernel) nh168 (by rw [hk]; rfl)
  · refine y_cal yk168 3 5 rfl (x_kept1 hg (gkept I).1 h1) ?_
    refine y_gfr yk168 2 7 10 1 (P0.2.2 4 (v7_find P0 a) 0) 0 rfl rfl rfl rfl rfl rfl ((gkept I).2 h1).1 ?_
    have e1 := x_I' (M := (mm P0 P1 Q cl (cn t) kp fo ou L xs e)) okx0 (t1_hasPrice P0 hg (P0.2.2 4 (v7_find P0 a) 0) b (gprice P0 ((gkept I).2 h1).1)) (by show vR _ _ _ :: _ = _; rw [vR_pos ((gkept I).2 h1).1]; try rfl)
    refine y_cal yk168 2 14 rfl e1 ?_
    by_cases h2 : v1_hasPrice P0 (P0.2.2 4 (v7_find P0 a) 0) b = 0
    · have hk : kAdjust P0 a b = 2 := by unfold kAdjust; (try simp only [if_neg h1, if_pos h2]); (try (repeat' (first | rfl | split)))
      exact y_thr yk168 1 17 rfl (x_nr0 h2) (by decide +kernel) nh168 (by rw [hk]; rfl)
    · refine y_ca0 yk168 1 17 rfl (x_nr1 h2) ?_
      by_cases h3 : P0.1 4 (v7_find P0 a) 5 = 0
      · refine y_ifF yk168 2 21 24 rfl rfl rfl (by decide) (decide_eq_false (fun h9 => h9 h3)) ?_
        refine y_go yk168 2 29 rfl ?_
        refine y_ca0 yk168 1 32 rfl (x_ns1 (by decide)) ?_
        refine y_gfr yk168 2 34 37 5 1 0 rfl rfl rfl rfl rfl rfl (by decide) ?_
        have hk : kAdjust P0 a b = 0 := by unfold kAdjust; (try simp only [if_neg h1, if_neg h2, if_pos h3]); (try (repeat' (first | rfl | split)))
        obtain ⟨G, W⟩ := HO hk
        refine y_cal yk168 9 49 rfl (x_enter ht _ _ _ _ _ _ _) ?_
        refine y_cal yk168 1 52 rfl (x_play_c (k := 15) (by decide) ht hg G W) ?_
        exact y_ret yk168 1 rfl (by rw [hk]; rfl)
      · refine y_ifT yk168 2 21 28 rfl rfl rfl (decide_eq_true h3) ?_
        have hk : kAdjust P0 a b = 3 := by unfold kAdjust; (try simp only [if_neg h1, if_neg h2, if_neg h3]); (try (repeat' (first | rfl | split)))
        exact y_thr yk168 2 32 rfl (x_ns0 rfl) (by decide +kernel) nh168 (by rw [hk]; rfl)
theorem fc_16 (hb : b = cn 0 ∨ b = cn 1) (I : IV lg P0 Q2 N T D t) (ht : t < 512) (hg : Gr 0 P0) (HO : kGive P0 a c = 0 → gE P0 a b c (cn 0) (cn 0) (cn 0) 16 ∧ g5_work (vE P0 a b c (cn 0) (cn 0) (cn 0) 16).2) : X 169 0 [rR 3 11 1, vI a, vI b, vI c, vJ] [] (mm P0 P1 Q cl (cn t) kp fo ou L xs e) = evR (kGive P0 a c) [0, 2] (okO P0 P1 Q cl kp fo ou L xs e t 16 a b c (cn 0) (cn 0) (cn 0)) (mm P0 P1 Q cl (cn t) kp fo ou L xs e) := by
  rcases hb with rfl | rfl
  · by_cases h1 : v7_find P0 a = 0
    · have hk : kGive P0 a c = 1 := by unfold kGive; (try simp only [if_pos h1]); (try (repeat' (first | rfl | split)))
      exact y_thr yk169 3 5 rfl (x_kept0 hg (gkept I).1 h1) (by decide +kernel) nh169 (by rw [hk]; rfl)
    · refine y_cal yk169 3 5 rfl (x_kept1 hg (gkept I).1 h1) ?_
      refine y_cal yk169 3 11 rfl x_isTrader ?_
      by_cases h2 : isW c (cn 0) (cn 7) = 0
      · have hk : kGive P0 a c = 1 := by unfold kGive; (try simp only [if_neg h1, if_pos h2]); (try (repeat' (first | rfl | split)))
        exact y_thr yk169 1 14 rfl (x_np0 h2) (by decide +kernel) nh169 (by rw [hk]; rfl)
      · refine y_ca0 yk169 1 14 rfl (x_np1 h2) ?_
        by_cases h3 : P0.1 4 (v7_find P0 a) 5 = 0
        · refine y_ifF yk169 2 19 22 rfl rfl rfl (by decide) (decide_eq_false (fun h9 => h9 h3)) ?_
          refine y_gfr yk169 1 24 27 0 (P0.2.2 4 (v7_find P0 a) 1) 0 rfl rfl rfl rfl rfl rfl ((gkept I).2 h1).2.1 ?_
          by_cases h4 : (P0.1 0 (P0.2.2 4 (v7_find P0 a) 1) 0) = c
          · refine y_icT yk169 2 31 50 rfl rfl rfl (decide_eq_true h4) ?_
            have hk : kGive P0 a c = 2 := by unfold kGive; (try simp only [if_neg h1, if_neg h2, if_pos h3, if_pos h4]); (try (repeat' (first | rfl | split)))
            exact y_thr yk169 2 54 rfl (x_ns0 rfl) (by decide +kernel) nh169 (by rw [hk]; rfl)
          · refine y_icF yk169 2 31 34 rfl rfl rfl (by decide) (decide_eq_false h4) ?_
            refine y_gfr yk169 1 36 39 0 (P0.2.2 4 (v7_find P0 a) 2) 0 rfl rfl rfl rfl rfl rfl ((gkept I).2 h1).2.2 ?_
            by_cases h5 : (P0.1 0 (P0.2.2 4 (v7_find P0 a) 2) 0) = c
            · refine y_icT yk169 2 43 50 rfl rfl rfl (decide_eq_true h5) ?_
              have hk : kGive P0 a c = 2 := by unfold kGive; (try simp only [if_neg h1, if_neg h2, if_pos h3, if_neg h4, if_pos h5]); (try (repeat' (first | rfl | split)))
              exact y_thr yk169 2 54 rfl (x_ns0 rfl) (by decide +kernel) nh169 (by rw [hk]; rfl)
            · refine y_icF yk169 2 43 46 rfl rfl rfl (by decide) (decide_eq_false h5) ?_
              refine y_go yk169 2 51 rfl ?_
              refine y_ca0 yk169 1 54 rfl (x_ns1 (by decide)) ?_
              refine y_gfr yk169 2 56 59 5 1 0 rfl rfl rfl rfl rfl rfl (by decide) ?_
              refine y_ifT yk169 4 64 71 rfl rfl (by decide) (by decide) ?_
              have hk : kGive P0 a c = 0 := by unfold kGive; (try simp only [if_neg h1, if_neg h2, if_pos h3, if_neg h4, if_neg h5]); (try (repeat' (first | rfl | split)))
              obtain ⟨G, W⟩ := HO hk
              refine y_cal yk169 6 79 rfl (x_enter ht _ _ _ _ _ _ _) ?_
              refine y_cal yk169 1 82 rfl (x_play_c (k := 16) (by decide) ht hg G W) ?_
              exact y_ret yk169 1 rfl (by rw [hk]; rfl)
        · refine y_ifT yk169 2 19 50 rfl rfl rfl (decide_eq_true h3) ?_
          have hk : kGive P0 a c = 2 := by unfold kGive; (try simp only [if_neg h1, if_neg h2, if_neg h3]); (try (repeat' (first | rfl | split)))
          exact y_thr yk169 2 54 rfl (x_ns0 rfl) (by decide +kernel) nh169 (by rw [hk]; rfl)
  · by_cases h6 : v7_find P0 a = 0
    · have hk : kGive P0 a c = 1 := by unfold kGive; (try simp only [if_pos h6]); (try (repeat' (first | rfl | split)))
      exact y_thr yk169 3 5 rfl (x_kept0 hg (gkept I).1 h6) (by decide +kernel) nh169 (by rw [hk]; rfl)
    · refine y_cal yk169 3 5 rfl (x_kept1 hg (gkept I).1 h6) ?_
      refine y_cal yk169 3 11 rfl x_isTrader ?_
      by_cases h7 : isW c (cn 0) (cn 7) = 0
      · have hk : kGive P0 a c = 1 := by unfold kGive; (try simp only [if_neg h6, if_pos h7]); (try (repeat' (first | rfl | split)))
        exact y_thr yk169 1 14 rfl (x_np0 h7) (by decide +kernel) nh169 (by rw [hk]; rfl)
      · refine y_ca0 yk169 1 14 rfl (x_np1 h7) ?_
        by_cases h8 : P0.1 4 (v7_find P0 a) 5 = 0
        · refine y_ifF yk169 2 19 22 rfl rfl rfl (by decide) (decide_eq_false (fun h9 => h9 h8)) ?_
          refine y_gfr yk169 1 24 27 0 (P0.2.2 4 (v7_find P0 a) 1) 0 rfl rfl rfl rfl rfl rfl ((gkept I).2 h6).2.1 ?_
          by_cases h9 : (P0.1 0 (P0.2.2 4 (v7_find P0 a) 1) 0) = c
          · refine y_icT yk169 2 31 50 rfl rfl rfl (decide_eq_true h9) ?_
            have hk : kGive P0 a c = 2 := by unfold kGive; (try simp only [if_neg h6, if_neg h7, if_pos h8, if_pos h9]); (try (repeat' (first | rfl | split)))
            exact y_thr yk169 2 54 rfl (x_ns0 rfl) (by decide +kernel) nh169 (by rw [hk]; rfl)
          · refine y_icF yk169 2 31 34 rfl rfl rfl (by decide) (decide_eq_false h9) ?_
            refine y_gfr yk169 1 36 39 0 (P0.2.2 4 (v7_find P0 a) 2) 0 rfl rfl rfl rfl rfl rfl ((gkept I).2 h6).2.2 ?_
            by_cases h10 : (P0.1 0 (P0.2.2 4 (v7_find P0 a) 2) 0) = c
            · refine y_icT yk169 2 43 50 rfl rfl rfl (decide_eq_true h10) ?_
              have hk : kGive P0 a c = 2 := by unfold kGive; (try simp only [if_neg h6, if_neg h7, if_pos h8, if_neg h9, if_pos h10]); (try (repeat' (first | rfl | split)))
              exact y_thr yk169 2 54 rfl (x_ns0 rfl) (by decide +kernel) nh169 (by rw [hk]; rfl)
            · refine y_icF yk169 2 43 46 rfl rfl rfl (by decide) (decide_eq_false h10) ?_
              refine y_go yk169 2 51 rfl ?_
              refine y_ca0 yk169 1 54 rfl (x_ns1 (by decide)) ?_
              refine y_gfr yk169 2 56 59 5 1 0 rfl rfl rfl rfl rfl rfl (by decide) ?_
              refine y_ifF yk169 4 64 67 rfl rfl rfl (by decide) (by decide) ?_
              refine y_go yk169 2 72 rfl ?_
              have hk : kGive P0 a c = 0 := by unfold kGive; (try simp only [if_neg h6, if_neg h7, if_pos h8, if_neg h9, if_neg h10]); (try (repeat' (first | rfl | split)))
              obtain ⟨G, W⟩ := HO hk
              refine y_cal yk169 5 79 rfl (x_enter ht _ _ _ _ _ _ _) ?_
              refine y_cal yk169 1 82 rfl (x_play_c (k := 16) (by decide) ht hg G W) ?_
              exact y_ret yk169 1 rfl (by rw [hk]; rfl)
        · refine y_ifT yk169 2 19 50 rfl rfl rfl (decide_eq_true h8) ?_
          have hk : kGive P0 a c = 2 := by unfold kGive; (try simp only [if_neg h6, if_neg h7, if_neg h8]); (try (repeat' (first | rfl | split)))
          exact y_thr yk169 2 54 rfl (x_ns0 rfl) (by decide +kernel) nh169 (by rw [hk]; rfl)
theorem fc_17 (I : IV lg P0 Q2 N T D t) (ht : t < 512) (hg : Gr 0 P0) (HO : kAllot P0 a b c d = 0 → gE P0 a b c d (cn 0) (cn 0) 17 ∧ g5_work (vE P0 a b c d (cn 0) (cn 0) 17).2) : X 170 0 [rR 3 11 1, vI a, vI b, vI c, vI d] [] (mm P0 P1 Q cl (cn t) kp fo ou L xs e) = evR (kAllot P0 a b c d) [0, 1, 2] (okO P0 P1 Q cl kp fo ou L xs e t 17 a b c d (cn 0) (cn 0)) (mm P0 P1 Q cl (cn t) kp fo ou L xs e) := by
  refine y_cal yk170 2 4 rfl x_isTrader ?_
  by_cases h1 : isW a (cn 0) (cn 7) = 0
  · refine y_ifT yk170 0 4 25 rfl rfl rfl (decide_eq_true h1) ?_
    have hk : kAllot P0 a b c d = 1 := by unfold kAllot; (try simp only [if_pos h1]); (try (repeat' (first | rfl | split)))
    exact y_thr yk170 2 29 rfl (x_np0 rfl) (by decide +kernel) nh170 (by rw [hk]; rfl)
  · refine y_ifF yk170 0 4 7 rfl rfl rfl (by decide) (decide_eq_false h1) ?_
    refine y_cal yk170 2 11 rfl x_isTrader ?_
    by_cases h2 : isW b (cn 0) (cn 7) = 0
    · refine y_ifT yk170 0 11 25 rfl rfl rfl (decide_eq_true h2) ?_
      have hk : kAllot P0 a b c d = 1 := by unfold kAllot; (try simp only [if_neg h1, if_pos h2]); (try (repeat' (first | rfl | split)))
      exact y_thr yk170 2 29 rfl (x_np0 rfl) (by decide +kernel) nh170 (by rw [hk]; rfl)
    · refine y_ifF yk170 0 11 14 rfl rfl rfl (by decide) (decide_eq_false h2) ?_
      refine y_cal yk170 2 18 rfl x_isContract ?_
      by_cases h3 : isW c (cn 0) (cn 3) = 0
      · refine y_ifT yk170 0 18 25 rfl rfl rfl (decide_eq_true h3) ?_
        have hk : kAllot P0 a b c d = 1 := by unfold kAllot; (try simp only [if_neg h1, if_neg h2, if_pos h3]); (try (repeat' (first | rfl | split)))
        exact y_thr yk170 2 29 rfl (x_np0 rfl) (by decide +kernel) nh170 (by rw [hk]; rfl)
      · refine y_ifF yk170 0 18 21 rfl rfl rfl (by decide) (decide_eq_false h3) ?_
        refine y_go yk170 2 26 rfl ?_
        refine y_ca0 yk170 1 29 rfl (x_np1 (by decide)) ?_
        by_cases h4 : a = b
        · refine y_icT yk170 2 31 57 rfl rfl rfl (decide_eq_true h4) ?_
          have hk : kAllot P0 a b c d = 2 := by unfold kAllot; (try simp only [if_neg h1, if_neg h2, if_neg h3, if_pos h4]); (try (repeat' (first | rfl | split)))
          exact y_thr yk170 2 61 rfl (x_nr0 rfl) (by decide +kernel) nh170 (by rw [hk]; rfl)
        · refine y_icF yk170 2 31 34 rfl rfl rfl (by decide) (decide_eq_false h4) ?_
          by_cases h5 : d = 0
          · refine y_ifT yk170 1 36 57 rfl rfl rfl (decide_eq_true h5) ?_
            have hk : kAllot P0 a b c d = 2 := by unfold kAllot; (try simp only [if_neg h1, if_neg h2, if_neg h3, if_neg h4, if_pos h5]); (try (repeat' (first | rfl | split)))
            exact y_thr yk170 2 61 rfl (x_nr0 rfl) (by decide +kernel) nh170 (by rw [hk]; rfl)
          · refine y_ifF yk170 1 36 39 rfl rfl rfl (by decide) (decide_eq_false h5) ?_
            refine y_cal yk170 4 50 rfl x_isW ?_
            by_cases h6 : isW d (cn (-999)) (cn 999) = 0
            · refine y_ifT yk170 0 50 57 rfl rfl rfl (decide_eq_true h6) ?_
              have hk : kAllot P0 a b c d = 2 := by unfold kAllot; (try simp only [if_neg h1, if_neg h2, if_neg h3, if_neg h4, if_neg h5, if_pos h6]); (try (repeat' (first | rfl | split)))
              exact y_thr yk170 2 61 rfl (x_nr0 rfl) (by decide +kernel) nh170 (by rw [hk]; rfl)
            · refine y_ifF yk170 0 50 53 rfl rfl rfl (by decide) (decide_eq_false h6) ?_
              refine y_go yk170 2 58 rfl ?_
              refine y_ca0 yk170 1 61 rfl (x_nr1 (by decide)) ?_
              refine y_gfr yk170 1 62 65 5 1 0 rfl rfl rfl rfl rfl rfl (by decide) ?_
              refine y_gfr yk170 0 65 68 7 1 0 rfl rfl rfl rfl rfl (hg.1 (5, 1, 1) (by decide)) (by decide) ?_
              have e1 := x_I (M := (mm P0 P1 Q cl (cn t) kp fo ou L xs e)) okx0 (t7_canAllot P0 hg a c d (gallot I h1 h3))
              refine y_cal yk170 4 75 rfl e1 ?_
              by_cases h7 : v7_canAllot P0 a c d = 0
              · have hk : kAllot P0 a b c d = 3 := by unfold kAllot; (try simp only [if_neg h1, if_neg h2, if_neg h3, if_neg h4, if_neg h5, if_neg h6, if_pos h7]); (try (repeat' (first | rfl | split)))
                exact y_thr yk170 1 78 rfl (x_ns0 h7) (by decide +kernel) nh170 (by rw [hk]; rfl)
              · refine y_ca0 yk170 1 78 rfl (x_ns1 h7) ?_
                refine y_gfr yk170 2 80 83 5 1 0 rfl rfl rfl rfl rfl rfl (by decide) ?_
                have hk : kAllot P0 a b c d = 0 := by unfold kAllot; (try simp only [if_neg h1, if_neg h2, if_neg h3, if_neg h4, if_neg h5, if_neg h6, if_neg h7]); (try (repeat' (first | rfl | split)))
                obtain ⟨G, W⟩ := HO hk
                refine y_cal yk170 9 96 rfl (x_enter ht _ _ _ _ _ _ _) ?_
                refine y_cal yk170 1 99 rfl (x_play_c (k := 17) (by decide) ht hg G W) ?_
                exact y_ret yk170 1 rfl (by rw [hk]; rfl)
theorem fc_18 (I : IV lg P0 Q2 N T D t) (ht : t < 512) (hg : Gr 0 P0) (HO : kExer P0 a b c = 0 → gE P0 a b c (cn 0) (cn 0) (cn 0) 18 ∧ g5_work (vE P0 a b c (cn 0) (cn 0) (cn 0) 18).2) : X 171 0 [rR 3 11 1, vI a, vI b, vI c] [] (mm P0 P1 Q cl (cn t) kp fo ou L xs e) = evR (kExer P0 a b c) [0, 1, 2] (okO P0 P1 Q cl kp fo ou L xs e t 18 a b c (cn 0) (cn 0) (cn 0)) (mm P0 P1 Q cl (cn t) kp fo ou L xs e) := by
  refine y_cal yk171 4 7 rfl x_isW ?_
  by_cases h1 : isW a (cn 0) (cn 8) = 0
  · have hk : kExer P0 a b c = 1 := by unfold kExer; (try simp only [if_pos h1]); (try (repeat' (first | rfl | split)))
    exact y_thr yk171 1 10 rfl (x_np0 h1) (by decide +kernel) nh171 (by rw [hk]; rfl)
  · refine y_ca0 yk171 1 10 rfl (x_np1 h1) ?_
    refine y_cal yk171 4 17 rfl x_isW ?_
    by_cases h2 : isW b (cn 1) (cn 99) = 0
    · refine y_ifT yk171 0 17 35 rfl rfl rfl (decide_eq_true h2) ?_
      have hk : kExer P0 a b c = 2 := by unfold kExer; (try simp only [if_neg h1, if_pos h2]); (try (repeat' (first | rfl | split)))
      exact y_thr yk171 2 39 rfl (x_nr0 rfl) (by decide +kernel) nh171 (by rw [hk]; rfl)
    · refine y_ifF yk171 0 17 20 rfl rfl rfl (by decide) (decide_eq_false h2) ?_
      refine y_cal yk171 4 28 rfl x_isW ?_
      by_cases h3 : isW c (cn 0) (cn 7874) = 0
      · refine y_ifT yk171 0 28 35 rfl rfl rfl (decide_eq_true h3) ?_
        have hk : kExer P0 a b c = 2 := by unfold kExer; (try simp only [if_neg h1, if_neg h2, if_pos h3]); (try (repeat' (first | rfl | split)))
        exact y_thr yk171 2 39 rfl (x_nr0 rfl) (by decide +kernel) nh171 (by rw [hk]; rfl)
      · refine y_ifF yk171 0 28 31 rfl rfl rfl (by decide) (decide_eq_false h3) ?_
        refine y_go yk171 2 36 rfl ?_
        refine y_ca0 yk171 1 39 rfl (x_nr1 (by decide)) ?_
        refine y_gfr yk171 1 40 43 5 1 0 rfl rfl rfl rfl rfl rfl (by decide) ?_
        refine y_gfr yk171 0 43 46 7 1 0 rfl rfl rfl rfl rfl (hg.1 (5, 1, 1) (by decide)) (by decide) ?_
        have e1 := x_R (M := (mm P0 P1 Q cl (cn t) kp fo ou L xs e)) okx0 (fa8 P0 h1).2 (t7_accountAt P0 hg a (fa8 P0 h1).1)
        refine y_cal yk171 2 50 rfl e1 ?_
        have e1 := x_I' (M := (mm P0 P1 Q cl (cn t) kp fo ou L xs e)) okx0 (t0_holds P0 hg (v7_accountAt P0 a) (cn 3) (gholds3 P0 h1)) (by show vR _ _ _ :: _ = _; rw [vR_pos (fa8 P0 h1).2]; try rfl)
        refine y_cal yk171 2 54 rfl e1 ?_
        by_cases h4 : (v0_holds P0 (v7_accountAt P0 a) (cn 3)) < b
        · refine y_icT yk171 1 55 62 rfl rfl rfl (decide_eq_true h4) ?_
          have hk : kExer P0 a b c = 3 := by unfold kExer; (try simp only [if_neg h1, if_neg h2, if_neg h3, if_pos h4]); (try (repeat' (first | rfl | split)))
          exact y_thr yk171 2 66 rfl (x_ns0 rfl) (by decide +kernel) nh171 (by rw [hk]; rfl)
        · refine y_icF yk171 1 55 58 rfl rfl rfl (by decide) (decide_eq_false h4) ?_
          refine y_go yk171 2 63 rfl ?_
          refine y_ca0 yk171 1 66 rfl (x_ns1 (by decide)) ?_
          refine y_gfr yk171 2 68 71 5 1 0 rfl rfl rfl rfl rfl rfl (by decide) ?_
          have hk : kExer P0 a b c = 0 := by unfold kExer; (try simp only [if_neg h1, if_neg h2, if_neg h3, if_neg h4]); (try (repeat' (first | rfl | split)))
          obtain ⟨G, W⟩ := HO hk
          refine y_cal yk171 9 83 rfl (x_enter ht _ _ _ _ _ _ _) ?_
          refine y_cal yk171 1 86 rfl (x_play_c (k := 18) (by decide) ht hg G W) ?_
          exact y_ret yk171 1 rfl (by rw [hk]; rfl)
theorem fc_19 (I : IV lg P0 Q2 N T D t) (ht : t < 512) (hg : Gr 0 P0) (HO : kConv P0 a b c = 0 → gE P0 a b c (cn 0) (cn 0) (cn 0) 19 ∧ g5_work (vE P0 a b c (cn 0) (cn 0) (cn 0) 19).2) : X 172 0 [rR 3 11 1, vI a, vI b, vI c] [] (mm P0 P1 Q cl (cn t) kp fo ou L xs e) = evR (kConv P0 a b c) [0, 1, 2] (okO P0 P1 Q cl kp fo ou L xs e t 19 a b c (cn 0) (cn 0) (cn 0)) (mm P0 P1 Q cl (cn t) kp fo ou L xs e) := by
  refine y_cal yk172 4 6 rfl x_isW ?_
  by_cases h1 : isW a (cn 0) (cn 2) = 0
  · have hk : kConv P0 a b c = 1 := by unfold kConv; (try simp only [if_pos h1]); (try (repeat' (first | rfl | split)))
    exact y_thr yk172 1 9 rfl (x_np0 h1) (by decide +kernel) nh172 (by rw [hk]; rfl)
  · refine y_ca0 yk172 1 9 rfl (x_np1 h1) ?_
    refine y_cal yk172 4 16 rfl x_isW ?_
    by_cases h2 : isW b (cn 1) (cn 9) = 0
    · refine y_ifT yk172 0 16 33 rfl rfl rfl (decide_eq_true h2) ?_
      have hk : kConv P0 a b c = 2 := by unfold kConv; (try simp only [if_neg h1, if_pos h2]); (try (repeat' (first | rfl | split)))
      exact y_thr yk172 2 37 rfl (x_nr0 rfl) (by decide +kernel) nh172 (by rw [hk]; rfl)
    · refine y_ifF yk172 0 16 19 rfl rfl rfl (by decide) (decide_eq_false h2) ?_
      refine y_cal yk172 4 26 rfl x_isW ?_
      by_cases h3 : isW c (cn 1) (cn 9) = 0
      · refine y_ifT yk172 0 26 33 rfl rfl rfl (decide_eq_true h3) ?_
        have hk : kConv P0 a b c = 2 := by unfold kConv; (try simp only [if_neg h1, if_neg h2, if_pos h3]); (try (repeat' (first | rfl | split)))
        exact y_thr yk172 2 37 rfl (x_nr0 rfl) (by decide +kernel) nh172 (by rw [hk]; rfl)
      · refine y_ifF yk172 0 26 29 rfl rfl rfl (by decide) (decide_eq_false h3) ?_
        refine y_go yk172 2 34 rfl ?_
        refine y_ca0 yk172 1 37 rfl (x_nr1 (by decide)) ?_
        refine y_gfr yk172 1 38 41 5 1 0 rfl rfl rfl rfl rfl rfl (by decide) ?_
        refine y_gfr yk172 0 41 44 7 1 0 rfl rfl rfl rfl rfl (hg.1 (5, 1, 1) (by decide)) (by decide) ?_
        have e1 := x_I (M := (mm P0 P1 Q cl (cn t) kp fo ou L xs e)) okx0 (t7_canConvert P0 hg a b c (gconv I h1 h2 h3))
        refine y_cal yk172 4 50 rfl e1 ?_
        by_cases h4 : v7_canConvert P0 a b c = 0
        · have hk : kConv P0 a b c = 3 := by unfold kConv; (try simp only [if_neg h1, if_neg h2, if_neg h3, if_pos h4]); (try (repeat' (first | rfl | split)))
          exact y_thr yk172 1 53 rfl (x_ns0 h4) (by decide +kernel) nh172 (by rw [hk]; rfl)
        · refine y_ca0 yk172 1 53 rfl (x_ns1 h4) ?_
          refine y_gfr yk172 2 55 58 5 1 0 rfl rfl rfl rfl rfl rfl (by decide) ?_
          have hk : kConv P0 a b c = 0 := by unfold kConv; (try simp only [if_neg h1, if_neg h2, if_neg h3, if_neg h4]); (try (repeat' (first | rfl | split)))
          obtain ⟨G, W⟩ := HO hk
          refine y_cal yk172 9 70 rfl (x_enter ht _ _ _ _ _ _ _) ?_
          refine y_cal yk172 1 73 rfl (x_play_c (k := 19) (by decide) ht hg G W) ?_
          exact y_ret yk172 1 rfl (by rw [hk]; rfl)
end Face4
