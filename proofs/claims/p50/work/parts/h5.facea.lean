/-! the face's calls that are events (setRule, setBand, setProtection, setLimit, pass, endDay, setMove, setHaircut) -/
def Y157 : List YR := [(0, .iload_n 1, 1, 0, 0, 0, 0, 0), (1, .invokestatic 27, 3, 195, 1, 1, 11, 0), (4, .invokestatic 30, 3, 190, 1, 1, 11, 0), (7, .iload_n 2, 1, 0, 0, 0, 0, 0), (8, .iconst 0, 1, 0, 0, 0, 0, 0), (9, .iconst 2, 1, 0, 0, 0, 0, 2), (10, .invokestatic 59, 3, 193, 3, 3, 11, 0), (13, .ifCond .eq 27, 3, 0, 0, 0, 0, 0), (16, .iload_n 3, 1, 0, 0, 0, 0, 0), (17, .iconst 0, 1, 0, 0, 0, 0, 0), (18, .bipush 50, 2, 0, 0, 0, 0, 50), (20, .invokestatic 59, 3, 193, 3, 3, 11, 0), (23, .ifCond .eq 17, 3, 0, 0, 0, 0, 0), (26, .iload 4, 2, 0, 0, 0, 0, 0), (28, .iconst 0, 1, 0, 0, 0, 0, 0), (29, .iconst 2, 1, 0, 0, 0, 0, 2), (30, .invokestatic 59, 3, 193, 3, 3, 11, 0), (33, .ifCond .eq 7, 3, 0, 0, 0, 0, 0), (36, .iconst 1, 1, 0, 0, 0, 0, 1), (37, .goto 4, 3, 0, 0, 0, 0, 0), (40, .iconst 0, 1, 0, 0, 0, 0, 0), (41, .invokestatic 63, 3, 191, 1, 1, 11, 0), (44, .aload_n 0, 1, 0, 0, 0, 0, 0), (45, .aload_n 0, 1, 0, 0, 0, 0, 0), (46, .getfield 10, 3, 11, 0, 8, 0, 0), (49, .aload_n 0, 1, 0, 0, 0, 0, 0), (50, .bipush 8, 2, 0, 0, 0, 0, 8), (52, .iload_n 1, 1, 0, 0, 0, 0, 0), (53, .iload_n 2, 1, 0, 0, 0, 0, 0), (54, .iload_n 3, 1, 0, 0, 0, 0, 0), (55, .iload 4, 2, 0, 0, 0, 0, 0), (57, .iconst 0, 1, 0, 0, 0, 0, 0), (58, .iconst 0, 1, 0, 0, 0, 0, 0), (59, .invokevirtual 76, 3, 200, 8, 9, 11, 0), (62, .invokevirtual 80, 3, 201, 3, 11, 11, 0), (65, .ireturn, 1, 0, 0, 0, 0, 0)]
set_option maxRecDepth 100000 in
theorem yr157 : Y157.all (rok3 157) = true := by decide +kernel
set_option maxRecDepth 100000 in
theorem yk157 : T3OK 157 Y157 := t3_ok (K := K157) rfl (fun h => d157 h) yr157
set_option maxRecDepth 100000 in
theorem nh157 : lk hT 157 = none := by decide +kernel
def Y158 : List YR := [(0, .iload_n 1, 1, 0, 0, 0, 0, 0), (1, .invokestatic 27, 3, 195, 1, 1, 11, 0), (4, .invokestatic 30, 3, 190, 1, 1, 11, 0), (7, .iload_n 2, 1, 0, 0, 0, 0, 0), (8, .iconst 0, 1, 0, 0, 0, 0, 0), (9, .sipush 9999, 3, 0, 0, 0, 0, 9999), (12, .invokestatic 59, 3, 193, 3, 3, 11, 0), (15, .invokestatic 63, 3, 191, 1, 1, 11, 0), (18, .aload_n 0, 1, 0, 0, 0, 0, 0), (19, .aload_n 0, 1, 0, 0, 0, 0, 0), (20, .getfield 10, 3, 11, 0, 8, 0, 0), (23, .aload_n 0, 1, 0, 0, 0, 0, 0), (24, .bipush 9, 2, 0, 0, 0, 0, 9), (26, .iload_n 1, 1, 0, 0, 0, 0, 0), (27, .iload_n 2, 1, 0, 0, 0, 0, 0), (28, .iconst 0, 1, 0, 0, 0, 0, 0), (29, .iconst 0, 1, 0, 0, 0, 0, 0), (30, .iconst 0, 1, 0, 0, 0, 0, 0), (31, .iconst 0, 1, 0, 0, 0, 0, 0), (32, .invokevirtual 76, 3, 200, 8, 9, 11, 0), (35, .invokevirtual 80, 3, 201, 3, 11, 11, 0), (38, .ireturn, 1, 0, 0, 0, 0, 0)]
set_option maxRecDepth 100000 in
theorem yr158 : Y158.all (rok3 158) = true := by decide +kernel
set_option maxRecDepth 100000 in
theorem yk158 : T3OK 158 Y158 := t3_ok (K := K158) rfl (fun h => d158 h) yr158
set_option maxRecDepth 100000 in
theorem nh158 : lk hT 158 = none := by decide +kernel
def Y159 : List YR := [(0, .iload_n 1, 1, 0, 0, 0, 0, 0), (1, .invokestatic 23, 3, 194, 1, 1, 11, 0), (4, .invokestatic 30, 3, 190, 1, 1, 11, 0), (7, .iload_n 2, 1, 0, 0, 0, 0, 0), (8, .iconst 0, 1, 0, 0, 0, 0, 0), (9, .sipush 999, 3, 0, 0, 0, 0, 999), (12, .invokestatic 59, 3, 193, 3, 3, 11, 0), (15, .invokestatic 63, 3, 191, 1, 1, 11, 0), (18, .aload_n 0, 1, 0, 0, 0, 0, 0), (19, .aload_n 0, 1, 0, 0, 0, 0, 0), (20, .getfield 10, 3, 11, 0, 8, 0, 0), (23, .aload_n 0, 1, 0, 0, 0, 0, 0), (24, .bipush 10, 2, 0, 0, 0, 0, 10), (26, .iload_n 1, 1, 0, 0, 0, 0, 0), (27, .iload_n 2, 1, 0, 0, 0, 0, 0), (28, .iconst 0, 1, 0, 0, 0, 0, 0), (29, .iconst 0, 1, 0, 0, 0, 0, 0), (30, .iconst 0, 1, 0, 0, 0, 0, 0), (31, .iconst 0, 1, 0, 0, 0, 0, 0), (32, .invokevirtual 76, 3, 200, 8, 9, 11, 0), (35, .invokevirtual 80, 3, 201, 3, 11, 11, 0), (38, .ireturn, 1, 0, 0, 0, 0, 0)]
set_option maxRecDepth 100000 in
theorem yr159 : Y159.all (rok3 159) = true := by decide +kernel
set_option maxRecDepth 100000 in
theorem yk159 : T3OK 159 Y159 := t3_ok (K := K159) rfl (fun h => d159 h) yr159
set_option maxRecDepth 100000 in
theorem nh159 : lk hT 159 = none := by decide +kernel
set_option maxRecDepth 100000 in
set_option maxRecDepth 100000 in
set_option maxRecDepth 100000 in
def Y161 : List YR := [(0, .iload_n 1, 1, 0, 0, 0, 0, 0), (1, .iconst 1, 1, 0, 0, 0, 0, 1), (2, .bipush 20, 2, 0, 0, 0, 0, 20), (4, .invokestatic 59, 3, 193, 3, 3, 11, 0), (7, .invokestatic 63, 3, 191, 1, 1, 11, 0), (10, .aload_n 0, 1, 0, 0, 0, 0, 0), (11, .aload_n 0, 1, 0, 0, 0, 0, 0), (12, .getfield 10, 3, 11, 0, 8, 0, 0), (15, .aload_n 0, 1, 0, 0, 0, 0, 0), (16, .bipush 13, 2, 0, 0, 0, 0, 13), (18, .iload_n 1, 1, 0, 0, 0, 0, 0), (19, .iconst 0, 1, 0, 0, 0, 0, 0), (20, .iconst 0, 1, 0, 0, 0, 0, 0), (21, .iconst 0, 1, 0, 0, 0, 0, 0), (22, .iconst 0, 1, 0, 0, 0, 0, 0), (23, .iconst 0, 1, 0, 0, 0, 0, 0), (24, .invokevirtual 76, 3, 200, 8, 9, 11, 0), (27, .invokevirtual 80, 3, 201, 3, 11, 11, 0), (30, .ireturn, 1, 0, 0, 0, 0, 0)]
set_option maxRecDepth 100000 in
theorem yr161 : Y161.all (rok3 161) = true := by decide +kernel
set_option maxRecDepth 100000 in
theorem yk161 : T3OK 161 Y161 := t3_ok (K := K161) rfl (fun h => d161 h) yr161
set_option maxRecDepth 100000 in
theorem nh161 : lk hT 161 = none := by decide +kernel
def Y162 : List YR := [(0, .aload_n 0, 1, 0, 0, 0, 0, 0), (1, .getfield 10, 3, 11, 0, 8, 0, 0), (4, .getfield 34, 3, 5, 0, 9, 0, 0), (7, .invokevirtual 115, 3, 92, 1, 5, 6, 0), (10, .ifCond .ne 7, 3, 0, 0, 0, 0, 0), (13, .iconst 1, 1, 0, 0, 0, 0, 1), (14, .goto 4, 3, 0, 0, 0, 0, 0), (17, .iconst 0, 1, 0, 0, 0, 0, 0), (18, .invokestatic 73, 3, 192, 1, 1, 11, 0), (21, .aload_n 0, 1, 0, 0, 0, 0, 0), (22, .aload_n 0, 1, 0, 0, 0, 0, 0), (23, .getfield 10, 3, 11, 0, 8, 0, 0), (26, .aload_n 0, 1, 0, 0, 0, 0, 0), (27, .bipush 14, 2, 0, 0, 0, 0, 14), (29, .iconst 0, 1, 0, 0, 0, 0, 0), (30, .iconst 0, 1, 0, 0, 0, 0, 0), (31, .iconst 0, 1, 0, 0, 0, 0, 0), (32, .iconst 0, 1, 0, 0, 0, 0, 0), (33, .iconst 0, 1, 0, 0, 0, 0, 0), (34, .iconst 0, 1, 0, 0, 0, 0, 0), (35, .invokevirtual 76, 3, 200, 8, 9, 11, 0), (38, .invokevirtual 80, 3, 201, 3, 11, 11, 0), (41, .ireturn, 1, 0, 0, 0, 0, 0)]
set_option maxRecDepth 100000 in
theorem yr162 : Y162.all (rok3 162) = true := by decide +kernel
set_option maxRecDepth 100000 in
theorem yk162 : T3OK 162 Y162 := t3_ok (K := K162) rfl (fun h => d162 h) yr162
set_option maxRecDepth 100000 in
theorem nh162 : lk hT 162 = none := by decide +kernel
def Y165 : List YR := [(0, .iload_n 1, 1, 0, 0, 0, 0, 0), (1, .iconst 0, 1, 0, 0, 0, 0, 0), (2, .iconst 3, 1, 0, 0, 0, 0, 3), (3, .invokestatic 59, 3, 193, 3, 3, 11, 0), (6, .ifCond .eq 14, 3, 0, 0, 0, 0, 0), (9, .iload_n 2, 1, 0, 0, 0, 0, 0), (10, .invokestatic 84, 3, 196, 1, 1, 11, 0), (13, .ifCond .eq 7, 3, 0, 0, 0, 0, 0), (16, .iconst 1, 1, 0, 0, 0, 0, 1), (17, .goto 4, 3, 0, 0, 0, 0, 0), (20, .iconst 0, 1, 0, 0, 0, 0, 0), (21, .invokestatic 30, 3, 190, 1, 1, 11, 0), (24, .iload_n 3, 1, 0, 0, 0, 0, 0), (25, .bipush (-99), 2, 0, 0, 0, 0, (-99)), (27, .bipush 99, 2, 0, 0, 0, 0, 99), (29, .invokestatic 59, 3, 193, 3, 3, 11, 0), (32, .invokestatic 63, 3, 191, 1, 1, 11, 0), (35, .aload_n 0, 1, 0, 0, 0, 0, 0), (36, .aload_n 0, 1, 0, 0, 0, 0, 0), (37, .getfield 10, 3, 11, 0, 8, 0, 0), (40, .aload_n 0, 1, 0, 0, 0, 0, 0), (41, .bipush 21, 2, 0, 0, 0, 0, 21), (43, .iload_n 1, 1, 0, 0, 0, 0, 0), (44, .iload_n 2, 1, 0, 0, 0, 0, 0), (45, .iload_n 3, 1, 0, 0, 0, 0, 0), (46, .iconst 0, 1, 0, 0, 0, 0, 0), (47, .iconst 0, 1, 0, 0, 0, 0, 0), (48, .iconst 0, 1, 0, 0, 0, 0, 0), (49, .invokevirtual 76, 3, 200, 8, 9, 11, 0), (52, .invokevirtual 80, 3, 201, 3, 11, 11, 0), (55, .ireturn, 1, 0, 0, 0, 0, 0)]
set_option maxRecDepth 100000 in
theorem yr165 : Y165.all (rok3 165) = true := by decide +kernel
set_option maxRecDepth 100000 in
theorem yk165 : T3OK 165 Y165 := t3_ok (K := K165) rfl (fun h => d165 h) yr165
set_option maxRecDepth 100000 in
theorem nh165 : lk hT 165 = none := by decide +kernel
def Y166 : List YR := [(0, .iload_n 1, 1, 0, 0, 0, 0, 0), (1, .iconst 0, 1, 0, 0, 0, 0, 0), (2, .bipush 100, 2, 0, 0, 0, 0, 100), (4, .invokestatic 59, 3, 193, 3, 3, 11, 0), (7, .invokestatic 63, 3, 191, 1, 1, 11, 0), (10, .aload_n 0, 1, 0, 0, 0, 0, 0), (11, .aload_n 0, 1, 0, 0, 0, 0, 0), (12, .getfield 10, 3, 11, 0, 8, 0, 0), (15, .aload_n 0, 1, 0, 0, 0, 0, 0), (16, .bipush 22, 2, 0, 0, 0, 0, 22), (18, .iload_n 1, 1, 0, 0, 0, 0, 0), (19, .iconst 0, 1, 0, 0, 0, 0, 0), (20, .iconst 0, 1, 0, 0, 0, 0, 0), (21, .iconst 0, 1, 0, 0, 0, 0, 0), (22, .iconst 0, 1, 0, 0, 0, 0, 0), (23, .iconst 0, 1, 0, 0, 0, 0, 0), (24, .invokevirtual 76, 3, 200, 8, 9, 11, 0), (27, .invokevirtual 80, 3, 201, 3, 11, 11, 0), (30, .ireturn, 1, 0, 0, 0, 0, 0)]
set_option maxRecDepth 100000 in
theorem yr166 : Y166.all (rok3 166) = true := by decide +kernel
set_option maxRecDepth 100000 in
theorem yk166 : T3OK 166 Y166 := t3_ok (K := K166) rfl (fun h => d166 h) yr166
set_option maxRecDepth 100000 in
theorem nh166 : lk hT 166 = none := by decide +kernel
section Face1
variable {P0 P1 Q Q2 : PM} {cl : Nat → Int32} {kp fo : Int32} {ou : Int64} {L e N T D t : Nat} {xs lg : Nat → Int32} {a b c d x f : Int32}
theorem fc_7 (I : IV lg P0 Q2 N T D t) (ht : t < 512) (hg : Gr 0 P0) (HO : kRule a b c d = 0 → gE P0 a b c d (cn 0) (cn 0) 7 ∧ g5_work (vE P0 a b c d (cn 0) (cn 0) 7).2) : X 157 0 [rR 3 11 1, vI a, vI b, vI c, vI d] [] (mm P0 P1 Q cl (cn t) kp fo ou L xs e) = evR (kRule a b c d) [0, 1] (okO P0 P1 Q cl kp fo ou L xs e t 7 a b c d (cn 0) (cn 0)) (mm P0 P1 Q cl (cn t) kp fo ou L xs e) := by
  refine y_cal yk157 2 4 rfl x_isBook ?_
  by_cases h1 : isW a (cn 0) (cn 5) = 0
  · have hk : kRule a b c d = 1 := by unfold kRule; (try simp only [if_pos h1]); (try (repeat' (first | rfl | split)))
    exact y_thr yk157 1 7 rfl (x_np0 h1) (by decide +kernel) nh157 (by rw [hk]; rfl)
  · refine y_ca0 yk157 1 7 rfl (x_np1 h1) ?_
    refine y_cal yk157 4 13 rfl x_isW ?_
    by_cases h2 : isW b (cn 0) (cn 2) = 0
    · refine y_ifT yk157 0 13 40 rfl rfl rfl (decide_eq_true h2) ?_
      have hk : kRule a b c d = 2 := by unfold kRule; (try simp only [if_neg h1, if_pos h2]); (try (repeat' (first | rfl | split)))
      exact y_thr yk157 2 44 rfl (x_nr0 rfl) (by decide +kernel) nh157 (by rw [hk]; rfl)
    · refine y_ifF yk157 0 13 16 rfl rfl rfl (by decide) (decide_eq_false h2) ?_
      refine y_cal yk157 4 23 rfl x_isW ?_
      by_cases h3 : isW c (cn 0) (cn 50) = 0
      · refine y_ifT yk157 0 23 40 rfl rfl rfl (decide_eq_true h3) ?_
        have hk : kRule a b c d = 2 := by unfold kRule; (try simp only [if_neg h1, if_neg h2, if_pos h3]); (try (repeat' (first | rfl | split)))
        exact y_thr yk157 2 44 rfl (x_nr0 rfl) (by decide +kernel) nh157 (by rw [hk]; rfl)
      · refine y_ifF yk157 0 23 26 rfl rfl rfl (by decide) (decide_eq_false h3) ?_
        refine y_cal yk157 4 33 rfl x_isW ?_
        by_cases h4 : isW d (cn 0) (cn 2) = 0
        · refine y_ifT yk157 0 33 40 rfl rfl rfl (decide_eq_true h4) ?_
          have hk : kRule a b c d = 2 := by unfold kRule; (try simp only [if_neg h1, if_neg h2, if_neg h3, if_pos h4]); (try (repeat' (first | rfl | split)))
          exact y_thr yk157 2 44 rfl (x_nr0 rfl) (by decide +kernel) nh157 (by rw [hk]; rfl)
        · refine y_ifF yk157 0 33 36 rfl rfl rfl (by decide) (decide_eq_false h4) ?_
          refine y_go yk157 2 41 rfl ?_
          refine y_ca0 yk157 1 44 rfl (x_nr1 (by decide)) ?_
          refine y_gfr yk157 2 46 49 5 1 0 rfl rfl rfl rfl rfl rfl (by decide) ?_
          have hk : kRule a b c d = 0 := by unfold kRule; (try simp only [if_neg h1, if_neg h2, if_neg h3, if_neg h4]); (try (repeat' (first | rfl | split)))
          obtain ⟨G, W⟩ := HO hk
          refine y_cal yk157 9 62 rfl (x_enter ht _ _ _ _ _ _ _) ?_
          refine y_cal yk157 1 65 rfl (x_play_c (k := 7) (by decide) ht hg G W) ?_
          exact y_ret yk157 1 rfl (by rw [hk]; rfl)
theorem fc_8 (I : IV lg P0 Q2 N T D t) (ht : t < 512) (hg : Gr 0 P0) (HO : kBand a b = 0 → gE P0 a b (cn 0) (cn 0) (cn 0) (cn 0) 8 ∧ g5_work (vE P0 a b (cn 0) (cn 0) (cn 0) (cn 0) 8).2) : X 158 0 [rR 3 11 1, vI a, vI b] [] (mm P0 P1 Q cl (cn t) kp fo ou L xs e) = evR (kBand a b) [0, 1] (okO P0 P1 Q cl kp fo ou L xs e t 8 a b (cn 0) (cn 0) (cn 0) (cn 0)) (mm P0 P1 Q cl (cn t) kp fo ou L xs e) := by
  refine y_cal yk158 2 4 rfl x_isBook ?_
  by_cases h1 : isW a (cn 0) (cn 5) = 0
  · have hk : kBand a b = 1 := by unfold kBand; (try simp only [if_pos h1]); (try (repeat' (first | rfl | split)))
    exact y_thr yk158 1 7 rfl (x_np0 h1) (by decide +kernel) nh158 (by rw [hk]; rfl)
  · refine y_ca0 yk158 1 7 rfl (x_np1 h1) ?_
    refine y_cal yk158 4 15 rfl x_isW ?_
    by_cases h2 : isW b (cn 0) (cn 9999) = 0
    · have hk : kBand a b = 2 := by unfold kBand; (try simp only [if_neg h1, if_pos h2]); (try (repeat' (first | rfl | split)))
      exact y_thr yk158 1 18 rfl (x_nr0 h2) (by decide +kernel) nh158 (by rw [hk]; rfl)
    · refine y_ca0 yk158 1 18 rfl (x_nr1 h2) ?_
      refine y_gfr yk158 2 20 23 5 1 0 rfl rfl rfl rfl rfl rfl (by decide) ?_
      have hk : kBand a b = 0 := by unfold kBand; (try simp only [if_neg h1, if_neg h2]); (try (repeat' (first | rfl | split)))
      obtain ⟨G, W⟩ := HO hk
      refine y_cal yk158 9 35 rfl (x_enter ht _ _ _ _ _ _ _) ?_
      refine y_cal yk158 1 38 rfl (x_play_c (k := 8) (by decide) ht hg G W) ?_
      exact y_ret yk158 1 rfl (by rw [hk]; rfl)
theorem fc_9 (I : IV lg P0 Q2 N T D t) (ht : t < 512) (hg : Gr 0 P0) (HO : kProt a b = 0 → gE P0 a b (cn 0) (cn 0) (cn 0) (cn 0) 9 ∧ g5_work (vE P0 a b (cn 0) (cn 0) (cn 0) (cn 0) 9).2) : X 159 0 [rR 3 11 1, vI a, vI b] [] (mm P0 P1 Q cl (cn t) kp fo ou L xs e) = evR (kProt a b) [0, 1] (okO P0 P1 Q cl kp fo ou L xs e t 9 a b (cn 0) (cn 0) (cn 0) (cn 0)) (mm P0 P1 Q cl (cn t) kp fo ou L xs e) := by
  refine y_cal yk159 2 4 rfl x_isTrader ?_
  by_cases h1 : isW a (cn 0) (cn 7) = 0
  · have hk : kProt a b = 1 := by unfold kProt; (try simp only [if_pos h1]); (try (repeat' (first | rfl | split)))
    exact y_thr yk159 1 7 rfl (x_np0 h1) (by decide +kernel) nh159 (by rw [hk]; rfl)
  · refine y_ca0 yk159 1 7 rfl (x_np1 h1) ?_
    refine y_cal yk159 4 15 rfl x_isW ?_
    by_cases h2 : isW b (cn 0) (cn 999) = 0
    · have hk : kProt a b = 2 := by unfold kProt; (try simp only [if_neg h1, if_pos h2]); (try (repeat' (first | rfl | split)))
      exact y_thr yk159 1 18 rfl (x_nr0 h2) (by decide +kernel) nh159 (by rw [hk]; rfl)
    · refine y_ca0 yk159 1 18 rfl (x_nr1 h2) ?_
      refine y_gfr yk159 2 20 23 5 1 0 rfl rfl rfl rfl rfl rfl (by decide) ?_
      have hk : kProt a b = 0 := by unfold kProt; (try simp only [if_neg h1, if_neg h2]); (try (repeat' (first | rfl | split)))
      obtain ⟨G, W⟩ := HO hk
      refine y_cal yk159 9 35 rfl (x_enter ht _ _ _ _ _ _ _) ?_
      refine y_cal yk159 1 38 rfl (x_play_c (k := 9) (by decide) ht hg G W) ?_
      exact y_ret yk159 1 rfl (by rw [hk]; rfl)
theorem fc_12 (I : IV lg P0 Q2 N T D t) (ht : t < 512) (hg : Gr 0 P0) (HO : kPass a = 0 → gE P0 a (cn 0) (cn 0) (cn 0) (cn 0) (cn 0) 12 ∧ g5_work (vE P0 a (cn 0) (cn 0) (cn 0) (cn 0) (cn 0) 12).2) : X 161 0 [rR 3 11 1, vI a] [] (mm P0 P1 Q cl (cn t) kp fo ou L xs e) = evR (kPass a) [1] (okO P0 P1 Q cl kp fo ou L xs e t 12 a (cn 0) (cn 0) (cn 0) (cn 0) (cn 0)) (mm P0 P1 Q cl (cn t) kp fo ou L xs e) := by
  refine y_cal yk161 4 7 rfl x_isW ?_
  by_cases h1 : isW a (cn 1) (cn 20) = 0
  · have hk : kPass a = 1 := by unfold kPass; (try simp only [if_pos h1]); (try (repeat' (first | rfl | split)))
    exact y_thr yk161 1 10 rfl (x_nr0 h1) (by decide +kernel) nh161 (by rw [hk]; rfl)
  · refine y_ca0 yk161 1 10 rfl (x_nr1 h1) ?_
    refine y_gfr yk161 2 12 15 5 1 0 rfl rfl rfl rfl rfl rfl (by decide) ?_
    have hk : kPass a = 0 := by unfold kPass; (try simp only [if_neg h1]); (try (repeat' (first | rfl | split)))
    obtain ⟨G, W⟩ := HO hk
    refine y_cal yk161 9 27 rfl (x_enter ht _ _ _ _ _ _ _) ?_
    refine y_cal yk161 1 30 rfl (x_play_c (k := 12) (by decide) ht hg G W) ?_
    exact y_ret yk161 1 rfl (by rw [hk]; rfl)
theorem fc_13 (I : IV lg P0 Q2 N T D t) (ht : t < 512) (hg : Gr 0 P0) (HO : kDay P0 = 0 → gE P0 (cn 0) (cn 0) (cn 0) (cn 0) (cn 0) (cn 0) 13 ∧ g5_work (vE P0 (cn 0) (cn 0) (cn 0) (cn 0) (cn 0) (cn 0) 13).2) : X 162 0 [rR 3 11 1] [] (mm P0 P1 Q cl (cn t) kp fo ou L xs e) = evR (kDay P0) [2] (okO P0 P1 Q cl kp fo ou L xs e t 13 (cn 0) (cn 0) (cn 0) (cn 0) (cn 0) (cn 0)) (mm P0 P1 Q cl (cn t) kp fo ou L xs e) := by
  refine y_gfr yk162 1 1 4 5 1 0 rfl rfl rfl rfl rfl rfl (by decide) ?_
  refine y_gfr yk162 0 4 7 6 1 0 rfl rfl rfl rfl rfl (hg.1 (5, 0, 1) (by decide)) (by decide) ?_
  have e1 := x_I (M := (mm P0 P1 Q cl (cn t) kp fo ou L xs e)) okx0 (t6_hasAuction P0 hg  (gday I (by omega)))
  refine y_cal yk162 1 10 rfl e1 ?_
  by_cases h1 : v6_hasAuction P0 = 0
  · refine y_ifF yk162 0 10 13 rfl rfl rfl (by decide) (decide_eq_false (fun h9 => h9 h1)) ?_
    refine y_go yk162 2 18 rfl ?_
    refine y_ca0 yk162 1 21 rfl (x_ns1 (by decide)) ?_
    refine y_gfr yk162 2 23 26 5 1 0 rfl rfl rfl rfl rfl rfl (by decide) ?_
    have hk : kDay P0 = 0 := by unfold kDay; (try simp only [if_pos h1]); (try (repeat' (first | rfl | split)))
    obtain ⟨G, W⟩ := HO hk
    refine y_cal yk162 9 38 rfl (x_enter ht _ _ _ _ _ _ _) ?_
    refine y_cal yk162 1 41 rfl (x_play_c (k := 13) (by decide) ht hg G W) ?_
    exact y_ret yk162 1 rfl (by rw [hk]; rfl)
  · refine y_ifT yk162 0 10 17 rfl rfl rfl (decide_eq_true h1) ?_
    have hk : kDay P0 = 1 := by unfold kDay; (try simp only [if_neg h1]); (try (repeat' (first | rfl | split)))
    exact y_thr yk162 2 21 rfl (x_ns0 rfl) (by decide +kernel) nh162 (by rw [hk]; rfl)
theorem fc_20 (I : IV lg P0 Q2 N T D t) (ht : t < 512) (hg : Gr 0 P0) (HO : kMove a b c = 0 → gE P0 a b c (cn 0) (cn 0) (cn 0) 20 ∧ g5_work (vE P0 a b c (cn 0) (cn 0) (cn 0) 20).2) : X 165 0 [rR 3 11 1, vI a, vI b, vI c] [] (mm P0 P1 Q cl (cn t) kp fo ou L xs e) = evR (kMove a b c) [0, 1] (okO P0 P1 Q cl kp fo ou L xs e t 20 a b c (cn 0) (cn 0) (cn 0)) (mm P0 P1 Q cl (cn t) kp fo ou L xs e) := by
  refine y_cal yk165 4 6 rfl x_isW ?_
  by_cases h1 : isW a (cn 0) (cn 3) = 0
  · refine y_ifT yk165 0 6 20 rfl rfl rfl (decide_eq_true h1) ?_
    have hk : kMove a b c = 1 := by unfold kMove; (try simp only [if_pos h1]); (try (repeat' (first | rfl | split)))
    exact y_thr yk165 2 24 rfl (x_np0 rfl) (by decide +kernel) nh165 (by rw [hk]; rfl)
  · refine y_ifF yk165 0 6 9 rfl rfl rfl (by decide) (decide_eq_false h1) ?_
    refine y_cal yk165 2 13 rfl x_isContract ?_
    by_cases h2 : isW b (cn 0) (cn 3) = 0
    · refine y_ifT yk165 0 13 20 rfl rfl rfl (decide_eq_true h2) ?_
      have hk : kMove a b c = 1 := by unfold kMove; (try simp only [if_neg h1, if_pos h2]); (try (repeat' (first | rfl | split)))
      exact y_thr yk165 2 24 rfl (x_np0 rfl) (by decide +kernel) nh165 (by rw [hk]; rfl)
    · refine y_ifF yk165 0 13 16 rfl rfl rfl (by decide) (decide_eq_false h2) ?_
      refine y_go yk165 2 21 rfl ?_
      refine y_ca0 yk165 1 24 rfl (x_np1 (by decide)) ?_
      refine y_cal yk165 4 32 rfl x_isW ?_
      by_cases h3 : isW c (cn (-99)) (cn 99) = 0
      · have hk : kMove a b c = 2 := by unfold kMove; (try simp only [if_neg h1, if_neg h2, if_pos h3]); (try (repeat' (first | rfl | split)))
        exact y_thr yk165 1 35 rfl (x_nr0 h3) (by decide +kernel) nh165 (by rw [hk]; rfl)
      · refine y_ca0 yk165 1 35 rfl (x_nr1 h3) ?_
        refine y_gfr yk165 2 37 40 5 1 0 rfl rfl rfl rfl rfl rfl (by decide) ?_
        have hk : kMove a b c = 0 := by unfold kMove; (try simp only [if_neg h1, if_neg h2, if_neg h3]); (try (repeat' (first | rfl | split)))
        obtain ⟨G, W⟩ := HO hk
        refine y_cal yk165 9 52 rfl (x_enter ht _ _ _ _ _ _ _) ?_
        refine y_cal yk165 1 55 rfl (x_play_c (k := 20) (by decide) ht hg G W) ?_
        exact y_ret yk165 1 rfl (by rw [hk]; rfl)
theorem fc_21 (I : IV lg P0 Q2 N T D t) (ht : t < 512) (hg : Gr 0 P0) (HO : kHair a = 0 → gE P0 a (cn 0) (cn 0) (cn 0) (cn 0) (cn 0) 21 ∧ g5_work (vE P0 a (cn 0) (cn 0) (cn 0) (cn 0) (cn 0) 21).2) : X 166 0 [rR 3 11 1, vI a] [] (mm P0 P1 Q cl (cn t) kp fo ou L xs e) = evR (kHair a) [1] (okO P0 P1 Q cl kp fo ou L xs e t 21 a (cn 0) (cn 0) (cn 0) (cn 0) (cn 0)) (mm P0 P1 Q cl (cn t) kp fo ou L xs e) := by
  refine y_cal yk166 4 7 rfl x_isW ?_
  by_cases h1 : isW a (cn 0) (cn 100) = 0
  · have hk : kHair a = 1 := by unfold kHair; (try simp only [if_pos h1]); (try (repeat' (first | rfl | split)))
    exact y_thr yk166 1 10 rfl (x_nr0 h1) (by decide +kernel) nh166 (by rw [hk]; rfl)
  · refine y_ca0 yk166 1 10 rfl (x_nr1 h1) ?_
    refine y_gfr yk166 2 12 15 5 1 0 rfl rfl rfl rfl rfl rfl (by decide) ?_
    have hk : kHair a = 0 := by unfold kHair; (try simp only [if_neg h1]); (try (repeat' (first | rfl | split)))
    obtain ⟨G, W⟩ := HO hk
    refine y_cal yk166 9 27 rfl (x_enter ht _ _ _ _ _ _ _) ?_
    refine y_cal yk166 1 30 rfl (x_play_c (k := 21) (by decide) ht hg G W) ?_
    exact y_ret yk166 1 rfl (by rw [hk]; rfl)
end Face1
