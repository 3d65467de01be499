/-! the face's calls that are events (setRule, setBand, setProtection, setLimit, pass, endDay, setMove, setHaircut) -/
def Y160 : List YR := [(0, .iload_n 1, 1, 0, 0, 0, 0, 0), (1, .invokestatic 27, 3, 205, 1, 1, 11, 0), (4, .invokestatic 30, 3, 200, 1, 1, 11, 0), (7, .iload_n 2, 1, 0, 0, 0, 0, 0), (8, .iconst 0, 1, 0, 0, 0, 0, 0), (9, .iconst 2, 1, 0, 0, 0, 0, 2), (10, .invokestatic 59, 3, 203, 3, 3, 11, 0), (13, .ifCond .eq 27, 3, 0, 0, 0, 0, 0), (16, .iload_n 3, 1, 0, 0, 0, 0, 0), (17, .iconst 0, 1, 0, 0, 0, 0, 0), (18, .bipush 50, 2, 0, 0, 0, 0, 50), (20, .invokestatic 59, 3, 203, 3, 3, 11, 0), (23, .ifCond .eq 17, 3, 0, 0, 0, 0, 0), (26, .iload 4, 2, 0, 0, 0, 0, 0), (28, .iconst 0, 1, 0, 0, 0, 0, 0), (29, .iconst 2, 1, 0, 0, 0, 0, 2), (30, .invokestatic 59, 3, 203, 3, 3, 11, 0), (33, .ifCond .eq 7, 3, 0, 0, 0, 0, 0), (36, .iconst 1, 1, 0, 0, 0, 0, 1), (37, .goto 4, 3, 0, 0, 0, 0, 0), (40, .iconst 0, 1, 0, 0, 0, 0, 0), (41, .invokestatic 63, 3, 201, 1, 1, 11, 0), (44, .aload_n 0, 1, 0, 0, 0, 0, 0), (45, .aload_n 0, 1, 0, 0, 0, 0, 0), (46, .getfield 10, 3, 11, 0, 8, 0, 0), (49, .aload_n 0, 1, 0, 0, 0, 0, 0), (50, .bipush 8, 2, 0, 0, 0, 0, 8), (52, .iload_n 1, 1, 0, 0, 0, 0, 0), (53, .iload_n 2, 1, 0, 0, 0, 0, 0), (54, .iload_n 3, 1, 0, 0, 0, 0, 0), (55, .iload 4, 2, 0, 0, 0, 0, 0), (57, .iconst 0, 1, 0, 0, 0, 0, 0), (58, .iconst 0, 1, 0, 0, 0, 0, 0), (59, .invokevirtual 76, 3, 210, 8, 9, 11, 0), (62, .invokevirtual 80, 3, 211, 3, 11, 11, 0), (65, .ireturn, 1, 0, 0, 0, 0, 0)]
set_option maxRecDepth 100000 in
theorem yr160 : Y160.all (rok3 160) = true := by decide +kernel
set_option maxRecDepth 100000 in
theorem yk160 : T3OK 160 Y160 := t3_ok (K := K160) rfl (fun h => d160 h) yr160
set_option maxRecDepth 100000 in
theorem nh160 : lk hT 160 = none := by decide +kernel
def Y161 : List YR := [(0, .iload_n 1, 1, 0, 0, 0, 0, 0), (1, .invokestatic 27, 3, 205, 1, 1, 11, 0), (4, .invokestatic 30, 3, 200, 1, 1, 11, 0), (7, .iload_n 2, 1, 0, 0, 0, 0, 0), (8, .iconst 0, 1, 0, 0, 0, 0, 0), (9, .sipush 9999, 3, 0, 0, 0, 0, 9999), (12, .invokestatic 59, 3, 203, 3, 3, 11, 0), (15, .invokestatic 63, 3, 201, 1, 1, 11, 0), (18, .aload_n 0, 1, 0, 0, 0, 0, 0), (19, .aload_n 0, 1, 0, 0, 0, 0, 0), (20, .getfield 10, 3, 11, 0, 8, 0, 0), (23, .aload_n 0, 1, 0, 0, 0, 0, 0), (24, .bipush 9, 2, 0, 0, 0, 0, 9), (26, .iload_n 1, 1, 0, 0, 0, 0, 0), (27, .iload_n 2, 1, 0, 0, 0, 0, 0), (28, .iconst 0, 1, 0, 0, 0, 0, 0), (29, .iconst 0, 1, 0, 0, 0, 0, 0), (30, .iconst 0, 1, 0, 0, 0, 0, 0), (31, .iconst 0, 1, 0, 0, 0, 0, 0), (32, .invokevirtual 76, 3, 210, 8, 9, 11, 0), (35, .invokevirtual 80, 3, 211, 3, 11, 11, 0), (38, .ireturn, 1, 0, 0, 0, 0, 0)]
set_option maxRecDepth 100000 in
theorem yr161 : Y161.all (rok3 161) = true := by decide +kernel
set_option maxRecDepth 100000 in
theorem yk161 : T3OK 161 Y161 := t3_ok (K := K161) rfl (fun h => d161 h) yr161
set_option maxRecDepth 100000 in
theorem nh161 : lk hT 161 = none := by decide +kernel
def Y162 : List YR := [(0, .iload_n 1, 1, 0, 0, 0, 0, 0), (1, .invokestatic 23, 3, 204, 1, 1, 11, 0), (4, .invokestatic 30, 3, 200, 1, 1, 11, 0), (7, .iload_n 2, 1, 0, 0, 0, 0, 0), (8, .iconst 0, 1, 0, 0, 0, 0, 0), (9, .sipush 999, 3, 0, 0, 0, 0, 999), (12, .invokestatic 59, 3, 203, 3, 3, 11, 0), (15, .invokestatic 63, 3, 201, 1, 1, 11, 0), (18, .aload_n 0, 1, 0, 0, 0, 0, 0), (19, .aload_n 0, 1, 0, 0, 0, 0, 0), (20, .getfield 10, 3, 11, 0, 8, 0, 0), (23, .aload_n 0, 1, 0, 0, 0, 0, 0), (24, .bipush 10, 2, 0, 0, 0, 0, 10), (26, .iload_n 1, 1, 0, 0, 0, 0, 0), (27, .iload_n 2, 1, 0, 0, 0, 0, 0), (28, .iconst 0, 1, 0, 0, 0, 0, 0), (29, .iconst 0, 1, 0, 0, 0, 0, 0), (30, .iconst 0, 1, 0, 0, 0, 0, 0), (31, .iconst 0, 1, 0, 0, 0, 0, 0), (32, .invokevirtual 76, 3, 210, 8, 9, 11, 0), (35, .invokevirtual 80, 3, 211, 3, 11, 11, 0), (38, .ireturn, 1, 0, 0, 0, 0, 0)]
set_option maxRecDepth 100000 in
theorem yr162 : Y162.all (rok3 162) = true := by decide +kernel
set_option maxRecDepth 100000 in
theorem yk162 : T3OK 162 Y162 := t3_ok (K := K162) rfl (fun h => d162 h) yr162
set_option maxRecDepth 100000 in
theorem nh162 : lk hT 162 = none := by decide +kernel
def Y163 : List YR := [(0, .iload_n 1, 1, 0, 0, 0, 0, 0), (1, .invokestatic 23, 3, 204, 1, 1, 11, 0), (4, .ifCond .eq 14, 3, 0, 0, 0, 0, 0), (7, .iload_n 2, 1, 0, 0, 0, 0, 0), (8, .invokestatic 84, 3, 206, 1, 1, 11, 0), (11, .ifCond .eq 7, 3, 0, 0, 0, 0, 0), (14, .iconst 1, 1, 0, 0, 0, 0, 1), (15, .goto 4, 3, 0, 0, 0, 0, 0), (18, .iconst 0, 1, 0, 0, 0, 0, 0), (19, .invokestatic 30, 3, 200, 1, 1, 11, 0), (22, .iload_n 3, 1, 0, 0, 0, 0, 0), (23, .iconst 0, 1, 0, 0, 0, 0, 0), (24, .sipush 999, 3, 0, 0, 0, 0, 999), (27, .invokestatic 59, 3, 203, 3, 3, 11, 0), (30, .invokestatic 63, 3, 201, 1, 1, 11, 0), (33, .aload_n 0, 1, 0, 0, 0, 0, 0), (34, .aload_n 0, 1, 0, 0, 0, 0, 0), (35, .getfield 10, 3, 11, 0, 8, 0, 0), (38, .aload_n 0, 1, 0, 0, 0, 0, 0), (39, .bipush 11, 2, 0, 0, 0, 0, 11), (41, .iload_n 1, 1, 0, 0, 0, 0, 0), (42, .iload_n 2, 1, 0, 0, 0, 0, 0), (43, .iload_n 3, 1, 0, 0, 0, 0, 0), (44, .iconst 0, 1, 0, 0, 0, 0, 0), (45, .iconst 0, 1, 0, 0, 0, 0, 0), (46, .iconst 0, 1, 0, 0, 0, 0, 0), (47, .invokevirtual 76, 3, 210, 8, 9, 11, 0), (50, .invokevirtual 80, 3, 211, 3, 11, 11, 0), (53, .ireturn, 1, 0, 0, 0, 0, 0)]
set_option maxRecDepth 100000 in
theorem yr163 : Y163.all (rok3 163) = true := by decide +kernel
set_option maxRecDepth 100000 in
theorem yk163 : T3OK 163 Y163 := t3_ok (K := K163) rfl (fun h => d163 h) yr163
set_option maxRecDepth 100000 in
theorem nh163 : lk hT 163 = none := by decide +kernel
def Y165 : List YR := [(0, .iload_n 1, 1, 0, 0, 0, 0, 0), (1, .iconst 1, 1, 0, 0, 0, 0, 1), (2, .bipush 20, 2, 0, 0, 0, 0, 20), (4, .invokestatic 59, 3, 203, 3, 3, 11, 0), (7, .invokestatic 63, 3, 201, 1, 1, 11, 0), (10, .aload_n 0, 1, 0, 0, 0, 0, 0), (11, .aload_n 0, 1, 0, 0, 0, 0, 0), (12, .getfield 10, 3, 11, 0, 8, 0, 0), (15, .aload_n 0, 1, 0, 0, 0, 0, 0), (16, .bipush 13, 2, 0, 0, 0, 0, 13), (18, .iload_n 1, 1, 0, 0, 0, 0, 0), (19, .iconst 0, 1, 0, 0, 0, 0, 0), (20, .iconst 0, 1, 0, 0, 0, 0, 0), (21, .iconst 0, 1, 0, 0, 0, 0, 0), (22, .iconst 0, 1, 0, 0, 0, 0, 0), (23, .iconst 0, 1, 0, 0, 0, 0, 0), (24, .invokevirtual 76, 3, 210, 8, 9, 11, 0), (27, .invokevirtual 80, 3, 211, 3, 11, 11, 0), (30, .ireturn, 1, 0, 0, 0, 0, 0)]
set_option maxRecDepth 100000 in
theorem yr165 : Y165.all (rok3 165) = true := by decide +kernel
set_option maxRecDepth 100000 in
theorem yk165 : T3OK 165 Y165 := t3_ok (K := K165) rfl (fun h => d165 h) yr165
set_option maxRecDepth 100000 in
theorem nh165 : lk hT 165 = none := by decide +kernel
def Y166 : List YR := [(0, .aload_n 0, 1, 0, 0, 0, 0, 0), (1, .getfield 10, 3, 11, 0, 8, 0, 0), (4, .getfield 34, 3, 5, 0, 9, 0, 0), (7, .invokevirtual 115, 3, 93, 1, 5, 6, 0), (10, .ifCond .ne 7, 3, 0, 0, 0, 0, 0), (13, .iconst 1, 1, 0, 0, 0, 0, 1), (14, .goto 4, 3, 0, 0, 0, 0, 0), (17, .iconst 0, 1, 0, 0, 0, 0, 0), (18, .invokestatic 73, 3, 202, 1, 1, 11, 0), (21, .aload_n 0, 1, 0, 0, 0, 0, 0), (22, .aload_n 0, 1, 0, 0, 0, 0, 0), (23, .getfield 10, 3, 11, 0, 8, 0, 0), (26, .aload_n 0, 1, 0, 0, 0, 0, 0), (27, .bipush 14, 2, 0, 0, 0, 0, 14), (29, .iconst 0, 1, 0, 0, 0, 0, 0), (30, .iconst 0, 1, 0, 0, 0, 0, 0), (31, .iconst 0, 1, 0, 0, 0, 0, 0), (32, .iconst 0, 1, 0, 0, 0, 0, 0), (33, .iconst 0, 1, 0, 0, 0, 0, 0), (34, .iconst 0, 1, 0, 0, 0, 0, 0), (35, .invokevirtual 76, 3, 210, 8, 9, 11, 0), (38, .invokevirtual 80, 3, 211, 3, 11, 11, 0), (41, .ireturn, 1, 0, 0, 0, 0, 0)]
set_option maxRecDepth 100000 in
theorem yr166 : Y166.all (rok3 166) = true := by decide +kernel
set_option maxRecDepth 100000 in
theorem yk166 : T3OK 166 Y166 := t3_ok (K := K166) rfl (fun h => d166 h) yr166
set_option maxRecDepth 100000 in
theorem nh166 : lk hT 166 = none := by decide +kernel
def Y173 : List YR := [(0, .iload_n 1, 1, 0, 0, 0, 0, 0), (1, .iconst 0, 1, 0, 0, 0, 0, 0), (2, .iconst 3, 1, 0, 0, 0, 0, 3), (3, .invokestatic 59, 3, 203, 3, 3, 11, 0), (6, .ifCond .eq 14, 3, 0, 0, 0, 0, 0), (9, .iload_n 2, 1, 0, 0, 0, 0, 0), (10, .invokestatic 84, 3, 206, 1, 1, 11, 0), (13, .ifCond .eq 7, 3, 0, 0, 0, 0, 0), (16, .iconst 1, 1, 0, 0, 0, 0, 1), (17, .goto 4, 3, 0, 0, 0, 0, 0), (20, .iconst 0, 1, 0, 0, 0, 0, 0), (21, .invokestatic 30, 3, 200, 1, 1, 11, 0), (24, .iload_n 3, 1, 0, 0, 0, 0, 0), (25, .bipush (-99), 2, 0, 0, 0, 0, (-99)), (27, .bipush 99, 2, 0, 0, 0, 0, 99), (29, .invokestatic 59, 3, 203, 3, 3, 11, 0), (32, .invokestatic 63, 3, 201, 1, 1, 11, 0), (35, .aload_n 0, 1, 0, 0, 0, 0, 0), (36, .aload_n 0, 1, 0, 0, 0, 0, 0), (37, .getfield 10, 3, 11, 0, 8, 0, 0), (40, .aload_n 0, 1, 0, 0, 0, 0, 0), (41, .bipush 21, 2, 0, 0, 0, 0, 21), (43, .iload_n 1, 1, 0, 0, 0, 0, 0), (44, .iload_n 2, 1, 0, 0, 0, 0, 0), (45, .iload_n 3, 1, 0, 0, 0, 0, 0), (46, .iconst 0, 1, 0, 0, 0, 0, 0), (47, .iconst 0, 1, 0, 0, 0, 0, 0), (48, .iconst 0, 1, 0, 0, 0, 0, 0), (49, .invokevirtual 76, 3, 210, 8, 9, 11, 0), (52, .invokevirtual 80, 3, 211, 3, 11, 11, 0), (55, .ireturn, 1, 0, 0, 0, 0, 0)]
set_option maxRecDepth 100000 in
theorem yr173 : Y173.all (rok3 173) = true := by decide +kernel
set_option maxRecDepth 100000 in
theorem yk173 : T3OK 173 Y173 := t3_ok (K := K173) rfl (fun h => d173 h) yr173
set_option maxRecDepth 100000 in
theorem nh173 : lk hT 173 = none := by decide +kernel
def Y174 : List YR := [(0, .iload_n 1, 1, 0, 0, 0, 0, 0), (1, .iconst 0, 1, 0, 0, 0, 0, 0), (2, .bipush 100, 2, 0, 0, 0, 0, 100), (4, .invokestatic 59, 3, 203, 3, 3, 11, 0), (7, .invokestatic 63, 3, 201, 1, 1, 11, 0), (10, .aload_n 0, 1, 0, 0, 0, 0, 0), (11, .aload_n 0, 1, 0, 0, 0, 0, 0), (12, .getfield 10, 3, 11, 0, 8, 0, 0), (15, .aload_n 0, 1, 0, 0, 0, 0, 0), (16, .bipush 22, 2, 0, 0, 0, 0, 22), (18, .iload_n 1, 1, 0, 0, 0, 0, 0), (19, .iconst 0, 1, 0, 0, 0, 0, 0), (20, .iconst 0, 1, 0, 0, 0, 0, 0), (21, .iconst 0, 1, 0, 0, 0, 0, 0), (22, .iconst 0, 1, 0, 0, 0, 0, 0), (23, .iconst 0, 1, 0, 0, 0, 0, 0), (24, .invokevirtual 76, 3, 210, 8, 9, 11, 0), (27, .invokevirtual 80, 3, 211, 3, 11, 11, 0), (30, .ireturn, 1, 0, 0, 0, 0, 0)]
set_option maxRecDepth 100000 in
theorem yr174 : Y174.all (rok3 174) = true := by decide +kernel
set_option maxRecDepth 100000 in
theorem yk174 : T3OK 174 Y174 := t3_ok (K := K174) rfl (fun h => d174 h) yr174
set_option maxRecDepth 100000 in
theorem nh174 : lk hT 174 = none := by decide +kernel
section Face1
variable {P0 P1 Q Q2 : PM} {cl : Nat → Int32} {kp fo : Int32} {ou : Int64} {L e N T D t : Nat} {xs lg : Nat → Int32} {a b c d x f : Int32}
theorem fc_7 (I : IV lg P0 Q2 N T D t) (ht : t < 512) (hg : Gr 0 P0) (HO : kRule a b c d = 0 → gE P0 a b c d (cn 0) (cn 0) 7 ∧ g5_work (vE P0 a b c d (cn 0) (cn 0) 7).2) : X 160 0 [rR 3 11 1, vI a, vI b, vI c, vI d] [] (mm P0 P1 Q cl (cn t) kp fo ou L xs e) = evR (kRule a b c d) [0, 1] (okO P0 P1 Q cl kp fo ou L xs e t 7 a b c d (cn 0) (cn 0)) (mm P0 P1 Q cl (cn t) kp fo ou L xs e) := by
  refine y_cal yk160 2 4 rfl x_isBook ?_
  by_cases h1 : isW a (cn 0) (cn 5) = 0
  · have hk : kRule a b c d = 1 := by unfold kRule; (try simp only [if_pos h1]); (try (repeat' (first | rfl | split)))
    exact y_thr yk160 1 7 rfl (x_np0 h1) (by decide +kernel) nh160 (by rw [hk]; rfl)
  · refine y_ca0 yk160 1 7 rfl (x_np1 h1) ?_
    refine y_cal yk160 4 13 rfl x_isW ?_
    by_cases h2 : isW b (cn 0) (cn 2) = 0
    · refine y_ifT yk160 0 13 40 rfl rfl rfl (decide_eq_true h2) ?_
      have hk : kRule a b c d = 2 := by unfold kRule; (try simp only [if_neg h1, if_pos h2]); (try (repeat' (first | rfl | split)))
      exact y_thr yk160 2 44 rfl (x_nr0 rfl) (by decide +kernel) nh160 (by rw [hk]; rfl)
    · refine y_ifF yk160 0 13 16 rfl rfl rfl (by decide) (decide_eq_false h2) ?_
      refine y_cal yk160 4 23 rfl x_isW ?_
      by_cases h3 : isW c (cn 0) (cn 50) = 0
      · refine y_ifT yk160 0 23 40 rfl rfl rfl (decide_eq_true h3) ?_
        have hk : kRule a b c d = 2 := by unfold kRule; (try simp only [if_neg h1, if_neg h2, if_pos h3]); (try (repeat' (first | rfl | split)))
        exact y_thr yk160 2 44 rfl (x_nr0 rfl) (by decide +kernel) nh160 (by rw [hk]; rfl)
      · refine y_ifF yk160 0 23 26 rfl rfl rfl (by decide) (decide_eq_false h3) ?_
        refine y_cal yk160 4 33 rfl x_isW ?_
        by_cases h4 : isW d (cn 0) (cn 2) = 0
        · refine y_ifT yk160 0 33 40 rfl rfl rfl (decide_eq_true h4) ?_
          have hk : kRule a b c d = 2 := by unfold kRule; (try simp only [if_neg h1, if_neg h2, if_neg h3, if_pos h4]); (try (repeat' (first | rfl | split)))
          exact y_thr yk160 2 44 rfl (x_nr0 rfl) (by decide +kernel) nh160 (by rw [hk]; rfl)
        · refine y_ifF yk160 0 33 36 rfl rfl rfl (by decide) (decide_eq_false h4) ?_
          refine y_go yk160 2 41 rfl ?_
          refine y_ca0 yk160 1 44 rfl (x_nr1 (by decide)) ?_
          refine y_gfr yk160 2 46 49 5 1 0 rfl rfl rfl rfl rfl rfl (by decide) ?_
          have hk : kRule a b c d = 0 := by unfold kRule; (try simp only [if_neg h1, if_neg h2, if_neg h3, if_neg h4]); (try (repeat' (first | rfl | split)))
          obtain ⟨G, W⟩ := HO hk
          refine y_cal yk160 9 62 rfl (x_enter ht _ _ _ _ _ _ _) ?_
          refine y_cal yk160 1 65 rfl (x_play_c (k := 7) (by decide) ht hg G W) ?_
          exact y_ret yk160 1 rfl (by rw [hk]; rfl)
theorem fc_8 (I : IV lg P0 Q2 N T D t) (ht : t < 512) (hg : Gr 0 P0) (HO : kBand a b = 0 → gE P0 a b (cn 0) (cn 0) (cn 0) (cn 0) 8 ∧ g5_work (vE P0 a b (cn 0) (cn 0) (cn 0) (cn 0) 8).2) : X 161 0 [rR 3 11 1, vI a, vI b] [] (mm P0 P1 Q cl (cn t) kp fo ou L xs e) = evR (kBand a b) [0, 1] (okO P0 P1 Q cl kp fo ou L xs e t 8 a b (cn 0) (cn 0) (cn 0) (cn 0)) (mm P0 P1 Q cl (cn t) kp fo ou L xs e) := by
  refine y_cal yk161 2 4 rfl x_isBook ?_
  by_cases h1 : isW a (cn 0) (cn 5) = 0
  · have hk : kBand a b = 1 := by unfold kBand; (try simp only [if_pos h1]); (try (repeat' (first | rfl | split)))
    exact y_thr yk161 1 7 rfl (x_np0 h1) (by decide +kernel) nh161 (by rw [hk]; rfl)
  · refine y_ca0 yk161 1 7 rfl (x_np1 h1) ?_
    refine y_cal yk161 4 15 rfl x_isW ?_
    by_cases h2 : isW b (cn 0) (cn 9999) = 0
    · have hk : kBand a b = 2 := by unfold kBand; (try simp only [if_neg h1, if_pos h2]); (try (repeat' (first | rfl | split)))
      exact y_thr yk161 1 18 rfl (x_nr0 h2) (by decide +kernel) nh161 (by rw [hk]; rfl)
    · refine y_ca0 yk161 1 18 rfl (x_nr1 h2) ?_
      refine y_gfr yk161 2 20 23 5 1 0 rfl rfl rfl rfl rfl rfl (by decide) ?_
      have hk : kBand a b = 0 := by unfold kBand; (try simp only [if_neg h1, if_neg h2]); (try (repeat' (first | rfl | split)))
      obtain ⟨G, W⟩ := HO hk
      refine y_cal yk161 9 35 rfl (x_enter ht _ _ _ _ _ _ _) ?_
      refine y_cal yk161 1 38 rfl (x_play_c (k := 8) (by decide) ht hg G W) ?_
      exact y_ret yk161 1 rfl (by rw [hk]; rfl)
theorem fc_9 (I : IV lg P0 Q2 N T D t) (ht : t < 512) (hg : Gr 0 P0) (HO : kProt a b = 0 → gE P0 a b (cn 0) (cn 0) (cn 0) (cn 0) 9 ∧ g5_work (vE P0 a b (cn 0) (cn 0) (cn 0) (cn 0) 9).2) : X 162 0 [rR 3 11 1, vI a, vI b] [] (mm P0 P1 Q cl (cn t) kp fo ou L xs e) = evR (kProt a b) [0, 1] (okO P0 P1 Q cl kp fo ou L xs e t 9 a b (cn 0) (cn 0) (cn 0) (cn 0)) (mm P0 P1 Q cl (cn t) kp fo ou L xs e) := by
  refine y_cal yk162 2 4 rfl x_isTrader ?_
  by_cases h1 : isW a (cn 0) (cn 7) = 0
  · have hk : kProt a b = 1 := by unfold kProt; (try simp only [if_pos h1]); (try (repeat' (first | rfl | split)))
    exact y_thr yk162 1 7 rfl (x_np0 h1) (by decide +kernel) nh162 (by rw [hk]; rfl)
  · refine y_ca0 yk162 1 7 rfl (x_np1 h1) ?_
    refine y_cal yk162 4 15 rfl x_isW ?_
    by_cases h2 : isW b (cn 0) (cn 999) = 0
    · have hk : kProt a b = 2 := by unfold kProt; (try simp only [if_neg h1, if_pos h2]); (try (repeat' (first | rfl | split)))
      exact y_thr yk162 1 18 rfl (x_nr0 h2) (by decide +kernel) nh162 (by rw [hk]; rfl)
    · refine y_ca0 yk162 1 18 rfl (x_nr1 h2) ?_
      refine y_gfr yk162 2 20 23 5 1 0 rfl rfl rfl rfl rfl rfl (by decide) ?_
      have hk : kProt a b = 0 := by unfold kProt; (try simp only [if_neg h1, if_neg h2]); (try (repeat' (first | rfl | split)))
      obtain ⟨G, W⟩ := HO hk
      refine y_cal yk162 9 35 rfl (x_enter ht _ _ _ _ _ _ _) ?_
      refine y_cal yk162 1 38 rfl (x_play_c (k := 9) (by decide) ht hg G W) ?_
      exact y_ret yk162 1 rfl (by rw [hk]; rfl)
theorem fc_10 (I : IV lg P0 Q2 N T D t) (ht : t < 512) (hg : Gr 0 P0) (HO : kMost a b c = 0 → gE P0 a b c (cn 0) (cn 0) (cn 0) 10 ∧ g5_work (vE P0 a b c (cn 0) (cn 0) (cn 0) 10).2) : X 163 0 [rR 3 11 1, vI a, vI b, vI c] [] (mm P0 P1 Q cl (cn t) kp fo ou L xs e) = evR (kMost a b c) [0, 1] (okO P0 P1 Q cl kp fo ou L xs e t 10 a b c (cn 0) (cn 0) (cn 0)) (mm P0 P1 Q cl (cn t) kp fo ou L xs e) := by
  refine y_cal yk163 2 4 rfl x_isTrader ?_
  by_cases h1 : isW a (cn 0) (cn 7) = 0
  · refine y_ifT yk163 0 4 18 rfl rfl rfl (decide_eq_true h1) ?_
    have hk : kMost a b c = 1 := by unfold kMost; (try simp only [if_pos h1]); (try (repeat' (first | rfl | split)))
    exact y_thr yk163 2 22 rfl (x_np0 rfl) (by decide +kernel) nh163 (by rw [hk]; rfl)
  · refine y_ifF yk163 0 4 7 rfl rfl rfl (by decide) (decide_eq_false h1) ?_
    refine y_cal yk163 2 11 rfl x_isContract ?_
    by_cases h2 : isW b (cn 0) (cn 3) = 0
    · refine y_ifT yk163 0 11 18 rfl rfl rfl (decide_eq_true h2) ?_
      have hk : kMost a b c = 1 := by unfold kMost; (try simp only [if_neg h1, if_pos h2]); (try (repeat' (first | rfl | split)))
      exact y_thr yk163 2 22 rfl (x_np0 rfl) (by decide +kernel) nh163 (by rw [hk]; rfl)
    · refine y_ifF yk163 0 11 14 rfl rfl rfl (by decide) (decide_eq_false h2) ?_
      refine y_go yk163 2 19 rfl ?_
      refine y_ca0 yk163 1 22 rfl (x_np1 (by decide)) ?_
      refine y_cal yk163 4 30 rfl x_isW ?_
      by_cases h3 : isW c (cn 0) (cn 999) = 0
      · have hk : kMost a b c = 2 := by unfold kMost; (try simp only [if_neg h1, if_neg h2, if_pos h3]); (try (repeat' (first | rfl | split)))
        exact y_thr yk163 1 33 rfl (x_nr0 h3) (by decide +kernel) nh163 (by rw [hk]; rfl)
      · refine y_ca0 yk163 1 33 rfl (x_nr1 h3) ?_
        refine y_gfr yk163 2 35 38 5 1 0 rfl rfl rfl rfl rfl rfl (by decide) ?_
        have hk : kMost a b c = 0 := by unfold kMost; (try simp only [if_neg h1, if_neg h2, if_neg h3]); (try (repeat' (first | rfl | split)))
        obtain ⟨G, W⟩ := HO hk
        refine y_cal yk163 9 50 rfl (x_enter ht _ _ _ _ _ _ _) ?_
        refine y_cal yk163 1 53 rfl (x_play_c (k := 10) (by decide) ht hg G W) ?_
        exact y_ret yk163 1 rfl (by rw [hk]; rfl)
theorem fc_12 (I : IV lg P0 Q2 N T D t) (ht : t < 512) (hg : Gr 0 P0) (HO : kPass a = 0 → gE P0 a (cn 0) (cn 0) (cn 0) (cn 0) (cn 0) 12 ∧ g5_work (vE P0 a (cn 0) (cn 0) (cn 0) (cn 0) (cn 0) 12).2) : X 165 0 [rR 3 11 1, vI a] [] (mm P0 P1 Q cl (cn t) kp fo ou L xs e) = evR (kPass a) [1] (okO P0 P1 Q cl kp fo ou L xs e t 12 a (cn 0) (cn 0) (cn 0) (cn 0) (cn 0)) (mm P0 P1 Q cl (cn t) kp fo ou L xs e) := by
  refine y_cal yk165 4 7 rfl x_isW ?_
  by_cases h1 : isW a (cn 1) (cn 20) = 0
  · have hk : kPass a = 1 := by unfold kPass; (try simp only [if_pos h1]); (try (repeat' (first | rfl | split)))
    exact y_thr yk165 1 10 rfl (x_nr0 h1) (by decide +kernel) nh165 (by rw [hk]; rfl)
  · refine y_ca0 yk165 1 10 rfl (x_nr1 h1) ?_
    refine y_gfr yk165 2 12 15 5 1 0 rfl rfl rfl rfl rfl rfl (by decide) ?_
    have hk : kPass a = 0 := by unfold kPass; (try simp only [if_neg h1]); (try (repeat' (first | rfl | split)))
    obtain ⟨G, W⟩ := HO hk
    refine y_cal yk165 9 27 rfl (x_enter ht _ _ _ _ _ _ _) ?_
    refine y_cal yk165 1 30 rfl (x_play_c (k := 12) (by decide) ht hg G W) ?_
    exact y_ret yk165 1 rfl (by rw [hk]; rfl)
theorem fc_13 (I : IV lg P0 Q2 N T D t) (ht : t < 512) (hg : Gr 0 P0) (HO : kDay P0 = 0 → gE P0 (cn 0) (cn 0) (cn 0) (cn 0) (cn 0) (cn 0) 13 ∧ g5_work (vE P0 (cn 0) (cn 0) (cn 0) (cn 0) (cn 0) (cn 0) 13).2) : X 166 0 [rR 3 11 1] [] (mm P0 P1 Q cl (cn t) kp fo ou L xs e) = evR (kDay P0) [2] (okO P0 P1 Q cl kp fo ou L xs e t 13 (cn 0) (cn 0) (cn 0) (cn 0) (cn 0) (cn 0)) (mm P0 P1 Q cl (cn t) kp fo ou L xs e) := by
  refine y_gfr yk166 1 1 4 5 1 0 rfl rfl rfl rfl rfl rfl (by decide) ?_
  refine y_gfr yk166 0 4 7 6 1 0 rfl rfl rfl rfl rfl (hg.1 (5, 0, 1) (by decide)) (by decide) ?_
  have e1 := x_I (M := (mm P0 P1 Q cl (cn t) kp fo ou L xs e)) okx0 (t6_hasAuction P0 hg  (gday I (by omega)))
  refine y_cal yk166 1 10 rfl e1 ?_
  by_cases h1 : v6_hasAuction P0 = 0
  · refine y_ifF yk166 0 10 13 rfl rfl rfl (by decide) (decide_eq_false (fun h9 => h9 h1)) ?_
    refine y_go yk166 2 18 rfl ?_
    refine y_ca0 yk166 1 21 rfl (x_ns1 (by decide)) ?_
    refine y_gfr yk166 2 23 26 5 1 0 rfl rfl rfl rfl rfl rfl (by decide) ?_
    have hk : kDay P0 = 0 := by unfold kDay; (try simp only [if_pos h1]); (try (repeat' (first | rfl | split)))
    obtain ⟨G, W⟩ := HO hk
    refine y_cal yk166 9 38 rfl (x_enter ht _ _ _ _ _ _ _) ?_
    refine y_cal yk166 1 41 rfl (x_play_c (k := 13) (by decide) ht hg G W) ?_
    exact y_ret yk166 1 rfl (by rw [hk]; rfl)
  · refine y_ifT yk166 0 10 17 rfl rfl rfl (decide_eq_true h1) ?_
    have hk : kDay P0 = 1 := by unfold kDay; (try simp only [if_neg h1]); (try (repeat' (first | rfl | split)))
    exact y_thr yk166 2 21 rfl (x_ns0 rfl) (by decide +kernel) nh166 (by rw [hk]; rfl)
theorem fc_20 (I : IV lg P0 Q2 N T D t) (ht : t < 512) (hg : Gr 0 P0) (HO : kMove a b c = 0 → gE P0 a b c (cn 0) (cn 0) (cn 0) 20 ∧ g5_work (vE P0 a b c (cn 0) (cn 0) (cn 0) 20).2) : X 173 0 [rR 3 11 1, vI a, vI b, vI c] [] (mm P0 P1 Q cl (cn t) kp fo ou L xs e) = evR (kMove a b c) [0, 1] (okO P0 P1 Q cl kp fo ou L xs e t 20 a b c (cn 0) (cn 0) (cn 0)) (mm P0 P1 Q cl (cn t) kp fo ou L xs e) := by
  refine y_cal yk173 4 6 rfl x_isW ?_
  by_cases h1 : isW a (cn 0) (cn 3) = 0
  · refine y_ifT yk173 0 6 20 rfl rfl rfl (decide_eq_true h1) ?_
    have hk : kMove a b c = 1 := by unfold kMove; (try simp only [if_pos h1]); (try (repeat' (first | rfl | split)))
    exact y_thr yk173 2 24 rfl (x_np0 rfl) (by decide +kernel) nh173 (by rw [hk]; rfl)
  · refine y_ifF yk173 0 6 9 rfl rfl rfl (by decide) (decide_eq_false h1) ?_
    refine y_cal yk173 2 13 rfl x_isContract ?_
    by_cases h2 : isW b (cn 0) (cn 3) = 0
    · refine y_ifT yk173 0 13 20 rfl rfl rfl (decide_eq_true h2) ?_
      have hk : kMove a b c = 1 := by unfold kMove; (try simp only [if_neg h1, if_pos h2]); (try (repeat' (first | rfl | split)))
      exact y_thr yk173 2 24 rfl (x_np0 rfl) (by decide +kernel) nh173 (by rw [hk]; rfl)
    · refine y_ifF yk173 0 13 16 rfl rfl rfl (by decide) (decide_eq_false h2) ?_
      refine y_go yk173 2 21 rfl ?_
      refine y_ca0 yk173 1 24 rfl (x_np1 (by decide)) ?_
      refine y_cal yk173 4 32 rfl x_isW ?_
      by_cases h3 : isW c (cn (-99)) (cn 99) = 0
      · have hk : kMove a b c = 2 := by unfold kMove; (try simp only [if_neg h1, if_neg h2, if_pos h3]); (try (repeat' (first | rfl | split)))
        exact y_thr yk173 1 35 rfl (x_nr0 h3) (by decide +kernel) nh173 (by rw [hk]; rfl)
      · refine y_ca0 yk173 1 35 rfl (x_nr1 h3) ?_
        refine y_gfr yk173 2 37 40 5 1 0 rfl rfl rfl rfl rfl rfl (by decide) ?_
        have hk : kMove a b c = 0 := by unfold kMove; (try simp only [if_neg h1, if_neg h2, if_neg h3]); (try (repeat' (first | rfl | split)))
        obtain ⟨G, W⟩ := HO hk
        refine y_cal yk173 9 52 rfl (x_enter ht _ _ _ _ _ _ _) ?_
        refine y_cal yk173 1 55 rfl (x_play_c (k := 20) (by decide) ht hg G W) ?_
        exact y_ret yk173 1 rfl (by rw [hk]; rfl)
theorem fc_21 (I : IV lg P0 Q2 N T D t) (ht : t < 512) (hg : Gr 0 P0) (HO : kHair a = 0 → gE P0 a (cn 0) (cn 0) (cn 0) (cn 0) (cn 0) 21 ∧ g5_work (vE P0 a (cn 0) (cn 0) (cn 0) (cn 0) (cn 0) 21).2) : X 174 0 [rR 3 11 1, vI a] [] (mm P0 P1 Q cl (cn t) kp fo ou L xs e) = evR (kHair a) [1] (okO P0 P1 Q cl kp fo ou L xs e t 21 a (cn 0) (cn 0) (cn 0) (cn 0) (cn 0)) (mm P0 P1 Q cl (cn t) kp fo ou L xs e) := by
  refine y_cal yk174 4 7 rfl x_isW ?_
  by_cases h1 : isW a (cn 0) (cn 100) = 0
  · have hk : kHair a = 1 := by unfold kHair; (try simp only [if_pos h1]); (try (repeat' (first | rfl | split)))
    exact y_thr yk174 1 10 rfl (x_nr0 h1) (by decide +kernel) nh174 (by rw [hk]; rfl)
  · refine y_ca0 yk174 1 10 rfl (x_nr1 h1) ?_
    refine y_gfr yk174 2 12 15 5 1 0 rfl rfl rfl rfl rfl rfl (by decide) ?_
    have hk : kHair a = 0 := by unfold kHair; (try simp only [if_neg h1]); (try (repeat' (first | rfl | split)))
    obtain ⟨G, W⟩ := HO hk
    refine y_cal yk174 9 27 rfl (x_enter ht _ _ _ _ _ _ _) ?_
    refine y_cal yk174 1 30 rfl (x_play_c (k := 21) (by decide) ht hg G W) ?_
    exact y_ret yk174 1 rfl (by rw [hk]; rfl)
end Face1
