/-! the face's calls that are events (pay, setFund, fail, bid, closeOut) -/
def Y167 : List YR := [(0, .iload_n 1, 1, 0, 0, 0, 0, 0), (1, .invokestatic 160, 3, 197, 1, 1, 11, 0), (4, .invokestatic 30, 3, 190, 1, 1, 11, 0), (7, .iload_n 2, 1, 0, 0, 0, 0, 0), (8, .sipush (-9999), 3, 0, 0, 0, 0, (-9999)), (11, .sipush 9999, 3, 0, 0, 0, 0, 9999), (14, .invokestatic 59, 3, 193, 3, 3, 11, 0), (17, .ifCond .eq 18, 3, 0, 0, 0, 0, 0), (20, .iload_n 3, 1, 0, 0, 0, 0, 0), (21, .bipush (-99), 2, 0, 0, 0, 0, (-99)), (23, .bipush 99, 2, 0, 0, 0, 0, 99), (25, .invokestatic 59, 3, 193, 3, 3, 11, 0), (28, .ifCond .eq 7, 3, 0, 0, 0, 0, 0), (31, .iconst 1, 1, 0, 0, 0, 0, 1), (32, .goto 4, 3, 0, 0, 0, 0, 0), (35, .iconst 0, 1, 0, 0, 0, 0, 0), (36, .invokestatic 63, 3, 191, 1, 1, 11, 0), (39, .aload_n 0, 1, 0, 0, 0, 0, 0), (40, .getfield 10, 3, 11, 0, 8, 0, 0), (43, .getfield 163, 3, 5, 4, 5, 0, 0), (46, .iload_n 1, 1, 0, 0, 0, 0, 0), (47, .iload_n 2, 1, 0, 0, 0, 0, 0), (48, .iload_n 3, 1, 0, 0, 0, 0, 0), (49, .invokevirtual 167, 3, 28, 4, 7, 2, 0), (52, .invokestatic 73, 3, 192, 1, 1, 11, 0), (55, .aload_n 0, 1, 0, 0, 0, 0, 0), (56, .aload_n 0, 1, 0, 0, 0, 0, 0), (57, .getfield 10, 3, 11, 0, 8, 0, 0), (60, .aload_n 0, 1, 0, 0, 0, 0, 0), (61, .bipush 23, 2, 0, 0, 0, 0, 23), (63, .iload_n 1, 1, 0, 0, 0, 0, 0), (64, .iload_n 2, 1, 0, 0, 0, 0, 0), (65, .iload_n 3, 1, 0, 0, 0, 0, 0), (66, .iconst 0, 1, 0, 0, 0, 0, 0), (67, .iconst 0, 1, 0, 0, 0, 0, 0), (68, .iconst 0, 1, 0, 0, 0, 0, 0), (69, .invokevirtual 76, 3, 200, 8, 9, 11, 0), (72, .invokevirtual 80, 3, 201, 3, 11, 11, 0), (75, .ireturn, 1, 0, 0, 0, 0, 0)]
set_option maxRecDepth 100000 in
theorem yr167 : Y167.all (rok3 167) = true := by decide +kernel
set_option maxRecDepth 100000 in
theorem yk167 : T3OK 167 Y167 := t3_ok (K := K167) rfl (fun h => d167 h) yr167
set_option maxRecDepth 100000 in
theorem nh167 : lk hT 167 = none := by decide +kernel
set_option maxRecDepth 100000 in
set_option maxRecDepth 100000 in
set_option maxRecDepth 100000 in
def Y168 : List YR := [(0, .iload_n 1, 1, 0, 0, 0, 0, 0), (1, .invokestatic 160, 3, 197, 1, 1, 11, 0), (4, .invokestatic 30, 3, 190, 1, 1, 11, 0), (7, .aload_n 0, 1, 0, 0, 0, 0, 0), (8, .getfield 10, 3, 11, 0, 8, 0, 0), (11, .getfield 163, 3, 5, 4, 5, 0, 0), (14, .iload_n 1, 1, 0, 0, 0, 0, 0), (15, .invokevirtual 181, 3, 33, 2, 3, 2, 0), (18, .invokestatic 73, 3, 192, 1, 1, 11, 0), (21, .aload_n 0, 1, 0, 0, 0, 0, 0), (22, .aload_n 0, 1, 0, 0, 0, 0, 0), (23, .getfield 10, 3, 11, 0, 8, 0, 0), (26, .aload_n 0, 1, 0, 0, 0, 0, 0), (27, .bipush 25, 2, 0, 0, 0, 0, 25), (29, .iload_n 1, 1, 0, 0, 0, 0, 0), (30, .iconst 0, 1, 0, 0, 0, 0, 0), (31, .iconst 0, 1, 0, 0, 0, 0, 0), (32, .iconst 0, 1, 0, 0, 0, 0, 0), (33, .iconst 0, 1, 0, 0, 0, 0, 0), (34, .iconst 0, 1, 0, 0, 0, 0, 0), (35, .invokevirtual 76, 3, 200, 8, 9, 11, 0), (38, .invokevirtual 80, 3, 201, 3, 11, 11, 0), (41, .ireturn, 1, 0, 0, 0, 0, 0)]
set_option maxRecDepth 100000 in
theorem yr168 : Y168.all (rok3 168) = true := by decide +kernel
set_option maxRecDepth 100000 in
theorem yk168 : T3OK 168 Y168 := t3_ok (K := K168) rfl (fun h => d168 h) yr168
set_option maxRecDepth 100000 in
theorem nh168 : lk hT 168 = none := by decide +kernel
def Y169 : List YR := [(0, .iload_n 1, 1, 0, 0, 0, 0, 0), (1, .invokestatic 160, 3, 197, 1, 1, 11, 0), (4, .invokestatic 30, 3, 190, 1, 1, 11, 0), (7, .iload_n 2, 1, 0, 0, 0, 0, 0), (8, .sipush (-9999), 3, 0, 0, 0, 0, (-9999)), (11, .sipush 9999, 3, 0, 0, 0, 0, 9999), (14, .invokestatic 59, 3, 193, 3, 3, 11, 0), (17, .invokestatic 63, 3, 191, 1, 1, 11, 0), (20, .aload_n 0, 1, 0, 0, 0, 0, 0), (21, .getfield 10, 3, 11, 0, 8, 0, 0), (24, .getfield 163, 3, 5, 4, 5, 0, 0), (27, .getfield 184, 3, 2, 6, 0, 0, 0), (30, .ldc 58, 2, 0, 0, 0, 0, (-100000)), (32, .if_icmp .eq 24, 3, 0, 0, 0, 0, 0), (35, .aload_n 0, 1, 0, 0, 0, 0, 0), (36, .getfield 10, 3, 11, 0, 8, 0, 0), (39, .getfield 163, 3, 5, 4, 5, 0, 0), (42, .iload_n 1, 1, 0, 0, 0, 0, 0), (43, .invokevirtual 172, 3, 18, 2, 2, 2, 0), (46, .getfield 176, 3, 9, 3, 1, 0, 0), (49, .ifCond .ne 7, 3, 0, 0, 0, 0, 0), (52, .iconst 1, 1, 0, 0, 0, 0, 1), (53, .goto 4, 3, 0, 0, 0, 0, 0), (56, .iconst 0, 1, 0, 0, 0, 0, 0), (57, .invokestatic 73, 3, 192, 1, 1, 11, 0), (60, .aload_n 0, 1, 0, 0, 0, 0, 0), (61, .aload_n 0, 1, 0, 0, 0, 0, 0), (62, .getfield 10, 3, 11, 0, 8, 0, 0), (65, .aload_n 0, 1, 0, 0, 0, 0, 0), (66, .bipush 26, 2, 0, 0, 0, 0, 26), (68, .iload_n 1, 1, 0, 0, 0, 0, 0), (69, .iload_n 2, 1, 0, 0, 0, 0, 0), (70, .iconst 0, 1, 0, 0, 0, 0, 0), (71, .iconst 0, 1, 0, 0, 0, 0, 0), (72, .iconst 0, 1, 0, 0, 0, 0, 0), (73, .iconst 0, 1, 0, 0, 0, 0, 0), (74, .invokevirtual 76, 3, 200, 8, 9, 11, 0), (77, .invokevirtual 80, 3, 201, 3, 11, 11, 0), (80, .ireturn, 1, 0, 0, 0, 0, 0)]
set_option maxRecDepth 100000 in
theorem yr169 : Y169.all (rok3 169) = true := by decide +kernel
set_option maxRecDepth 100000 in
theorem yk169 : T3OK 169 Y169 := t3_ok (K := K169) rfl (fun h => d169 h) yr169
set_option maxRecDepth 100000 in
theorem nh169 : lk hT 169 = none := by decide +kernel
def Y170 : List YR := [(0, .aload_n 0, 1, 0, 0, 0, 0, 0), (1, .getfield 10, 3, 11, 0, 8, 0, 0), (4, .getfield 163, 3, 5, 4, 5, 0, 0), (7, .getfield 184, 3, 2, 6, 0, 0, 0), (10, .ldc 58, 2, 0, 0, 0, 0, (-100000)), (12, .if_icmp .eq 7, 3, 0, 0, 0, 0, 0), (15, .iconst 1, 1, 0, 0, 0, 0, 1), (16, .goto 4, 3, 0, 0, 0, 0, 0), (19, .iconst 0, 1, 0, 0, 0, 0, 0), (20, .invokestatic 73, 3, 192, 1, 1, 11, 0), (23, .aload_n 0, 1, 0, 0, 0, 0, 0), (24, .aload_n 0, 1, 0, 0, 0, 0, 0), (25, .getfield 10, 3, 11, 0, 8, 0, 0), (28, .aload_n 0, 1, 0, 0, 0, 0, 0), (29, .bipush 27, 2, 0, 0, 0, 0, 27), (31, .iconst 0, 1, 0, 0, 0, 0, 0), (32, .iconst 0, 1, 0, 0, 0, 0, 0), (33, .iconst 0, 1, 0, 0, 0, 0, 0), (34, .iconst 0, 1, 0, 0, 0, 0, 0), (35, .iconst 0, 1, 0, 0, 0, 0, 0), (36, .iconst 0, 1, 0, 0, 0, 0, 0), (37, .invokevirtual 76, 3, 200, 8, 9, 11, 0), (40, .invokevirtual 80, 3, 201, 3, 11, 11, 0), (43, .ireturn, 1, 0, 0, 0, 0, 0)]
set_option maxRecDepth 100000 in
theorem yr170 : Y170.all (rok3 170) = true := by decide +kernel
set_option maxRecDepth 100000 in
theorem yk170 : T3OK 170 Y170 := t3_ok (K := K170) rfl (fun h => d170 h) yr170
set_option maxRecDepth 100000 in
theorem nh170 : lk hT 170 = none := by decide +kernel
section Face5
variable {P0 P1 Q Q2 : PM} {cl : Nat → Int32} {kp fo : Int32} {ou : Int64} {L e N T D t : Nat} {xs lg : Nat → Int32} {a b c d x f : Int32}
theorem fc_22 (I : IV lg P0 Q2 N T D t) (ht : t < 512) (hg : Gr 0 P0) (HO : kPay P0 a b c = 0 → gE P0 a b c (cn 0) (cn 0) (cn 0) 22 ∧ g5_work (vE P0 a b c (cn 0) (cn 0) (cn 0) 22).2) : X 167 0 [rR 3 11 1, vI a, vI b, vI c] [] (mm P0 P1 Q cl (cn t) kp fo ou L xs e) = evR (kPay P0 a b c) [0, 1, 2] (okO P0 P1 Q cl kp fo ou L xs e t 22 a b c (cn 0) (cn 0) (cn 0)) (mm P0 P1 Q cl (cn t) kp fo ou L xs e) := by
  refine y_cal yk167 2 4 rfl x_isMember ?_
  by_cases h1 : isW a (cn 0) (cn 3) = 0
  · have hk : kPay P0 a b c = 1 := by unfold kPay; (try simp only [if_pos h1]); (try (repeat' (first | rfl | split)))
    exact y_thr yk167 1 7 rfl (x_np0 h1) (by decide +kernel) nh167 (by rw [hk]; rfl)
  · refine y_ca0 yk167 1 7 rfl (x_np1 h1) ?_
    refine y_cal yk167 4 17 rfl x_isW ?_
    by_cases h2 : isW b (cn (-9999)) (cn 9999) = 0
    · refine y_ifT yk167 0 17 35 rfl rfl rfl (decide_eq_true h2) ?_
      have hk : kPay P0 a b c = 2 := by unfold kPay; (try simp only [if_neg h1, if_pos h2]); (try (repeat' (first | rfl | split)))
      exact y_thr yk167 2 39 rfl (x_nr0 rfl) (by decide +kernel) nh167 (by rw [hk]; rfl)
    · refine y_ifF yk167 0 17 20 rfl rfl rfl (by decide) (decide_eq_false h2) ?_
      refine y_cal yk167 4 28 rfl x_isW ?_
      by_cases h3 : isW c (cn (-99)) (cn 99) = 0
      · refine y_ifT yk167 0 28 35 rfl rfl rfl (decide_eq_true h3) ?_
        have hk : kPay P0 a b c = 2 := by unfold kPay; (try simp only [if_neg h1, if_neg h2, if_pos h3]); (try (repeat' (first | rfl | split)))
        exact y_thr yk167 2 39 rfl (x_nr0 rfl) (by decide +kernel) nh167 (by rw [hk]; rfl)
      · refine y_ifF yk167 0 28 31 rfl rfl rfl (by decide) (decide_eq_false h3) ?_
        refine y_go yk167 2 36 rfl ?_
        refine y_ca0 yk167 1 39 rfl (x_nr1 (by decide)) ?_
        refine y_gfr yk167 1 40 43 5 1 0 rfl rfl rfl rfl rfl rfl (by decide) ?_
        refine y_gfr yk167 0 43 46 2 1 0 rfl rfl rfl rfl rfl (hg.1 (5, 4, 1) (by decide)) (by decide) ?_
        have e1 := x_I (M := (mm P0 P1 Q cl (cn t) kp fo ou L xs e)) okx0 (t2_canPay P0 hg a b c (gpay I h1))
        refine y_cal yk167 4 52 rfl e1 ?_
        by_cases h4 : v2_canPay P0 a b c = 0
        · have hk : kPay P0 a b c = 3 := by unfold kPay; (try simp only [if_neg h1, if_neg h2, if_neg h3, if_pos h4]); (try (repeat' (first | rfl | split)))
          exact y_thr yk167 1 55 rfl (x_ns0 h4) (by decide +kernel) nh167 (by rw [hk]; rfl)
        · refine y_ca0 yk167 1 55 rfl (x_ns1 h4) ?_
          refine y_gfr yk167 2 57 60 5 1 0 rfl rfl rfl rfl rfl rfl (by decide) ?_
          have hk : kPay P0 a b c = 0 := by unfold kPay; (try simp only [if_neg h1, if_neg h2, if_neg h3, if_neg h4]); (try (repeat' (first | rfl | split)))
          obtain ⟨G, W⟩ := HO hk
          refine y_cal yk167 9 72 rfl (x_enter ht _ _ _ _ _ _ _) ?_
          refine y_cal yk167 1 75 rfl (x_play_c (k := 22) (by decide) ht hg G W) ?_
          exact y_ret yk167 1 rfl (by rw [hk]; rfl)
theorem fc_24 (I : IV lg P0 Q2 N T D t) (ht : t < 512) (hg : Gr 0 P0) (HO : kFail P0 a = 0 → gE P0 a (cn 0) (cn 0) (cn 0) (cn 0) (cn 0) 24 ∧ g5_work (vE P0 a (cn 0) (cn 0) (cn 0) (cn 0) (cn 0) 24).2) : X 168 0 [rR 3 11 1, vI a] [] (mm P0 P1 Q cl (cn t) kp fo ou L xs e) = evR (kFail P0 a) [0, 2] (okO P0 P1 Q cl kp fo ou L xs e t 24 a (cn 0) (cn 0) (cn 0) (cn 0) (cn 0)) (mm P0 P1 Q cl (cn t) kp fo ou L xs e) := by
  refine y_cal yk168 2 4 rfl x_isMember ?_
  by_cases h1 : isW a (cn 0) (cn 3) = 0
  · have hk : kFail P0 a = 1 := by unfold kFail; (try simp only [if_pos h1]); (try (repeat' (first | rfl | split)))
    exact y_thr yk168 1 7 rfl (x_np0 h1) (by decide +kernel) nh168 (by rw [hk]; rfl)
  · refine y_ca0 yk168 1 7 rfl (x_np1 h1) ?_
    refine y_gfr yk168 1 8 11 5 1 0 rfl rfl rfl rfl rfl rfl (by decide) ?_
    refine y_gfr yk168 0 11 14 2 1 0 rfl rfl rfl rfl rfl (hg.1 (5, 4, 1) (by decide)) (by decide) ?_
    have e1 := x_I (M := (mm P0 P1 Q cl (cn t) kp fo ou L xs e)) okx0 (t2_canFail P0 hg a (gfail I h1))
    refine y_cal yk168 2 18 rfl e1 ?_
    by_cases h2 : v2_canFail P0 a = 0
    · have hk : kFail P0 a = 2 := by unfold kFail; (try simp only [if_neg h1, if_pos h2]); (try (repeat' (first | rfl | split)))
      exact y_thr yk168 1 21 rfl (x_ns0 h2) (by decide +kernel) nh168 (by rw [hk]; rfl)
    · refine y_ca0 yk168 1 21 rfl (x_ns1 h2) ?_
      refine y_gfr yk168 2 23 26 5 1 0 rfl rfl rfl rfl rfl rfl (by decide) ?_
      have hk : kFail P0 a = 0 := by unfold kFail; (try simp only [if_neg h1, if_neg h2]); (try (repeat' (first | rfl | split)))
      obtain ⟨G, W⟩ := HO hk
      refine y_cal yk168 9 38 rfl (x_enter ht _ _ _ _ _ _ _) ?_
      refine y_cal yk168 1 41 rfl (x_play_c (k := 24) (by decide) ht hg G W) ?_
      exact y_ret yk168 1 rfl (by rw [hk]; rfl)
theorem fc_25 (I : IV lg P0 Q2 N T D t) (ht : t < 512) (hg : Gr 0 P0) (HO : kBid P0 a b = 0 → gE P0 a b (cn 0) (cn 0) (cn 0) (cn 0) 25 ∧ g5_work (vE P0 a b (cn 0) (cn 0) (cn 0) (cn 0) 25).2) : X 169 0 [rR 3 11 1, vI a, vI b] [] (mm P0 P1 Q cl (cn t) kp fo ou L xs e) = evR (kBid P0 a b) [0, 1, 2] (okO P0 P1 Q cl kp fo ou L xs e t 25 a b (cn 0) (cn 0) (cn 0) (cn 0)) (mm P0 P1 Q cl (cn t) kp fo ou L xs e) := by
  refine y_cal yk169 2 4 rfl x_isMember ?_
  by_cases h1 : isW a (cn 0) (cn 3) = 0
  · have hk : kBid P0 a b = 1 := by unfold kBid; (try simp only [if_pos h1]); (try (repeat' (first | rfl | split)))
    exact y_thr yk169 1 7 rfl (x_np0 h1) (by decide +kernel) nh169 (by rw [hk]; rfl)
  · refine y_ca0 yk169 1 7 rfl (x_np1 h1) ?_
    refine y_cal yk169 4 17 rfl x_isW ?_
    by_cases h2 : isW b (cn (-9999)) (cn 9999) = 0
    · have hk : kBid P0 a b = 2 := by unfold kBid; (try simp only [if_neg h1, if_pos h2]); (try (repeat' (first | rfl | split)))
      exact y_thr yk169 1 20 rfl (x_nr0 h2) (by decide +kernel) nh169 (by rw [hk]; rfl)
    · refine y_ca0 yk169 1 20 rfl (x_nr1 h2) ?_
      refine y_gfr yk169 1 21 24 5 1 0 rfl rfl rfl rfl rfl rfl (by decide) ?_
      refine y_gfr yk169 0 24 27 2 1 0 rfl rfl rfl rfl rfl (hg.1 (5, 4, 1) (by decide)) (by decide) ?_
      by_cases h3 : (P0.1 2 1 6) = (cn (-100000))
      · refine y_icT yk169 2 32 56 rfl rfl rfl (decide_eq_true h3) ?_
        have hk : kBid P0 a b = 3 := by unfold kBid; (try simp only [if_neg h1, if_neg h2, if_pos h3]); (try (repeat' (first | rfl | split)))
        exact y_thr yk169 2 60 rfl (x_ns0 rfl) (by decide +kernel) nh169 (by rw [hk]; rfl)
      · refine y_icF yk169 2 32 35 rfl rfl rfl (by decide) (decide_eq_false h3) ?_
        refine y_gfr yk169 1 36 39 5 1 0 rfl rfl rfl rfl rfl rfl (by decide) ?_
        refine y_gfr yk169 0 39 42 2 1 0 rfl rfl rfl rfl rfl (hg.1 (5, 4, 1) (by decide)) (by decide) ?_
        have e1 := x_R (M := (mm P0 P1 Q cl (cn t) kp fo ou L xs e)) okx0 (fmb3 P0 h1).2 (t2_memberAt P0 hg a (fmb3 P0 h1).1)
        refine y_cal yk169 2 46 rfl e1 ?_
        by_cases h4 : P0.1 9 (v2_memberAt P0 a) 3 = 0
        · refine y_ifF yk169 1 49 52 rfl rfl rfl (by decide) (decide_eq_false (fun h9 => h9 h4)) ?_
          refine y_go yk169 2 57 rfl ?_
          refine y_ca0 yk169 1 60 rfl (x_ns1 (by decide)) ?_
          refine y_gfr yk169 2 62 65 5 1 0 rfl rfl rfl rfl rfl rfl (by decide) ?_
          have hk : kBid P0 a b = 0 := by unfold kBid; (try simp only [if_neg h1, if_neg h2, if_neg h3, if_pos h4]); (try (repeat' (first | rfl | split)))
          obtain ⟨G, W⟩ := HO hk
          refine y_cal yk169 9 77 rfl (x_enter ht _ _ _ _ _ _ _) ?_
          refine y_cal yk169 1 80 rfl (x_play_c (k := 25) (by decide) ht hg G W) ?_
          exact y_ret yk169 1 rfl (by rw [hk]; rfl)
        · refine y_ifT yk169 1 49 56 rfl rfl rfl (decide_eq_true h4) ?_
          have hk : kBid P0 a b = 3 := by unfold kBid; (try simp only [if_neg h1, if_neg h2, if_neg h3, if_neg h4]); (try (repeat' (first | rfl | split)))
          exact y_thr yk169 2 60 rfl (x_ns0 rfl) (by decide +kernel) nh169 (by rw [hk]; rfl)
theorem fc_26 (I : IV lg P0 Q2 N T D t) (ht : t < 512) (hg : Gr 0 P0) (HO : kClose P0 = 0 → gE P0 (cn 0) (cn 0) (cn 0) (cn 0) (cn 0) (cn 0) 26 ∧ g5_work (vE P0 (cn 0) (cn 0) (cn 0) (cn 0) (cn 0) (cn 0) 26).2) : X 170 0 [rR 3 11 1] [] (mm P0 P1 Q cl (cn t) kp fo ou L xs e) = evR (kClose P0) [2] (okO P0 P1 Q cl kp fo ou L xs e t 26 (cn 0) (cn 0) (cn 0) (cn 0) (cn 0) (cn 0)) (mm P0 P1 Q cl (cn t) kp fo ou L xs e) := by
  refine y_gfr yk170 1 1 4 5 1 0 rfl rfl rfl rfl rfl rfl (by decide) ?_
  refine y_gfr yk170 0 4 7 2 1 0 rfl rfl rfl rfl rfl (hg.1 (5, 4, 1) (by decide)) (by decide) ?_
  by_cases h1 : (P0.1 2 1 6) = (cn (-100000))
  · refine y_icT yk170 2 12 19 rfl rfl rfl (decide_eq_true h1) ?_
    have hk : kClose P0 = 1 := by unfold kClose; (try simp only [if_pos h1]); (try (repeat' (first | rfl | split)))
    exact y_thr yk170 2 23 rfl (x_ns0 rfl) (by decide +kernel) nh170 (by rw [hk]; rfl)
  · refine y_icF yk170 2 12 15 rfl rfl rfl (by decide) (decide_eq_false h1) ?_
    refine y_go yk170 2 20 rfl ?_
    refine y_ca0 yk170 1 23 rfl (x_ns1 (by decide)) ?_
    refine y_gfr yk170 2 25 28 5 1 0 rfl rfl rfl rfl rfl rfl (by decide) ?_
    have hk : kClose P0 = 0 := by unfold kClose; (try simp only [if_neg h1]); (try (repeat' (first | rfl | split)))
    obtain ⟨G, W⟩ := HO hk
    refine y_cal yk170 9 40 rfl (x_enter ht _ _ _ _ _ _ _) ?_
    refine y_cal yk170 1 43 rfl (x_play_c (k := 26) (by decide) ht hg G W) ?_
    exact y_ret yk170 1 rfl (by rw [hk]; rfl)
end Face5
