/-! the face's calls that are events (bust, adjust, giveUp, allot, exercise, convert) -/
def Y163 : List YR := [(0, .aload_n 0, 1, 0, 0, 0, 0, 0), (1, .iload_n 1, 1, 0, 0, 0, 0, 0), (2, .invokevirtual 119, 3, 199, 2, 3, 11, 0), (5, .getfield 123, 3, 4, 5, 1, 0, 0), (8, .ifCond .ne 7, 3, 0, 0, 0, 0, 0), (11, .iconst 1, 1, 0, 0, 0, 0, 1), (12, .goto 4, 3, 0, 0, 0, 0, 0), (15, .iconst 0, 1, 0, 0, 0, 0, 0), (16, .invokestatic 73, 3, 192, 1, 1, 11, 0), (19, .aload_n 0, 1, 0, 0, 0, 0, 0), (20, .aload_n 0, 1, 0, 0, 0, 0, 0), (21, .getfield 10, 3, 11, 0, 8, 0, 0), (24, .aload_n 0, 1, 0, 0, 0, 0, 0), (25, .bipush 15, 2, 0, 0, 0, 0, 15), (27, .iload_n 1, 1, 0, 0, 0, 0, 0), (28, .iconst 0, 1, 0, 0, 0, 0, 0), (29, .iconst 0, 1, 0, 0, 0, 0, 0), (30, .iconst 0, 1, 0, 0, 0, 0, 0), (31, .iconst 0, 1, 0, 0, 0, 0, 0), (32, .iconst 0, 1, 0, 0, 0, 0, 0), (33, .invokevirtual 76, 3, 200, 8, 9, 11, 0), (36, .invokevirtual 80, 3, 201, 3, 11, 11, 0), (39, .ireturn, 1, 0, 0, 0, 0, 0)]
set_option maxRecDepth 100000 in
theorem yr163 : Y163.all (rok3 163) = true := by decide +kernel
set_option maxRecDepth 100000 in
theorem yk163 : T3OK 163 Y163 := t3_ok (K := K163) rfl (fun h => d163 h) yr163
set_option maxRecDepth 100000 in
theorem nh163 : lk hT 163 = none := by decide +kernel
set_option maxRecDepth 100000 in
set_option maxRecDepth 100000 in
set_option maxRecDepth 100000 in
set_option maxRecDepth 100000 in
set_option maxRecDepth 100000 in
set_option maxRecDepth 100000 in
set_option maxRecDepth 100000 in
set_option maxRecDepth 100000 in
set_option maxRecDepth 100000 in
set_option maxRecDepth 100000 in
set_option maxRecDepth 100000 in
set_option maxRecDepth 100000 in
def Y164 : List YR := [(0, .iload_n 1, 1, 0, 0, 0, 0, 0), (1, .iconst 0, 1, 0, 0, 0, 0, 0), (2, .iconst 2, 1, 0, 0, 0, 0, 2), (3, .invokestatic 59, 3, 193, 3, 3, 11, 0), (6, .invokestatic 30, 3, 190, 1, 1, 11, 0), (9, .iload_n 2, 1, 0, 0, 0, 0, 0), (10, .iconst 1, 1, 0, 0, 0, 0, 1), (11, .bipush 9, 2, 0, 0, 0, 0, 9), (13, .invokestatic 59, 3, 193, 3, 3, 11, 0), (16, .ifCond .eq 17, 3, 0, 0, 0, 0, 0), (19, .iload_n 3, 1, 0, 0, 0, 0, 0), (20, .iconst 1, 1, 0, 0, 0, 0, 1), (21, .bipush 9, 2, 0, 0, 0, 0, 9), (23, .invokestatic 59, 3, 193, 3, 3, 11, 0), (26, .ifCond .eq 7, 3, 0, 0, 0, 0, 0), (29, .iconst 1, 1, 0, 0, 0, 0, 1), (30, .goto 4, 3, 0, 0, 0, 0, 0), (33, .iconst 0, 1, 0, 0, 0, 0, 0), (34, .invokestatic 63, 3, 191, 1, 1, 11, 0), (37, .aload_n 0, 1, 0, 0, 0, 0, 0), (38, .getfield 10, 3, 11, 0, 8, 0, 0), (41, .getfield 141, 3, 5, 1, 10, 0, 0), (44, .iload_n 1, 1, 0, 0, 0, 0, 0), (45, .iload_n 2, 1, 0, 0, 0, 0, 0), (46, .iload_n 3, 1, 0, 0, 0, 0, 0), (47, .invokevirtual 157, 3, 115, 4, 5, 7, 0), (50, .invokestatic 73, 3, 192, 1, 1, 11, 0), (53, .aload_n 0, 1, 0, 0, 0, 0, 0), (54, .aload_n 0, 1, 0, 0, 0, 0, 0), (55, .getfield 10, 3, 11, 0, 8, 0, 0), (58, .aload_n 0, 1, 0, 0, 0, 0, 0), (59, .bipush 20, 2, 0, 0, 0, 0, 20), (61, .iload_n 1, 1, 0, 0, 0, 0, 0), (62, .iload_n 2, 1, 0, 0, 0, 0, 0), (63, .iload_n 3, 1, 0, 0, 0, 0, 0), (64, .iconst 0, 1, 0, 0, 0, 0, 0), (65, .iconst 0, 1, 0, 0, 0, 0, 0), (66, .iconst 0, 1, 0, 0, 0, 0, 0), (67, .invokevirtual 76, 3, 200, 8, 9, 11, 0), (70, .invokevirtual 80, 3, 201, 3, 11, 11, 0), (73, .ireturn, 1, 0, 0, 0, 0, 0)]
set_option maxRecDepth 100000 in
theorem yr164 : Y164.all (rok3 164) = true := by decide +kernel
set_option maxRecDepth 100000 in
theorem yk164 : T3OK 164 Y164 := t3_ok (K := K164) rfl (fun h => d164 h) yr164
set_option maxRecDepth 100000 in
theorem nh164 : lk hT 164 = none := by decide +kernel
section Face4
variable {P0 P1 Q Q2 : PM} {cl : Nat → Int32} {kp fo : Int32} {ou : Int64} {L e N T D t : Nat} {xs lg : Nat → Int32} {a b c d x f : Int32}
theorem fc_14 (I : IV lg P0 Q2 N T D t) (ht : t < 512) (hg : Gr 0 P0) (HO : kBust P0 a = 0 → gE P0 a (cn 0) (cn 0) (cn 0) (cn 0) (cn 0) 14 ∧ g5_work (vE P0 a (cn 0) (cn 0) (cn 0) (cn 0) (cn 0) 14).2) : X 163 0 [rR 3 11 1, vI a] [] (mm P0 P1 Q cl (cn t) kp fo ou L xs e) = evR (kBust P0 a) [0, 2] (okO P0 P1 Q cl kp fo ou L xs e t 14 a (cn 0) (cn 0) (cn 0) (cn 0) (cn 0)) (mm P0 P1 Q cl (cn t) kp fo ou L xs e) := by
  by_cases h1 : v7_find P0 a = 0
  · have hk : kBust P0 a = 1 := by unfold kBust; (try simp only [if_pos h1]); (try (repeat' (first | rfl | split)))
    exact y_thr yk163 3 5 rfl (x_kept0 hg (gkept I).1 h1) (by decide +kernel) nh163 (by rw [hk]; rfl)
  · refine y_cal yk163 3 5 rfl (x_kept1 hg (gkept I).1 h1) ?_
    by_cases h2 : P0.1 4 (v7_find P0 a) 5 = 0
    · refine y_ifF yk163 1 8 11 rfl rfl rfl (by decide) (decide_eq_false (fun h9 => h9 h2)) ?_
      refine y_go yk163 2 16 rfl ?_
      refine y_ca0 yk163 1 19 rfl (x_ns1 (by decide)) ?_
      refine y_gfr yk163 2 21 24 5 1 0 rfl rfl rfl rfl rfl rfl (by decide) ?_
      have hk : kBust P0 a = 0 := by unfold kBust; (try simp only [if_neg h1, if_pos h2]); (try (repeat' (first | rfl | split)))
      obtain ⟨G, W⟩ := HO hk
      refine y_cal yk163 9 36 rfl (x_enter ht _ _ _ _ _ _ _) ?_
      refine y_cal yk163 1 39 rfl (x_play_c (k := 14) (by decide) ht hg G W) ?_
      exact y_ret yk163 1 rfl (by rw [hk]; rfl)
    · refine y_ifT yk163 1 8 15 rfl rfl rfl (decide_eq_true h2) ?_
      have hk : kBust P0 a = 2 := by unfold kBust; (try simp only [if_neg h1, if_neg h2]); (try (repeat' (first | rfl | split)))
      exact y_thr yk163 2 19 rfl (x_ns0 rfl) (by decide +kernel) nh163 (by rw [hk]; rfl)
theorem fc_19 (I : IV lg P0 Q2 N T D t) (ht : t < 512) (hg : Gr 0 P0) (HO : kConv P0 a b c = 0 → gE P0 a b c (cn 0) (cn 0) (cn 0) 19 ∧ g5_work (vE P0 a b c (cn 0) (cn 0) (cn 0) 19).2) : X 164 0 [rR 3 11 1, vI a, vI b, vI c] [] (mm P0 P1 Q cl (cn t) kp fo ou L xs e) = evR (kConv P0 a b c) [0, 1, 2] (okO P0 P1 Q cl kp fo ou L xs e t 19 a b c (cn 0) (cn 0) (cn 0)) (mm P0 P1 Q cl (cn t) kp fo ou L xs e) := by
  refine y_cal yk164 4 6 rfl x_isW ?_
  by_cases h1 : isW a (cn 0) (cn 2) = 0
  · have hk : kConv P0 a b c = 1 := by unfold kConv; (try simp only [if_pos h1]); (try (repeat' (first | rfl | split)))
    exact y_thr yk164 1 9 rfl (x_np0 h1) (by decide +kernel) nh164 (by rw [hk]; rfl)
  · refine y_ca0 yk164 1 9 rfl (x_np1 h1) ?_
    refine y_cal yk164 4 16 rfl x_isW ?_
    by_cases h2 : isW b (cn 1) (cn 9) = 0
    · refine y_ifT yk164 0 16 33 rfl rfl rfl (decide_eq_true h2) ?_
      have hk : kConv P0 a b c = 2 := by unfold kConv; (try simp only [if_neg h1, if_pos h2]); (try (repeat' (first | rfl | split)))
      exact y_thr yk164 2 37 rfl (x_nr0 rfl) (by decide +kernel) nh164 (by rw [hk]; rfl)
    · refine y_ifF yk164 0 16 19 rfl rfl rfl (by decide) (decide_eq_false h2) ?_
      refine y_cal yk164 4 26 rfl x_isW ?_
      by_cases h3 : isW c (cn 1) (cn 9) = 0
      · refine y_ifT yk164 0 26 33 rfl rfl rfl (decide_eq_true h3) ?_
        have hk : kConv P0 a b c = 2 := by unfold kConv; (try simp only [if_neg h1, if_neg h2, if_pos h3]); (try (repeat' (first | rfl | split)))
        exact y_thr yk164 2 37 rfl (x_nr0 rfl) (by decide +kernel) nh164 (by rw [hk]; rfl)
      · refine y_ifF yk164 0 26 29 rfl rfl rfl (by decide) (decide_eq_false h3) ?_
        refine y_go yk164 2 34 rfl ?_
        refine y_ca0 yk164 1 37 rfl (x_nr1 (by decide)) ?_
        refine y_gfr yk164 1 38 41 5 1 0 rfl rfl rfl rfl rfl rfl (by decide) ?_
        refine y_gfr yk164 0 41 44 7 1 0 rfl rfl rfl rfl rfl (hg.1 (5, 1, 1) (by decide)) (by decide) ?_
        have e1 := x_I (M := (mm P0 P1 Q cl (cn t) kp fo ou L xs e)) okx0 (t7_canConvert P0 hg a b c (gconv I h1 h2 h3))
        refine y_cal yk164 4 50 rfl e1 ?_
        by_cases h4 : v7_canConvert P0 a b c = 0
        · have hk : kConv P0 a b c = 3 := by unfold kConv; (try simp only [if_neg h1, if_neg h2, if_neg h3, if_pos h4]); (try (repeat' (first | rfl | split)))
          exact y_thr yk164 1 53 rfl (x_ns0 h4) (by decide +kernel) nh164 (by rw [hk]; rfl)
        · refine y_ca0 yk164 1 53 rfl (x_ns1 h4) ?_
          refine y_gfr yk164 2 55 58 5 1 0 rfl rfl rfl rfl rfl rfl (by decide) ?_
          have hk : kConv P0 a b c = 0 := by unfold kConv; (try simp only [if_neg h1, if_neg h2, if_neg h3, if_neg h4]); (try (repeat' (first | rfl | split)))
          obtain ⟨G, W⟩ := HO hk
          refine y_cal yk164 9 70 rfl (x_enter ht _ _ _ _ _ _ _) ?_
          refine y_cal yk164 1 73 rfl (x_play_c (k := 19) (by decide) ht hg G W) ?_
          exact y_ret yk164 1 rfl (by rw [hk]; rfl)
end Face4
