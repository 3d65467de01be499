/-! the law's cases: a call of the face and one of the reference, which answer alike -/
theorem lw_36 {M M1 M2 : Mem} {i L code : Nat} {xs : Nat → Int32} {bb : Int32} {j5 j6 j7 : AV} (hi : i + 7 ≤ L) (hL : L ≤ 3584) (s0 : SCR M L xs) (s1 : SCR M1 L xs) (hc : code < 4) (h1 : X 411 0 [rR 3 11 1, vI (xs (i + 1)), rR 3 14 1, vJ] [] M = some (.inl (some (vI (cn code))), M1)) (h2 : X 359 0 [rR 2 12 1, vI (xs (i + 1)), vJ] [] M1 = some (.inl (some (vI bb)), M2)) (h3 : X 213 0 [rR 2 12 1] [] M2 = some (.inl (some (vI (cn code))), M2)) (h4 : code = 0 → (M2.1 3).2.1 14 1 0 = bb.toInt64) : ∃ u5 u6 u7, X 420 2790 [rR 4 13 1, rR 3 11 1, rR 2 12 1, rR 3 14 1, vI (cn i), j5, j6, j7] [] M = X 420 3410 [rR 4 13 1, rR 3 11 1, rR 2 12 1, rR 3 14 1, vI (cn i), u5, u6, u7] [] M2 := by
  refine ⟨vI (cn code), vI bb, j7, ?_⟩
  refine y_ald zk36 5 2796 2797 (xs (i + 1)) rfl rfl rfl (sc_in s0 hi hL (j := 1) (by decide)) (sc_v s0 hi hL (j := 1) (by decide)) ?_
  refine y_cal zk36 2 2801 rfl h1 ?_
  refine y_ald zk36 6 2809 2810 (xs (i + 1)) rfl rfl rfl (sc_in s1 hi hL (j := 1) (by decide)) (sc_v s1 hi hL (j := 1) (by decide)) ?_
  refine y_cal zk36 1 2813 rfl h2 ?_
  refine y_cal zk36 3 2819 rfl h3 ?_
  refine y_icT zk36 1 2821 2826 rfl rfl (by decide) (decide_eq_true rfl) ?_
  by_cases h0 : code = 0
  · subst h0
    refine y_ifF zk36 1 2828 2831 rfl rfl rfl (by decide) (by decide) ?_
    refine y_lld zk36 2 2833 2834 bb.toInt64 rfl rfl rfl in_out (h4 rfl) ?_
    refine y_ifT zk36 3 2838 2843 rfl rfl (by decide) (decide_eq_true lg_self) ?_
    exact y_go zk36 1 3410 rfl rfl
  · refine y_ifT zk36 1 2828 2843 rfl rfl (by decide) (decide_eq_true (cn_nz h0 hc)) ?_
    exact y_go zk36 1 3410 rfl rfl
theorem lw_37 {M M1 M2 : Mem} {i L code : Nat} {xs : Nat → Int32} {bb : Int32} {j5 j6 j7 : AV} (hi : i + 7 ≤ L) (hL : L ≤ 3584) (s0 : SCR M L xs) (s1 : SCR M1 L xs) (hc : code < 4) (h1 : X 412 0 [rR 3 11 1, vI (xs (i + 1)), vI (bzz (xs (i + 2))), rR 3 14 1, vJ] [] M = some (.inl (some (vI (cn code))), M1)) (h2 : X 360 0 [rR 2 12 1, vI (xs (i + 1)), vI (bzz (xs (i + 2)))] [] M1 = some (.inl (some (vI bb)), M2)) (h3 : X 213 0 [rR 2 12 1] [] M2 = some (.inl (some (vI (cn code))), M2)) (h4 : code = 0 → (M2.1 3).2.1 14 1 0 = bb.toInt64) : ∃ u5 u6 u7, X 420 2846 [rR 4 13 1, rR 3 11 1, rR 2 12 1, rR 3 14 1, vI (cn i), j5, j6, j7] [] M = X 420 3410 [rR 4 13 1, rR 3 11 1, rR 2 12 1, rR 3 14 1, vI (cn i), u5, u6, u7] [] M2 := by
  refine ⟨vI (cn code), vI bb, j7, ?_⟩
  by_cases hb : xs (i + 2) = 0
  · rw [show bzz (xs (i + 2)) = cn 0 from if_pos hb] at h1 h2
    refine y_ald zk37 5 2852 2853 (xs (i + 1)) rfl rfl rfl (sc_in s0 hi hL (j := 1) (by decide)) (sc_v s0 hi hL (j := 1) (by decide)) ?_
    refine y_ald zk37 4 2858 2859 (xs (i + 2)) rfl rfl rfl (sc_in s0 hi hL (j := 2) (by decide)) (sc_v s0 hi hL (j := 2) (by decide)) ?_
    refine y_ifT zk37 0 2859 2866 rfl rfl (by decide) (decide_eq_true hb) ?_
    refine y_cal zk37 3 2871 rfl h1 ?_
    refine y_ald zk37 6 2879 2880 (xs (i + 1)) rfl rfl rfl (sc_in s1 hi hL (j := 1) (by decide)) (sc_v s1 hi hL (j := 1) (by decide)) ?_
    refine y_ald zk37 4 2885 2886 (xs (i + 2)) rfl rfl rfl (sc_in s1 hi hL (j := 2) (by decide)) (sc_v s1 hi hL (j := 2) (by decide)) ?_
    refine y_ifT zk37 0 2886 2893 rfl rfl (by decide) (decide_eq_true hb) ?_
    refine y_cal zk37 2 2897 rfl h2 ?_
    refine y_cal zk37 3 2903 rfl h3 ?_
    refine y_icT zk37 1 2905 2910 rfl rfl (by decide) (decide_eq_true rfl) ?_
    by_cases h0 : code = 0
    · subst h0
      refine y_ifF zk37 1 2912 2915 rfl rfl rfl (by decide) (by decide) ?_
      refine y_lld zk37 2 2917 2918 bb.toInt64 rfl rfl rfl in_out (h4 rfl) ?_
      refine y_ifT zk37 3 2922 2927 rfl rfl (by decide) (decide_eq_true lg_self) ?_
      exact y_go zk37 1 3410 rfl rfl
    · refine y_ifT zk37 1 2912 2927 rfl rfl (by decide) (decide_eq_true (cn_nz h0 hc)) ?_
      exact y_go zk37 1 3410 rfl rfl
  · rw [show bzz (xs (i + 2)) = cn 1 from if_neg hb] at h1 h2
    refine y_ald zk37 5 2852 2853 (xs (i + 1)) rfl rfl rfl (sc_in s0 hi hL (j := 1) (by decide)) (sc_v s0 hi hL (j := 1) (by decide)) ?_
    refine y_ald zk37 4 2858 2859 (xs (i + 2)) rfl rfl rfl (sc_in s0 hi hL (j := 2) (by decide)) (sc_v s0 hi hL (j := 2) (by decide)) ?_
    refine y_ifF zk37 0 2859 2862 rfl rfl rfl (by decide) (decide_eq_false hb) ?_
    refine y_go zk37 2 2867 rfl ?_
    refine y_cal zk37 2 2871 rfl h1 ?_
    refine y_ald zk37 6 2879 2880 (xs (i + 1)) rfl rfl rfl (sc_in s1 hi hL (j := 1) (by decide)) (sc_v s1 hi hL (j := 1) (by decide)) ?_
    refine y_ald zk37 4 2885 2886 (xs (i + 2)) rfl rfl rfl (sc_in s1 hi hL (j := 2) (by decide)) (sc_v s1 hi hL (j := 2) (by decide)) ?_
    refine y_ifF zk37 0 2886 2889 rfl rfl rfl (by decide) (decide_eq_false hb) ?_
    refine y_go zk37 2 2894 rfl ?_
    refine y_cal zk37 1 2897 rfl h2 ?_
    refine y_cal zk37 3 2903 rfl h3 ?_
    refine y_icT zk37 1 2905 2910 rfl rfl (by decide) (decide_eq_true rfl) ?_
    by_cases h0 : code = 0
    · subst h0
      refine y_ifF zk37 1 2912 2915 rfl rfl rfl (by decide) (by decide) ?_
      refine y_lld zk37 2 2917 2918 bb.toInt64 rfl rfl rfl in_out (h4 rfl) ?_
      refine y_ifT zk37 3 2922 2927 rfl rfl (by decide) (decide_eq_true lg_self) ?_
      exact y_go zk37 1 3410 rfl rfl
    · refine y_ifT zk37 1 2912 2927 rfl rfl (by decide) (decide_eq_true (cn_nz h0 hc)) ?_
      exact y_go zk37 1 3410 rfl rfl
theorem lw_38 {M M1 M2 : Mem} {i L code : Nat} {xs : Nat → Int32} {bb : Int32} {j5 j6 j7 : AV} (hi : i + 7 ≤ L) (hL : L ≤ 3584) (s0 : SCR M L xs) (s1 : SCR M1 L xs) (hc : code < 4) (h1 : X 413 0 [rR 3 11 1, vI (xs (i + 1)), rR 3 14 1, vJ] [] M = some (.inl (some (vI (cn code))), M1)) (h2 : X 361 0 [rR 2 12 1, vI (xs (i + 1))] [] M1 = some (.inl (some (vI bb)), M2)) (h3 : X 213 0 [rR 2 12 1] [] M2 = some (.inl (some (vI (cn code))), M2)) (h4 : code = 0 → (M2.1 3).2.1 14 1 0 = bb.toInt64) : ∃ u5 u6 u7, X 420 2930 [rR 4 13 1, rR 3 11 1, rR 2 12 1, rR 3 14 1, vI (cn i), j5, j6, j7] [] M = X 420 3410 [rR 4 13 1, rR 3 11 1, rR 2 12 1, rR 3 14 1, vI (cn i), u5, u6, u7] [] M2 := by
  refine ⟨vI (cn code), vI bb, j7, ?_⟩
  refine y_ald zk38 5 2936 2937 (xs (i + 1)) rfl rfl rfl (sc_in s0 hi hL (j := 1) (by decide)) (sc_v s0 hi hL (j := 1) (by decide)) ?_
  refine y_cal zk38 2 2941 rfl h1 ?_
  refine y_ald zk38 6 2949 2950 (xs (i + 1)) rfl rfl rfl (sc_in s1 hi hL (j := 1) (by decide)) (sc_v s1 hi hL (j := 1) (by decide)) ?_
  refine y_cal zk38 1 2953 rfl h2 ?_
  refine y_cal zk38 3 2959 rfl h3 ?_
  refine y_icT zk38 1 2961 2966 rfl rfl (by decide) (decide_eq_true rfl) ?_
  by_cases h0 : code = 0
  · subst h0
    refine y_ifF zk38 1 2968 2971 rfl rfl rfl (by decide) (by decide) ?_
    refine y_lld zk38 2 2973 2974 bb.toInt64 rfl rfl rfl in_out (h4 rfl) ?_
    refine y_ifT zk38 3 2978 2983 rfl rfl (by decide) (decide_eq_true lg_self) ?_
    exact y_go zk38 1 3410 rfl rfl
  · refine y_ifT zk38 1 2968 2983 rfl rfl (by decide) (decide_eq_true (cn_nz h0 hc)) ?_
    exact y_go zk38 1 3410 rfl rfl
theorem lw_39 {M M1 M2 : Mem} {i L code : Nat} {xs : Nat → Int32} {bb : Int32} {j5 j6 j7 : AV} (hi : i + 7 ≤ L) (hL : L ≤ 3584) (s0 : SCR M L xs) (s1 : SCR M1 L xs) (hc : code < 4) (h1 : X 414 0 [rR 3 11 1, vI (xs (i + 1)), vI (bzz (xs (i + 2))), rR 3 14 1, vJ] [] M = some (.inl (some (vI (cn code))), M1)) (h2 : X 362 0 [rR 2 12 1, vI (xs (i + 1)), vI (bzz (xs (i + 2)))] [] M1 = some (.inl (some (vI bb)), M2)) (h3 : X 213 0 [rR 2 12 1] [] M2 = some (.inl (some (vI (cn code))), M2)) (h4 : code = 0 → (M2.1 3).2.1 14 1 0 = bb.toInt64) : ∃ u5 u6 u7, X 420 2986 [rR 4 13 1, rR 3 11 1, rR 2 12 1, rR 3 14 1, vI (cn i), j5, j6, j7] [] M = X 420 3410 [rR 4 13 1, rR 3 11 1, rR 2 12 1, rR 3 14 1, vI (cn i), u5, u6, u7] [] M2 := by
  refine ⟨vI (cn code), vI bb, j7, ?_⟩
  by_cases hb : xs (i + 2) = 0
  · rw [show bzz (xs (i + 2)) = cn 0 from if_pos hb] at h1 h2
    refine y_ald zk39 5 2992 2993 (xs (i + 1)) rfl rfl rfl (sc_in s0 hi hL (j := 1) (by decide)) (sc_v s0 hi hL (j := 1) (by decide)) ?_
    refine y_ald zk39 4 2998 2999 (xs (i + 2)) rfl rfl rfl (sc_in s0 hi hL (j := 2) (by decide)) (sc_v s0 hi hL (j := 2) (by decide)) ?_
    refine y_ifT zk39 0 2999 3006 rfl rfl (by decide) (decide_eq_true hb) ?_
    refine y_cal zk39 3 3011 rfl h1 ?_
    refine y_ald zk39 6 3019 3020 (xs (i + 1)) rfl rfl rfl (sc_in s1 hi hL (j := 1) (by decide)) (sc_v s1 hi hL (j := 1) (by decide)) ?_
    refine y_ald zk39 4 3025 3026 (xs (i + 2)) rfl rfl rfl (sc_in s1 hi hL (j := 2) (by decide)) (sc_v s1 hi hL (j := 2) (by decide)) ?_
    refine y_ifT zk39 0 3026 3033 rfl rfl (by decide) (decide_eq_true hb) ?_
    refine y_cal zk39 2 3037 rfl h2 ?_
    refine y_cal zk39 3 3043 rfl h3 ?_
    refine y_icT zk39 1 3045 3050 rfl rfl (by decide) (decide_eq_true rfl) ?_
    by_cases h0 : code = 0
    · subst h0
      refine y_ifF zk39 1 3052 3055 rfl rfl rfl (by decide) (by decide) ?_
      refine y_lld zk39 2 3057 3058 bb.toInt64 rfl rfl rfl in_out (h4 rfl) ?_
      refine y_ifT zk39 3 3062 3067 rfl rfl (by decide) (decide_eq_true lg_self) ?_
      exact y_go zk39 1 3410 rfl rfl
    · refine y_ifT zk39 1 3052 3067 rfl rfl (by decide) (decide_eq_true (cn_nz h0 hc)) ?_
      exact y_go zk39 1 3410 rfl rfl
  · rw [show bzz (xs (i + 2)) = cn 1 from if_neg hb] at h1 h2
    refine y_ald zk39 5 2992 2993 (xs (i + 1)) rfl rfl rfl (sc_in s0 hi hL (j := 1) (by decide)) (sc_v s0 hi hL (j := 1) (by decide)) ?_
    refine y_ald zk39 4 2998 2999 (xs (i + 2)) rfl rfl rfl (sc_in s0 hi hL (j := 2) (by decide)) (sc_v s0 hi hL (j := 2) (by decide)) ?_
    refine y_ifF zk39 0 2999 3002 rfl rfl rfl (by decide) (decide_eq_false hb) ?_
    refine y_go zk39 2 3007 rfl ?_
    refine y_cal zk39 2 3011 rfl h1 ?_
    refine y_ald zk39 6 3019 3020 (xs (i + 1)) rfl rfl rfl (sc_in s1 hi hL (j := 1) (by decide)) (sc_v s1 hi hL (j := 1) (by decide)) ?_
    refine y_ald zk39 4 3025 3026 (xs (i + 2)) rfl rfl rfl (sc_in s1 hi hL (j := 2) (by decide)) (sc_v s1 hi hL (j := 2) (by decide)) ?_
    refine y_ifF zk39 0 3026 3029 rfl rfl rfl (by decide) (decide_eq_false hb) ?_
    refine y_go zk39 2 3034 rfl ?_
    refine y_cal zk39 1 3037 rfl h2 ?_
    refine y_cal zk39 3 3043 rfl h3 ?_
    refine y_icT zk39 1 3045 3050 rfl rfl (by decide) (decide_eq_true rfl) ?_
    by_cases h0 : code = 0
    · subst h0
      refine y_ifF zk39 1 3052 3055 rfl rfl rfl (by decide) (by decide) ?_
      refine y_lld zk39 2 3057 3058 bb.toInt64 rfl rfl rfl in_out (h4 rfl) ?_
      refine y_ifT zk39 3 3062 3067 rfl rfl (by decide) (decide_eq_true lg_self) ?_
      exact y_go zk39 1 3410 rfl rfl
    · refine y_ifT zk39 1 3052 3067 rfl rfl (by decide) (decide_eq_true (cn_nz h0 hc)) ?_
      exact y_go zk39 1 3410 rfl rfl
theorem lw_40 {M M1 M2 : Mem} {i L : Nat} {xs : Nat → Int32} {bb : Int32} {j5 j6 j7 : AV} (hi : i + 7 ≤ L) (hL : L ≤ 3584) (s0 : SCR M L xs) (s1 : SCR M1 L xs) (h1 : X 193 0 [rR 3 11 1] [] M = some (.inl (some (vI bb)), M1)) (h2 : X 363 0 [rR 2 12 1] [] M1 = some (.inl (some (vI bb)), M2)) : ∃ u5 u6 u7, X 420 3070 [rR 4 13 1, rR 3 11 1, rR 2 12 1, rR 3 14 1, vI (cn i), j5, j6, j7] [] M = X 420 3410 [rR 4 13 1, rR 3 11 1, rR 2 12 1, rR 3 14 1, vI (cn i), u5, u6, u7] [] M2 := by
  refine ⟨j5, j6, j7, ?_⟩
  refine y_cal zk40 2 3074 rfl h1 ?_
  refine y_cal zk40 2 3078 rfl h2 ?_
  refine y_icT zk40 0 3078 3410 rfl rfl (by decide) (decide_eq_true rfl) ?_
  rfl
theorem lw_41 {M M1 M2 : Mem} {i L code : Nat} {xs : Nat → Int32} {bb : Int32} {j5 j6 j7 : AV} (hi : i + 7 ≤ L) (hL : L ≤ 3584) (s0 : SCR M L xs) (s1 : SCR M1 L xs) (hc : code < 4) (h1 : X 415 0 [rR 3 11 1, vI (xs (i + 1)), vI (xs (i + 2)), rR 3 14 1, vJ] [] M = some (.inl (some (vI (cn code))), M1)) (h2 : X 364 0 [rR 2 12 1, vI (xs (i + 1)), vI (xs (i + 2)), vJ] [] M1 = some (.inl (some (vI bb)), M2)) (h3 : X 213 0 [rR 2 12 1] [] M2 = some (.inl (some (vI (cn code))), M2)) (h4 : code = 0 → (M2.1 3).2.1 14 1 0 = bb.toInt64) : ∃ u5 u6 u7, X 420 3083 [rR 4 13 1, rR 3 11 1, rR 2 12 1, rR 3 14 1, vI (cn i), j5, j6, j7] [] M = X 420 3410 [rR 4 13 1, rR 3 11 1, rR 2 12 1, rR 3 14 1, vI (cn i), u5, u6, u7] [] M2 := by
  refine ⟨vI (cn code), vI bb, j7, ?_⟩
  refine y_ald zk41 5 3089 3090 (xs (i + 1)) rfl rfl rfl (sc_in s0 hi hL (j := 1) (by decide)) (sc_v s0 hi hL (j := 1) (by decide)) ?_
  refine y_ald zk41 4 3095 3096 (xs (i + 2)) rfl rfl rfl (sc_in s0 hi hL (j := 2) (by decide)) (sc_v s0 hi hL (j := 2) (by decide)) ?_
  refine y_cal zk41 2 3100 rfl h1 ?_
  refine y_ald zk41 6 3108 3109 (xs (i + 1)) rfl rfl rfl (sc_in s1 hi hL (j := 1) (by decide)) (sc_v s1 hi hL (j := 1) (by decide)) ?_
  refine y_ald zk41 4 3114 3115 (xs (i + 2)) rfl rfl rfl (sc_in s1 hi hL (j := 2) (by decide)) (sc_v s1 hi hL (j := 2) (by decide)) ?_
  refine y_cal zk41 1 3118 rfl h2 ?_
  refine y_cal zk41 3 3124 rfl h3 ?_
  refine y_icT zk41 1 3126 3131 rfl rfl (by decide) (decide_eq_true rfl) ?_
  by_cases h0 : code = 0
  · subst h0
    refine y_ifF zk41 1 3133 3136 rfl rfl rfl (by decide) (by decide) ?_
    refine y_lld zk41 2 3138 3139 bb.toInt64 rfl rfl rfl in_out (h4 rfl) ?_
    refine y_ifT zk41 3 3143 3148 rfl rfl (by decide) (decide_eq_true lg_self) ?_
    exact y_go zk41 1 3410 rfl rfl
  · refine y_ifT zk41 1 3133 3148 rfl rfl (by decide) (decide_eq_true (cn_nz h0 hc)) ?_
    exact y_go zk41 1 3410 rfl rfl
theorem lw_42 {M M1 M2 : Mem} {i L code : Nat} {xs : Nat → Int32} {bb : Int32} {j5 j6 j7 : AV} (hi : i + 7 ≤ L) (hL : L ≤ 3584) (s0 : SCR M L xs) (s1 : SCR M1 L xs) (hc : code < 4) (h1 : X 416 0 [rR 3 11 1, vI (xs (i + 1)), vI (xs (i + 2)), rR 3 14 1, vJ] [] M = some (.inl (some (vI (cn code))), M1)) (h2 : X 365 0 [rR 2 12 1, vI (xs (i + 1)), vI (xs (i + 2))] [] M1 = some (.inl (some (vI bb)), M2)) (h3 : X 213 0 [rR 2 12 1] [] M2 = some (.inl (some (vI (cn code))), M2)) (h4 : code = 0 → (M2.1 3).2.1 14 1 0 = bb.toInt64) : ∃ u5 u6 u7, X 420 3151 [rR 4 13 1, rR 3 11 1, rR 2 12 1, rR 3 14 1, vI (cn i), j5, j6, j7] [] M = X 420 3410 [rR 4 13 1, rR 3 11 1, rR 2 12 1, rR 3 14 1, vI (cn i), u5, u6, u7] [] M2 := by
  refine ⟨vI (cn code), vI bb, j7, ?_⟩
  refine y_ald zk42 5 3157 3158 (xs (i + 1)) rfl rfl rfl (sc_in s0 hi hL (j := 1) (by decide)) (sc_v s0 hi hL (j := 1) (by decide)) ?_
  refine y_ald zk42 4 3163 3164 (xs (i + 2)) rfl rfl rfl (sc_in s0 hi hL (j := 2) (by decide)) (sc_v s0 hi hL (j := 2) (by decide)) ?_
  refine y_cal zk42 2 3168 rfl h1 ?_
  refine y_ald zk42 6 3176 3177 (xs (i + 1)) rfl rfl rfl (sc_in s1 hi hL (j := 1) (by decide)) (sc_v s1 hi hL (j := 1) (by decide)) ?_
  refine y_ald zk42 4 3182 3183 (xs (i + 2)) rfl rfl rfl (sc_in s1 hi hL (j := 2) (by decide)) (sc_v s1 hi hL (j := 2) (by decide)) ?_
  refine y_cal zk42 1 3186 rfl h2 ?_
  refine y_cal zk42 3 3192 rfl h3 ?_
  refine y_icT zk42 1 3194 3199 rfl rfl (by decide) (decide_eq_true rfl) ?_
  by_cases h0 : code = 0
  · subst h0
    refine y_ifF zk42 1 3201 3204 rfl rfl rfl (by decide) (by decide) ?_
    refine y_lld zk42 2 3206 3207 bb.toInt64 rfl rfl rfl in_out (h4 rfl) ?_
    refine y_ifT zk42 3 3211 3216 rfl rfl (by decide) (decide_eq_true lg_self) ?_
    exact y_go zk42 1 3410 rfl rfl
  · refine y_ifT zk42 1 3201 3216 rfl rfl (by decide) (decide_eq_true (cn_nz h0 hc)) ?_
    exact y_go zk42 1 3410 rfl rfl
theorem lw_43 {M M1 M2 : Mem} {i L code : Nat} {xs : Nat → Int32} {bb : Int64} {j5 j6 j7 : AV} (hi : i + 7 ≤ L) (hL : L ≤ 3584) (s0 : SCR M L xs) (s1 : SCR M1 L xs) (hc : code < 4) (h1 : X 417 0 [rR 3 11 1, vI (xs (i + 1)), rR 3 14 1, vJ] [] M = some (.inl (some (vI (cn code))), M1)) (h2 : X 366 0 [rR 2 12 1, vI (xs (i + 1))] [] M1 = some (.inl (some (vL bb)), M2)) (h3 : X 213 0 [rR 2 12 1] [] M2 = some (.inl (some (vI (cn code))), M2)) (h4 : code = 0 → (M2.1 3).2.1 14 1 0 = bb) : ∃ u5 u6 u7, X 420 3219 [rR 4 13 1, rR 3 11 1, rR 2 12 1, rR 3 14 1, vI (cn i), j5, j6, j7] [] M = X 420 3410 [rR 4 13 1, rR 3 11 1, rR 2 12 1, rR 3 14 1, vI (cn i), u5, u6, u7] [] M2 := by
  refine ⟨vI (cn code), vL bb, vJ, ?_⟩
  refine y_ald zk43 5 3225 3226 (xs (i + 1)) rfl rfl rfl (sc_in s0 hi hL (j := 1) (by decide)) (sc_v s0 hi hL (j := 1) (by decide)) ?_
  refine y_cal zk43 2 3230 rfl h1 ?_
  refine y_ald zk43 6 3238 3239 (xs (i + 1)) rfl rfl rfl (sc_in s1 hi hL (j := 1) (by decide)) (sc_v s1 hi hL (j := 1) (by decide)) ?_
  refine y_cal zk43 1 3242 rfl h2 ?_
  refine y_cal zk43 3 3248 rfl h3 ?_
  refine y_icT zk43 1 3250 3255 rfl rfl (by decide) (decide_eq_true rfl) ?_
  by_cases h0 : code = 0
  · subst h0
    refine y_ifF zk43 1 3257 3260 rfl rfl rfl (by decide) (by decide) ?_
    refine y_lld zk43 2 3262 3263 bb rfl rfl rfl in_out (h4 rfl) ?_
    refine y_ifT zk43 2 3266 3271 rfl rfl (by decide) (decide_eq_true lg_self) ?_
    exact y_go zk43 1 3410 rfl rfl
  · refine y_ifT zk43 1 3257 3271 rfl rfl (by decide) (decide_eq_true (cn_nz h0 hc)) ?_
    exact y_go zk43 1 3410 rfl rfl
theorem lw_44 {M M1 M2 : Mem} {i L code : Nat} {xs : Nat → Int32} {bb : Int32} {j5 j6 j7 : AV} (hi : i + 7 ≤ L) (hL : L ≤ 3584) (s0 : SCR M L xs) (s1 : SCR M1 L xs) (hc : code < 4) (h1 : X 418 0 [rR 3 11 1, vI (xs (i + 1)), rR 3 14 1, vJ] [] M = some (.inl (some (vI (cn code))), M1)) (h2 : X 367 0 [rR 2 12 1, vI (xs (i + 1))] [] M1 = some (.inl (some (vI bb)), M2)) (h3 : X 213 0 [rR 2 12 1] [] M2 = some (.inl (some (vI (cn code))), M2)) (h4 : code = 0 → (M2.1 3).2.1 14 1 0 = bb.toInt64) : ∃ u5 u6 u7, X 420 3274 [rR 4 13 1, rR 3 11 1, rR 2 12 1, rR 3 14 1, vI (cn i), j5, j6, j7] [] M = X 420 3410 [rR 4 13 1, rR 3 11 1, rR 2 12 1, rR 3 14 1, vI (cn i), u5, u6, u7] [] M2 := by
  refine ⟨vI (cn code), vI bb, j7, ?_⟩
  refine y_ald zk44 5 3280 3281 (xs (i + 1)) rfl rfl rfl (sc_in s0 hi hL (j := 1) (by decide)) (sc_v s0 hi hL (j := 1) (by decide)) ?_
  refine y_cal zk44 2 3285 rfl h1 ?_
  refine y_ald zk44 6 3293 3294 (xs (i + 1)) rfl rfl rfl (sc_in s1 hi hL (j := 1) (by decide)) (sc_v s1 hi hL (j := 1) (by decide)) ?_
  refine y_cal zk44 1 3297 rfl h2 ?_
  refine y_cal zk44 3 3303 rfl h3 ?_
  refine y_icT zk44 1 3305 3310 rfl rfl (by decide) (decide_eq_true rfl) ?_
  by_cases h0 : code = 0
  · subst h0
    refine y_ifF zk44 1 3312 3315 rfl rfl rfl (by decide) (by decide) ?_
    refine y_lld zk44 2 3317 3318 bb.toInt64 rfl rfl rfl in_out (h4 rfl) ?_
    refine y_ifT zk44 3 3322 3327 rfl rfl (by decide) (decide_eq_true lg_self) ?_
    exact y_go zk44 1 3410 rfl rfl
  · refine y_ifT zk44 1 3312 3327 rfl rfl (by decide) (decide_eq_true (cn_nz h0 hc)) ?_
    exact y_go zk44 1 3410 rfl rfl
theorem lw_45 {M M1 M2 : Mem} {i L code : Nat} {xs : Nat → Int32} {bb : Int64} {j5 j6 j7 : AV} (hi : i + 7 ≤ L) (hL : L ≤ 3584) (s0 : SCR M L xs) (s1 : SCR M1 L xs) (hc : code < 4) (h1 : X 419 0 [rR 3 11 1, vI (xs (i + 1)), vI (xs (i + 2)), rR 3 14 1, vJ] [] M = some (.inl (some (vI (cn code))), M1)) (h2 : X 368 0 [rR 2 12 1, vI (xs (i + 1)), vI (xs (i + 2))] [] M1 = some (.inl (some (vL bb)), M2)) (h3 : X 213 0 [rR 2 12 1] [] M2 = some (.inl (some (vI (cn code))), M2)) (h4 : code = 0 → (M2.1 3).2.1 14 1 0 = bb) : ∃ u5 u6 u7, X 420 3330 [rR 4 13 1, rR 3 11 1, rR 2 12 1, rR 3 14 1, vI (cn i), j5, j6, j7] [] M = X 420 3410 [rR 4 13 1, rR 3 11 1, rR 2 12 1, rR 3 14 1, vI (cn i), u5, u6, u7] [] M2 := by
  refine ⟨vI (cn code), vL bb, vJ, ?_⟩
  refine y_ald zk45 5 3336 3337 (xs (i + 1)) rfl rfl rfl (sc_in s0 hi hL (j := 1) (by decide)) (sc_v s0 hi hL (j := 1) (by decide)) ?_
  refine y_ald zk45 4 3342 3343 (xs (i + 2)) rfl rfl rfl (sc_in s0 hi hL (j := 2) (by decide)) (sc_v s0 hi hL (j := 2) (by decide)) ?_
  refine y_cal zk45 2 3347 rfl h1 ?_
  refine y_ald zk45 6 3355 3356 (xs (i + 1)) rfl rfl rfl (sc_in s1 hi hL (j := 1) (by decide)) (sc_v s1 hi hL (j := 1) (by decide)) ?_
  refine y_ald zk45 4 3361 3362 (xs (i + 2)) rfl rfl rfl (sc_in s1 hi hL (j := 2) (by decide)) (sc_v s1 hi hL (j := 2) (by decide)) ?_
  refine y_cal zk45 1 3365 rfl h2 ?_
  refine y_cal zk45 3 3371 rfl h3 ?_
  refine y_icT zk45 1 3373 3378 rfl rfl (by decide) (decide_eq_true rfl) ?_
  by_cases h0 : code = 0
  · subst h0
    refine y_ifF zk45 1 3380 3383 rfl rfl rfl (by decide) (by decide) ?_
    refine y_lld zk45 2 3385 3386 bb rfl rfl rfl in_out (h4 rfl) ?_
    refine y_ifT zk45 2 3389 3394 rfl rfl (by decide) (decide_eq_true lg_self) ?_
    exact y_go zk45 1 3410 rfl rfl
  · refine y_ifT zk45 1 3380 3394 rfl rfl (by decide) (decide_eq_true (cn_nz h0 hc)) ?_
    exact y_go zk45 1 3410 rfl rfl
theorem lw_46 {M M1 M2 : Mem} {i L : Nat} {xs : Nat → Int32} {bb : Int32} {j5 j6 j7 : AV} (hi : i + 7 ≤ L) (hL : L ≤ 3584) (s0 : SCR M L xs) (s1 : SCR M1 L xs) (h1 : X 199 0 [rR 3 11 1] [] M = some (.inl (some (vI bb)), M1)) (h2 : X 369 0 [rR 2 12 1] [] M1 = some (.inl (some (vI bb)), M2)) : ∃ u5 u6 u7, X 420 3397 [rR 4 13 1, rR 3 11 1, rR 2 12 1, rR 3 14 1, vI (cn i), j5, j6, j7] [] M = X 420 3410 [rR 4 13 1, rR 3 11 1, rR 2 12 1, rR 3 14 1, vI (cn i), u5, u6, u7] [] M2 := by
  refine ⟨j5, j6, j7, ?_⟩
  refine y_cal zk46 2 3401 rfl h1 ?_
  refine y_cal zk46 2 3405 rfl h2 ?_
  refine y_icT zk46 0 3405 3410 rfl rfl (by decide) (decide_eq_true rfl) ?_
  rfl
