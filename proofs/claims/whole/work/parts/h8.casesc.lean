/-! the law's cases: a call of the face and one of the reference, which answer alike -/
theorem lw_24 {M M1 M2 : Mem} {i L code : Nat} {xs : Nat → Int32} {bb : Int32} {j5 j6 j7 : AV} (hi : i + 7 ≤ L) (hL : L ≤ 3584) (s0 : SCR M L xs) (s1 : SCR M1 L xs) (hc : code < 4) (h1 : X 403 0 [rR 3 11 1, vI (xs (i + 1)), rR 3 14 1, vJ] [] M = some (.inl (some (vI (cn code))), M1)) (h2 : X 346 0 [rR 2 12 1, vI (xs (i + 1))] [] M1 = some (.inl (some (vI bb)), M2)) (h3 : X 213 0 [rR 2 12 1] [] M2 = some (.inl (some (vI (cn code))), M2)) (h4 : code = 0 → (M2.1 3).2.1 14 1 0 = bb.toInt64) : ∃ u5 u6 u7, X 420 2170 [rR 4 13 1, rR 3 11 1, rR 2 12 1, rR 3 14 1, vI (cn i), j5, j6, j7] [] M = X 420 3410 [rR 4 13 1, rR 3 11 1, rR 2 12 1, rR 3 14 1, vI (cn i), u5, u6, u7] [] M2 := by
  refine ⟨vI (cn code), vI bb, j7, ?_⟩
  refine y_ald zk24 5 2176 2177 (xs (i + 1)) rfl rfl rfl (sc_in s0 hi hL (j := 1) (by decide)) (sc_v s0 hi hL (j := 1) (by decide)) ?_
  refine y_cal zk24 2 2181 rfl h1 ?_
  refine y_ald zk24 6 2189 2190 (xs (i + 1)) rfl rfl rfl (sc_in s1 hi hL (j := 1) (by decide)) (sc_v s1 hi hL (j := 1) (by decide)) ?_
  refine y_cal zk24 1 2193 rfl h2 ?_
  refine y_cal zk24 3 2199 rfl h3 ?_
  refine y_icT zk24 1 2201 2206 rfl rfl (by decide) (decide_eq_true rfl) ?_
  by_cases h0 : code = 0
  · subst h0
    refine y_ifF zk24 1 2208 2211 rfl rfl rfl (by decide) (by decide) ?_
    refine y_lld zk24 2 2213 2214 bb.toInt64 rfl rfl rfl in_out (h4 rfl) ?_
    refine y_ifT zk24 3 2218 2223 rfl rfl (by decide) (decide_eq_true lg_self) ?_
    exact y_go zk24 1 3410 rfl rfl
  · refine y_ifT zk24 1 2208 2223 rfl rfl (by decide) (decide_eq_true (cn_nz h0 hc)) ?_
    exact y_go zk24 1 3410 rfl rfl
theorem lw_25 {M M1 M2 : Mem} {i L code : Nat} {xs : Nat → Int32} {bb : Int32} {j5 j6 j7 : AV} (hi : i + 7 ≤ L) (hL : L ≤ 3584) (s0 : SCR M L xs) (s1 : SCR M1 L xs) (hc : code < 4) (h1 : X 404 0 [rR 3 11 1, vI (xs (i + 1)), vI (xs (i + 2)), rR 3 14 1, vJ] [] M = some (.inl (some (vI (cn code))), M1)) (h2 : X 347 0 [rR 2 12 1, vI (xs (i + 1)), vI (xs (i + 2))] [] M1 = some (.inl (some (vI bb)), M2)) (h3 : X 213 0 [rR 2 12 1] [] M2 = some (.inl (some (vI (cn code))), M2)) (h4 : code = 0 → (M2.1 3).2.1 14 1 0 = bb.toInt64) : ∃ u5 u6 u7, X 420 2226 [rR 4 13 1, rR 3 11 1, rR 2 12 1, rR 3 14 1, vI (cn i), j5, j6, j7] [] M = X 420 3410 [rR 4 13 1, rR 3 11 1, rR 2 12 1, rR 3 14 1, vI (cn i), u5, u6, u7] [] M2 := by
  refine ⟨vI (cn code), vI bb, j7, ?_⟩
  refine y_ald zk25 5 2232 2233 (xs (i + 1)) rfl rfl rfl (sc_in s0 hi hL (j := 1) (by decide)) (sc_v s0 hi hL (j := 1) (by decide)) ?_
  refine y_ald zk25 4 2238 2239 (xs (i + 2)) rfl rfl rfl (sc_in s0 hi hL (j := 2) (by decide)) (sc_v s0 hi hL (j := 2) (by decide)) ?_
  refine y_cal zk25 2 2243 rfl h1 ?_
  refine y_ald zk25 6 2251 2252 (xs (i + 1)) rfl rfl rfl (sc_in s1 hi hL (j := 1) (by decide)) (sc_v s1 hi hL (j := 1) (by decide)) ?_
  refine y_ald zk25 4 2257 2258 (xs (i + 2)) rfl rfl rfl (sc_in s1 hi hL (j := 2) (by decide)) (sc_v s1 hi hL (j := 2) (by decide)) ?_
  refine y_cal zk25 1 2261 rfl h2 ?_
  refine y_cal zk25 3 2267 rfl h3 ?_
  refine y_icT zk25 1 2269 2274 rfl rfl (by decide) (decide_eq_true rfl) ?_
  by_cases h0 : code = 0
  · subst h0
    refine y_ifF zk25 1 2276 2279 rfl rfl rfl (by decide) (by decide) ?_
    refine y_lld zk25 2 2281 2282 bb.toInt64 rfl rfl rfl in_out (h4 rfl) ?_
    refine y_ifT zk25 3 2286 2291 rfl rfl (by decide) (decide_eq_true lg_self) ?_
    exact y_go zk25 1 3410 rfl rfl
  · refine y_ifT zk25 1 2276 2291 rfl rfl (by decide) (decide_eq_true (cn_nz h0 hc)) ?_
    exact y_go zk25 1 3410 rfl rfl
theorem lw_26 {M M1 M2 : Mem} {i L code : Nat} {xs : Nat → Int32} {bb : Int32} {j5 j6 j7 : AV} (hi : i + 7 ≤ L) (hL : L ≤ 3584) (s0 : SCR M L xs) (s1 : SCR M1 L xs) (hc : code < 4) (h1 : X 405 0 [rR 3 11 1, rR 3 14 1, vJ] [] M = some (.inl (some (vI (cn code))), M1)) (h2 : X 348 0 [rR 2 12 1] [] M1 = some (.inl (some (vI bb)), M2)) (h3 : X 213 0 [rR 2 12 1] [] M2 = some (.inl (some (vI (cn code))), M2)) (h4 : code = 0 → (M2.1 3).2.1 14 1 0 = bb.toInt64) : ∃ u5 u6 u7, X 420 2294 [rR 4 13 1, rR 3 11 1, rR 2 12 1, rR 3 14 1, vI (cn i), j5, j6, j7] [] M = X 420 3410 [rR 4 13 1, rR 3 11 1, rR 2 12 1, rR 3 14 1, vI (cn i), u5, u6, u7] [] M2 := by
  refine ⟨vI (cn code), vI bb, j7, ?_⟩
  refine y_cal zk26 3 2299 rfl h1 ?_
  refine y_cal zk26 3 2305 rfl h2 ?_
  refine y_cal zk26 3 2311 rfl h3 ?_
  refine y_icT zk26 1 2313 2318 rfl rfl (by decide) (decide_eq_true rfl) ?_
  by_cases h0 : code = 0
  · subst h0
    refine y_ifF zk26 1 2320 2323 rfl rfl rfl (by decide) (by decide) ?_
    refine y_lld zk26 2 2325 2326 bb.toInt64 rfl rfl rfl in_out (h4 rfl) ?_
    refine y_ifT zk26 3 2330 2335 rfl rfl (by decide) (decide_eq_true lg_self) ?_
    exact y_go zk26 1 3410 rfl rfl
  · refine y_ifT zk26 1 2320 2335 rfl rfl (by decide) (decide_eq_true (cn_nz h0 hc)) ?_
    exact y_go zk26 1 3410 rfl rfl
theorem lw_27 {M M1 M2 : Mem} {i L : Nat} {xs : Nat → Int32} {bb : Int32} {j5 j6 j7 : AV} (hi : i + 7 ≤ L) (hL : L ≤ 3584) (s0 : SCR M L xs) (s1 : SCR M1 L xs) (h1 : X 180 0 [rR 3 11 1] [] M = some (.inl (some (vI bb)), M1)) (h2 : X 349 0 [rR 2 12 1] [] M1 = some (.inl (some (vI bb)), M2)) : ∃ u5 u6 u7, X 420 2338 [rR 4 13 1, rR 3 11 1, rR 2 12 1, rR 3 14 1, vI (cn i), j5, j6, j7] [] M = X 420 3410 [rR 4 13 1, rR 3 11 1, rR 2 12 1, rR 3 14 1, vI (cn i), u5, u6, u7] [] M2 := by
  refine ⟨j5, j6, j7, ?_⟩
  refine y_cal zk27 2 2342 rfl h1 ?_
  refine y_cal zk27 2 2346 rfl h2 ?_
  refine y_icT zk27 0 2346 3410 rfl rfl (by decide) (decide_eq_true rfl) ?_
  rfl
theorem lw_28 {M M1 M2 : Mem} {i L : Nat} {xs : Nat → Int32} {bb : Int32} {j5 j6 j7 : AV} (hi : i + 7 ≤ L) (hL : L ≤ 3584) (s0 : SCR M L xs) (s1 : SCR M1 L xs) (h1 : X 181 0 [rR 3 11 1, vJ, vJ] [] M = some (.inl (some (vI bb)), M1)) (h2 : X 350 0 [rR 2 12 1, vJ, vJ, vJ, vJ, vJ] [] M1 = some (.inl (some (vI bb)), M2)) : ∃ u5 u6 u7, X 420 2351 [rR 4 13 1, rR 3 11 1, rR 2 12 1, rR 3 14 1, vI (cn i), j5, j6, j7] [] M = X 420 3410 [rR 4 13 1, rR 3 11 1, rR 2 12 1, rR 3 14 1, vI (cn i), u5, u6, u7] [] M2 := by
  refine ⟨j5, j6, j7, ?_⟩
  refine y_cal zk28 2 2355 rfl h1 ?_
  refine y_cal zk28 2 2359 rfl h2 ?_
  refine y_icT zk28 0 2359 3410 rfl rfl (by decide) (decide_eq_true rfl) ?_
  rfl
theorem lw_29 {M M1 M2 : Mem} {i L : Nat} {xs : Nat → Int32} {bb : Int32} {j5 j6 j7 : AV} (hi : i + 7 ≤ L) (hL : L ≤ 3584) (s0 : SCR M L xs) (s1 : SCR M1 L xs) (h1 : X 182 0 [rR 3 11 1] [] M = some (.inl (some (vI bb)), M1)) (h2 : X 351 0 [rR 2 12 1] [] M1 = some (.inl (some (vI bb)), M2)) : ∃ u5 u6 u7, X 420 2364 [rR 4 13 1, rR 3 11 1, rR 2 12 1, rR 3 14 1, vI (cn i), j5, j6, j7] [] M = X 420 3410 [rR 4 13 1, rR 3 11 1, rR 2 12 1, rR 3 14 1, vI (cn i), u5, u6, u7] [] M2 := by
  refine ⟨j5, j6, j7, ?_⟩
  refine y_cal zk29 2 2368 rfl h1 ?_
  refine y_cal zk29 2 2372 rfl h2 ?_
  refine y_icT zk29 0 2372 3410 rfl rfl (by decide) (decide_eq_true rfl) ?_
  rfl
theorem lw_30 {M M1 M2 : Mem} {i L code : Nat} {xs : Nat → Int32} {bb : Int32} {j5 j6 j7 : AV} (hi : i + 7 ≤ L) (hL : L ≤ 3584) (s0 : SCR M L xs) (s1 : SCR M1 L xs) (hc : code < 4) (h1 : X 406 0 [rR 3 11 1, vI (xs (i + 1)), vI (xs (i + 2)), rR 3 14 1, vJ] [] M = some (.inl (some (vI (cn code))), M1)) (h2 : X 352 0 [rR 2 12 1, vI (xs (i + 1)), vI (xs (i + 2))] [] M1 = some (.inl (some (vI bb)), M2)) (h3 : X 213 0 [rR 2 12 1] [] M2 = some (.inl (some (vI (cn code))), M2)) (h4 : code = 0 → (M2.1 3).2.1 14 1 0 = bb.toInt64) : ∃ u5 u6 u7, X 420 2377 [rR 4 13 1, rR 3 11 1, rR 2 12 1, rR 3 14 1, vI (cn i), j5, j6, j7] [] M = X 420 3410 [rR 4 13 1, rR 3 11 1, rR 2 12 1, rR 3 14 1, vI (cn i), u5, u6, u7] [] M2 := by
  refine ⟨vI (cn code), vI bb, j7, ?_⟩
  refine y_ald zk30 5 2383 2384 (xs (i + 1)) rfl rfl rfl (sc_in s0 hi hL (j := 1) (by decide)) (sc_v s0 hi hL (j := 1) (by decide)) ?_
  refine y_ald zk30 4 2389 2390 (xs (i + 2)) rfl rfl rfl (sc_in s0 hi hL (j := 2) (by decide)) (sc_v s0 hi hL (j := 2) (by decide)) ?_
  refine y_cal zk30 2 2394 rfl h1 ?_
  refine y_ald zk30 6 2402 2403 (xs (i + 1)) rfl rfl rfl (sc_in s1 hi hL (j := 1) (by decide)) (sc_v s1 hi hL (j := 1) (by decide)) ?_
  refine y_ald zk30 4 2408 2409 (xs (i + 2)) rfl rfl rfl (sc_in s1 hi hL (j := 2) (by decide)) (sc_v s1 hi hL (j := 2) (by decide)) ?_
  refine y_cal zk30 1 2412 rfl h2 ?_
  refine y_cal zk30 3 2418 rfl h3 ?_
  refine y_icT zk30 1 2420 2425 rfl rfl (by decide) (decide_eq_true rfl) ?_
  by_cases h0 : code = 0
  · subst h0
    refine y_ifF zk30 1 2427 2430 rfl rfl rfl (by decide) (by decide) ?_
    refine y_lld zk30 2 2432 2433 bb.toInt64 rfl rfl rfl in_out (h4 rfl) ?_
    refine y_ifT zk30 3 2437 2442 rfl rfl (by decide) (decide_eq_true lg_self) ?_
    exact y_go zk30 1 3410 rfl rfl
  · refine y_ifT zk30 1 2427 2442 rfl rfl (by decide) (decide_eq_true (cn_nz h0 hc)) ?_
    exact y_go zk30 1 3410 rfl rfl
theorem lw_31 {M M1 M2 : Mem} {i L code : Nat} {xs : Nat → Int32} {bb : Int32} {j5 j6 j7 : AV} (hi : i + 7 ≤ L) (hL : L ≤ 3584) (s0 : SCR M L xs) (s1 : SCR M1 L xs) (hc : code < 4) (h1 : X 407 0 [rR 3 11 1, vI (xs (i + 1)), vI (bzz (xs (i + 2))), rR 3 14 1, vJ] [] M = some (.inl (some (vI (cn code))), M1)) (h2 : X 353 0 [rR 2 12 1, vI (xs (i + 1)), vI (bzz (xs (i + 2)))] [] M1 = some (.inl (some (vI bb)), M2)) (h3 : X 213 0 [rR 2 12 1] [] M2 = some (.inl (some (vI (cn code))), M2)) (h4 : code = 0 → (M2.1 3).2.1 14 1 0 = bb.toInt64) : ∃ u5 u6 u7, X 420 2445 [rR 4 13 1, rR 3 11 1, rR 2 12 1, rR 3 14 1, vI (cn i), j5, j6, j7] [] M = X 420 3410 [rR 4 13 1, rR 3 11 1, rR 2 12 1, rR 3 14 1, vI (cn i), u5, u6, u7] [] M2 := by
  refine ⟨vI (cn code), vI bb, j7, ?_⟩
  by_cases hb : xs (i + 2) = 0
  · rw [show bzz (xs (i + 2)) = cn 0 from if_pos hb] at h1 h2
    refine y_ald zk31 5 2451 2452 (xs (i + 1)) rfl rfl rfl (sc_in s0 hi hL (j := 1) (by decide)) (sc_v s0 hi hL (j := 1) (by decide)) ?_
    refine y_ald zk31 4 2457 2458 (xs (i + 2)) rfl rfl rfl (sc_in s0 hi hL (j := 2) (by decide)) (sc_v s0 hi hL (j := 2) (by decide)) ?_
    refine y_ifT zk31 0 2458 2465 rfl rfl (by decide) (decide_eq_true hb) ?_
    refine y_cal zk31 3 2470 rfl h1 ?_
    refine y_ald zk31 6 2478 2479 (xs (i + 1)) rfl rfl rfl (sc_in s1 hi hL (j := 1) (by decide)) (sc_v s1 hi hL (j := 1) (by decide)) ?_
    refine y_ald zk31 4 2484 2485 (xs (i + 2)) rfl rfl rfl (sc_in s1 hi hL (j := 2) (by decide)) (sc_v s1 hi hL (j := 2) (by decide)) ?_
    refine y_ifT zk31 0 2485 2492 rfl rfl (by decide) (decide_eq_true hb) ?_
    refine y_cal zk31 2 2496 rfl h2 ?_
    refine y_cal zk31 3 2502 rfl h3 ?_
    refine y_icT zk31 1 2504 2509 rfl rfl (by decide) (decide_eq_true rfl) ?_
    by_cases h0 : code = 0
    · subst h0
      refine y_ifF zk31 1 2511 2514 rfl rfl rfl (by decide) (by decide) ?_
      refine y_lld zk31 2 2516 2517 bb.toInt64 rfl rfl rfl in_out (h4 rfl) ?_
      refine y_ifT zk31 3 2521 2526 rfl rfl (by decide) (decide_eq_true lg_self) ?_
      exact y_go zk31 1 3410 rfl rfl
    · refine y_ifT zk31 1 2511 2526 rfl rfl (by decide) (decide_eq_true (cn_nz h0 hc)) ?_
      exact y_go zk31 1 3410 rfl rfl
  · rw [show bzz (xs (i + 2)) = cn 1 from if_neg hb] at h1 h2
    refine y_ald zk31 5 2451 2452 (xs (i + 1)) rfl rfl rfl (sc_in s0 hi hL (j := 1) (by decide)) (sc_v s0 hi hL (j := 1) (by decide)) ?_
    refine y_ald zk31 4 2457 2458 (xs (i + 2)) rfl rfl rfl (sc_in s0 hi hL (j := 2) (by decide)) (sc_v s0 hi hL (j := 2) (by decide)) ?_
    refine y_ifF zk31 0 2458 2461 rfl rfl rfl (by decide) (decide_eq_false hb) ?_
    refine y_go zk31 2 2466 rfl ?_
    refine y_cal zk31 2 2470 rfl h1 ?_
    refine y_ald zk31 6 2478 2479 (xs (i + 1)) rfl rfl rfl (sc_in s1 hi hL (j := 1) (by decide)) (sc_v s1 hi hL (j := 1) (by decide)) ?_
    refine y_ald zk31 4 2484 2485 (xs (i + 2)) rfl rfl rfl (sc_in s1 hi hL (j := 2) (by decide)) (sc_v s1 hi hL (j := 2) (by decide)) ?_
    refine y_ifF zk31 0 2485 2488 rfl rfl rfl (by decide) (decide_eq_false hb) ?_
    refine y_go zk31 2 2493 rfl ?_
    refine y_cal zk31 1 2496 rfl h2 ?_
    refine y_cal zk31 3 2502 rfl h3 ?_
    refine y_icT zk31 1 2504 2509 rfl rfl (by decide) (decide_eq_true rfl) ?_
    by_cases h0 : code = 0
    · subst h0
      refine y_ifF zk31 1 2511 2514 rfl rfl rfl (by decide) (by decide) ?_
      refine y_lld zk31 2 2516 2517 bb.toInt64 rfl rfl rfl in_out (h4 rfl) ?_
      refine y_ifT zk31 3 2521 2526 rfl rfl (by decide) (decide_eq_true lg_self) ?_
      exact y_go zk31 1 3410 rfl rfl
    · refine y_ifT zk31 1 2511 2526 rfl rfl (by decide) (decide_eq_true (cn_nz h0 hc)) ?_
      exact y_go zk31 1 3410 rfl rfl
theorem lw_32 {M M1 M2 : Mem} {i L code : Nat} {xs : Nat → Int32} {bb : Int32} {j5 j6 j7 : AV} (hi : i + 7 ≤ L) (hL : L ≤ 3584) (s0 : SCR M L xs) (s1 : SCR M1 L xs) (hc : code < 4) (h1 : X 408 0 [rR 3 11 1, vI (xs (i + 1)), vI (bzz (xs (i + 2))), rR 3 14 1, vJ] [] M = some (.inl (some (vI (cn code))), M1)) (h2 : X 355 0 [rR 2 12 1, vI (xs (i + 1)), vI (bzz (xs (i + 2)))] [] M1 = some (.inl (some (vI bb)), M2)) (h3 : X 213 0 [rR 2 12 1] [] M2 = some (.inl (some (vI (cn code))), M2)) (h4 : code = 0 → (M2.1 3).2.1 14 1 0 = bb.toInt64) : ∃ u5 u6 u7, X 420 2529 [rR 4 13 1, rR 3 11 1, rR 2 12 1, rR 3 14 1, vI (cn i), j5, j6, j7] [] M = X 420 3410 [rR 4 13 1, rR 3 11 1, rR 2 12 1, rR 3 14 1, vI (cn i), u5, u6, u7] [] M2 := by
  refine ⟨vI (cn code), vI bb, j7, ?_⟩
  by_cases hb : xs (i + 2) = 0
  · rw [show bzz (xs (i + 2)) = cn 0 from if_pos hb] at h1 h2
    refine y_ald zk32 5 2535 2536 (xs (i + 1)) rfl rfl rfl (sc_in s0 hi hL (j := 1) (by decide)) (sc_v s0 hi hL (j := 1) (by decide)) ?_
    refine y_ald zk32 4 2541 2542 (xs (i + 2)) rfl rfl rfl (sc_in s0 hi hL (j := 2) (by decide)) (sc_v s0 hi hL (j := 2) (by decide)) ?_
    refine y_ifT zk32 0 2542 2549 rfl rfl (by decide) (decide_eq_true hb) ?_
    refine y_cal zk32 3 2554 rfl h1 ?_
    refine y_ald zk32 6 2562 2563 (xs (i + 1)) rfl rfl rfl (sc_in s1 hi hL (j := 1) (by decide)) (sc_v s1 hi hL (j := 1) (by decide)) ?_
    refine y_ald zk32 4 2568 2569 (xs (i + 2)) rfl rfl rfl (sc_in s1 hi hL (j := 2) (by decide)) (sc_v s1 hi hL (j := 2) (by decide)) ?_
    refine y_ifT zk32 0 2569 2576 rfl rfl (by decide) (decide_eq_true hb) ?_
    refine y_cal zk32 2 2580 rfl h2 ?_
    refine y_cal zk32 3 2586 rfl h3 ?_
    refine y_icT zk32 1 2588 2593 rfl rfl (by decide) (decide_eq_true rfl) ?_
    by_cases h0 : code = 0
    · subst h0
      refine y_ifF zk32 1 2595 2598 rfl rfl rfl (by decide) (by decide) ?_
      refine y_lld zk32 2 2600 2601 bb.toInt64 rfl rfl rfl in_out (h4 rfl) ?_
      refine y_ifT zk32 3 2605 2610 rfl rfl (by decide) (decide_eq_true lg_self) ?_
      exact y_go zk32 1 3410 rfl rfl
    · refine y_ifT zk32 1 2595 2610 rfl rfl (by decide) (decide_eq_true (cn_nz h0 hc)) ?_
      exact y_go zk32 1 3410 rfl rfl
  · rw [show bzz (xs (i + 2)) = cn 1 from if_neg hb] at h1 h2
    refine y_ald zk32 5 2535 2536 (xs (i + 1)) rfl rfl rfl (sc_in s0 hi hL (j := 1) (by decide)) (sc_v s0 hi hL (j := 1) (by decide)) ?_
    refine y_ald zk32 4 2541 2542 (xs (i + 2)) rfl rfl rfl (sc_in s0 hi hL (j := 2) (by decide)) (sc_v s0 hi hL (j := 2) (by decide)) ?_
    refine y_ifF zk32 0 2542 2545 rfl rfl rfl (by decide) (decide_eq_false hb) ?_
    refine y_go zk32 2 2550 rfl ?_
    refine y_cal zk32 2 2554 rfl h1 ?_
    refine y_ald zk32 6 2562 2563 (xs (i + 1)) rfl rfl rfl (sc_in s1 hi hL (j := 1) (by decide)) (sc_v s1 hi hL (j := 1) (by decide)) ?_
    refine y_ald zk32 4 2568 2569 (xs (i + 2)) rfl rfl rfl (sc_in s1 hi hL (j := 2) (by decide)) (sc_v s1 hi hL (j := 2) (by decide)) ?_
    refine y_ifF zk32 0 2569 2572 rfl rfl rfl (by decide) (decide_eq_false hb) ?_
    refine y_go zk32 2 2577 rfl ?_
    refine y_cal zk32 1 2580 rfl h2 ?_
    refine y_cal zk32 3 2586 rfl h3 ?_
    refine y_icT zk32 1 2588 2593 rfl rfl (by decide) (decide_eq_true rfl) ?_
    by_cases h0 : code = 0
    · subst h0
      refine y_ifF zk32 1 2595 2598 rfl rfl rfl (by decide) (by decide) ?_
      refine y_lld zk32 2 2600 2601 bb.toInt64 rfl rfl rfl in_out (h4 rfl) ?_
      refine y_ifT zk32 3 2605 2610 rfl rfl (by decide) (decide_eq_true lg_self) ?_
      exact y_go zk32 1 3410 rfl rfl
    · refine y_ifT zk32 1 2595 2610 rfl rfl (by decide) (decide_eq_true (cn_nz h0 hc)) ?_
      exact y_go zk32 1 3410 rfl rfl
theorem lw_33 {M M1 M2 : Mem} {i L code : Nat} {xs : Nat → Int32} {bb : Int32} {j5 j6 j7 : AV} (hi : i + 7 ≤ L) (hL : L ≤ 3584) (s0 : SCR M L xs) (s1 : SCR M1 L xs) (hc : code < 4) (h1 : X 409 0 [rR 3 11 1, vI (xs (i + 1)), vI (bzz (xs (i + 2))), vI (xs (i + 3)), rR 3 14 1, vJ] [] M = some (.inl (some (vI (cn code))), M1)) (h2 : X 356 0 [rR 2 12 1, vI (xs (i + 1)), vI (bzz (xs (i + 2))), vI (xs (i + 3)), vJ, vJ] [] M1 = some (.inl (some (vI bb)), M2)) (h3 : X 213 0 [rR 2 12 1] [] M2 = some (.inl (some (vI (cn code))), M2)) (h4 : code = 0 → (M2.1 3).2.1 14 1 0 = bb.toInt64) : ∃ u5 u6 u7, X 420 2613 [rR 4 13 1, rR 3 11 1, rR 2 12 1, rR 3 14 1, vI (cn i), j5, j6, j7] [] M = X 420 3410 [rR 4 13 1, rR 3 11 1, rR 2 12 1, rR 3 14 1, vI (cn i), u5, u6, u7] [] M2 := by
  refine ⟨vI (cn code), vI bb, j7, ?_⟩
  by_cases hb : xs (i + 2) = 0
  · rw [show bzz (xs (i + 2)) = cn 0 from if_pos hb] at h1 h2
    refine y_ald zk33 5 2619 2620 (xs (i + 1)) rfl rfl rfl (sc_in s0 hi hL (j := 1) (by decide)) (sc_v s0 hi hL (j := 1) (by decide)) ?_
    refine y_ald zk33 4 2625 2626 (xs (i + 2)) rfl rfl rfl (sc_in s0 hi hL (j := 2) (by decide)) (sc_v s0 hi hL (j := 2) (by decide)) ?_
    refine y_ifT zk33 0 2626 2633 rfl rfl (by decide) (decide_eq_true hb) ?_
    refine y_ald zk33 5 2639 2640 (xs (i + 3)) rfl rfl rfl (sc_in s0 hi hL (j := 3) (by decide)) (sc_v s0 hi hL (j := 3) (by decide)) ?_
    refine y_cal zk33 2 2644 rfl h1 ?_
    refine y_ald zk33 6 2652 2653 (xs (i + 1)) rfl rfl rfl (sc_in s1 hi hL (j := 1) (by decide)) (sc_v s1 hi hL (j := 1) (by decide)) ?_
    refine y_ald zk33 4 2658 2659 (xs (i + 2)) rfl rfl rfl (sc_in s1 hi hL (j := 2) (by decide)) (sc_v s1 hi hL (j := 2) (by decide)) ?_
    refine y_ifT zk33 0 2659 2666 rfl rfl (by decide) (decide_eq_true hb) ?_
    refine y_ald zk33 5 2672 2673 (xs (i + 3)) rfl rfl rfl (sc_in s1 hi hL (j := 3) (by decide)) (sc_v s1 hi hL (j := 3) (by decide)) ?_
    refine y_cal zk33 1 2676 rfl h2 ?_
    refine y_cal zk33 3 2682 rfl h3 ?_
    refine y_icT zk33 1 2684 2689 rfl rfl (by decide) (decide_eq_true rfl) ?_
    by_cases h0 : code = 0
    · subst h0
      refine y_ifF zk33 1 2691 2694 rfl rfl rfl (by decide) (by decide) ?_
      refine y_lld zk33 2 2696 2697 bb.toInt64 rfl rfl rfl in_out (h4 rfl) ?_
      refine y_ifT zk33 3 2701 2706 rfl rfl (by decide) (decide_eq_true lg_self) ?_
      exact y_go zk33 1 3410 rfl rfl
    · refine y_ifT zk33 1 2691 2706 rfl rfl (by decide) (decide_eq_true (cn_nz h0 hc)) ?_
      exact y_go zk33 1 3410 rfl rfl
  · rw [show bzz (xs (i + 2)) = cn 1 from if_neg hb] at h1 h2
    refine y_ald zk33 5 2619 2620 (xs (i + 1)) rfl rfl rfl (sc_in s0 hi hL (j := 1) (by decide)) (sc_v s0 hi hL (j := 1) (by decide)) ?_
    refine y_ald zk33 4 2625 2626 (xs (i + 2)) rfl rfl rfl (sc_in s0 hi hL (j := 2) (by decide)) (sc_v s0 hi hL (j := 2) (by decide)) ?_
    refine y_ifF zk33 0 2626 2629 rfl rfl rfl (by decide) (decide_eq_false hb) ?_
    refine y_go zk33 2 2634 rfl ?_
    refine y_ald zk33 4 2639 2640 (xs (i + 3)) rfl rfl rfl (sc_in s0 hi hL (j := 3) (by decide)) (sc_v s0 hi hL (j := 3) (by decide)) ?_
    refine y_cal zk33 2 2644 rfl h1 ?_
    refine y_ald zk33 6 2652 2653 (xs (i + 1)) rfl rfl rfl (sc_in s1 hi hL (j := 1) (by decide)) (sc_v s1 hi hL (j := 1) (by decide)) ?_
    refine y_ald zk33 4 2658 2659 (xs (i + 2)) rfl rfl rfl (sc_in s1 hi hL (j := 2) (by decide)) (sc_v s1 hi hL (j := 2) (by decide)) ?_
    refine y_ifF zk33 0 2659 2662 rfl rfl rfl (by decide) (decide_eq_false hb) ?_
    refine y_go zk33 2 2667 rfl ?_
    refine y_ald zk33 4 2672 2673 (xs (i + 3)) rfl rfl rfl (sc_in s1 hi hL (j := 3) (by decide)) (sc_v s1 hi hL (j := 3) (by decide)) ?_
    refine y_cal zk33 1 2676 rfl h2 ?_
    refine y_cal zk33 3 2682 rfl h3 ?_
    refine y_icT zk33 1 2684 2689 rfl rfl (by decide) (decide_eq_true rfl) ?_
    by_cases h0 : code = 0
    · subst h0
      refine y_ifF zk33 1 2691 2694 rfl rfl rfl (by decide) (by decide) ?_
      refine y_lld zk33 2 2696 2697 bb.toInt64 rfl rfl rfl in_out (h4 rfl) ?_
      refine y_ifT zk33 3 2701 2706 rfl rfl (by decide) (decide_eq_true lg_self) ?_
      exact y_go zk33 1 3410 rfl rfl
    · refine y_ifT zk33 1 2691 2706 rfl rfl (by decide) (decide_eq_true (cn_nz h0 hc)) ?_
      exact y_go zk33 1 3410 rfl rfl
theorem lw_34 {M M1 M2 : Mem} {i L : Nat} {xs : Nat → Int32} {bb : Int32} {j5 j6 j7 : AV} (hi : i + 7 ≤ L) (hL : L ≤ 3584) (s0 : SCR M L xs) (s1 : SCR M1 L xs) (h1 : X 187 0 [rR 3 11 1, vI (xs (i + 1)), vJ] [] M = some (.inl (some (vI bb)), M1)) (h2 : X 357 0 [rR 2 12 1, vI (xs (i + 1)), vJ] [] M1 = some (.inl (some (vI bb)), M2)) : ∃ u5 u6 u7, X 420 2709 [rR 4 13 1, rR 3 11 1, rR 2 12 1, rR 3 14 1, vI (cn i), j5, j6, j7] [] M = X 420 3410 [rR 4 13 1, rR 3 11 1, rR 2 12 1, rR 3 14 1, vI (cn i), u5, u6, u7] [] M2 := by
  refine ⟨j5, j6, j7, ?_⟩
  refine y_ald zk34 5 2715 2716 (xs (i + 1)) rfl rfl rfl (sc_in s0 hi hL (j := 1) (by decide)) (sc_v s0 hi hL (j := 1) (by decide)) ?_
  refine y_cal zk34 1 2719 rfl h1 ?_
  refine y_ald zk34 5 2725 2726 (xs (i + 1)) rfl rfl rfl (sc_in s1 hi hL (j := 1) (by decide)) (sc_v s1 hi hL (j := 1) (by decide)) ?_
  refine y_cal zk34 1 2729 rfl h2 ?_
  refine y_icT zk34 0 2729 3410 rfl rfl (by decide) (decide_eq_true rfl) ?_
  rfl
theorem lw_35 {M M1 M2 : Mem} {i L code : Nat} {xs : Nat → Int32} {bb : Int32} {j5 j6 j7 : AV} (hi : i + 7 ≤ L) (hL : L ≤ 3584) (s0 : SCR M L xs) (s1 : SCR M1 L xs) (hc : code < 4) (h1 : X 410 0 [rR 3 11 1, vI (xs (i + 1)), rR 3 14 1, vJ] [] M = some (.inl (some (vI (cn code))), M1)) (h2 : X 358 0 [rR 2 12 1, vI (xs (i + 1)), vJ] [] M1 = some (.inl (some (vI bb)), M2)) (h3 : X 213 0 [rR 2 12 1] [] M2 = some (.inl (some (vI (cn code))), M2)) (h4 : code = 0 → (M2.1 3).2.1 14 1 0 = bb.toInt64) : ∃ u5 u6 u7, X 420 2734 [rR 4 13 1, rR 3 11 1, rR 2 12 1, rR 3 14 1, vI (cn i), j5, j6, j7] [] M = X 420 3410 [rR 4 13 1, rR 3 11 1, rR 2 12 1, rR 3 14 1, vI (cn i), u5, u6, u7] [] M2 := by
  refine ⟨vI (cn code), vI bb, j7, ?_⟩
  refine y_ald zk35 5 2740 2741 (xs (i + 1)) rfl rfl rfl (sc_in s0 hi hL (j := 1) (by decide)) (sc_v s0 hi hL (j := 1) (by decide)) ?_
  refine y_cal zk35 2 2745 rfl h1 ?_
  refine y_ald zk35 6 2753 2754 (xs (i + 1)) rfl rfl rfl (sc_in s1 hi hL (j := 1) (by decide)) (sc_v s1 hi hL (j := 1) (by decide)) ?_
  refine y_cal zk35 1 2757 rfl h2 ?_
  refine y_cal zk35 3 2763 rfl h3 ?_
  refine y_icT zk35 1 2765 2770 rfl rfl (by decide) (decide_eq_true rfl) ?_
  by_cases h0 : code = 0
  · subst h0
    refine y_ifF zk35 1 2772 2775 rfl rfl rfl (by decide) (by decide) ?_
    refine y_lld zk35 2 2777 2778 bb.toInt64 rfl rfl rfl in_out (h4 rfl) ?_
    refine y_ifT zk35 3 2782 2787 rfl rfl (by decide) (decide_eq_true lg_self) ?_
    exact y_go zk35 1 3410 rfl rfl
  · refine y_ifT zk35 1 2772 2787 rfl rfl (by decide) (decide_eq_true (cn_nz h0 hc)) ?_
    exact y_go zk35 1 3410 rfl rfl
