/-! the law's cases: a call of the face and one of the reference, which answer alike -/
theorem lw_0 {M M1 M2 : Mem} {i L code : Nat} {xs : Nat → Int32} {bb : Int32} {j5 j6 j7 : AV} (hi : i + 7 ≤ L) (hL : L ≤ 3584) (s0 : SCR M L xs) (s1 : SCR M1 L xs) (hc : code < 4) (h1 : X 379 0 [rR 3 11 1, vI (xs (i + 1)), vI (xs (i + 2)), vI (xs (i + 3)), vI (xs (i + 4)), vI (xs (i + 5)), vI (xs (i + 6)), rR 3 14 1, vJ] [] M = some (.inl (some (vI (cn code))), M1)) (h2 : X 322 0 [rR 2 12 1, vI (xs (i + 1)), vI (xs (i + 2)), vI (xs (i + 3)), vI (xs (i + 4)), vI (xs (i + 5)), vI (xs (i + 6))] [] M1 = some (.inl (some (vI bb)), M2)) (h3 : X 213 0 [rR 2 12 1] [] M2 = some (.inl (some (vI (cn code))), M2)) (h4 : code = 0 → (M2.1 3).2.1 14 1 0 = bb.toInt64) : ∃ u5 u6 u7, X 420 244 [rR 4 13 1, rR 3 11 1, rR 2 12 1, rR 3 14 1, vI (cn i), j5, j6, j7] [] M = X 420 3410 [rR 4 13 1, rR 3 11 1, rR 2 12 1, rR 3 14 1, vI (cn i), u5, u6, u7] [] M2 := by
  refine ⟨vI (cn code), vI bb, j7, ?_⟩
  refine y_ald zk0 5 250 251 (xs (i + 1)) rfl rfl rfl (sc_in s0 hi hL (j := 1) (by decide)) (sc_v s0 hi hL (j := 1) (by decide)) ?_
  refine y_ald zk0 4 256 257 (xs (i + 2)) rfl rfl rfl (sc_in s0 hi hL (j := 2) (by decide)) (sc_v s0 hi hL (j := 2) (by decide)) ?_
  refine y_ald zk0 4 262 263 (xs (i + 3)) rfl rfl rfl (sc_in s0 hi hL (j := 3) (by decide)) (sc_v s0 hi hL (j := 3) (by decide)) ?_
  refine y_ald zk0 4 268 269 (xs (i + 4)) rfl rfl rfl (sc_in s0 hi hL (j := 4) (by decide)) (sc_v s0 hi hL (j := 4) (by decide)) ?_
  refine y_ald zk0 4 274 275 (xs (i + 5)) rfl rfl rfl (sc_in s0 hi hL (j := 5) (by decide)) (sc_v s0 hi hL (j := 5) (by decide)) ?_
  refine y_ald zk0 4 281 282 (xs (i + 6)) rfl rfl rfl (sc_in s0 hi hL (j := 6) (by decide)) (sc_v s0 hi hL (j := 6) (by decide)) ?_
  refine y_cal zk0 2 286 rfl h1 ?_
  refine y_ald zk0 6 294 295 (xs (i + 1)) rfl rfl rfl (sc_in s1 hi hL (j := 1) (by decide)) (sc_v s1 hi hL (j := 1) (by decide)) ?_
  refine y_ald zk0 4 300 301 (xs (i + 2)) rfl rfl rfl (sc_in s1 hi hL (j := 2) (by decide)) (sc_v s1 hi hL (j := 2) (by decide)) ?_
  refine y_ald zk0 4 306 307 (xs (i + 3)) rfl rfl rfl (sc_in s1 hi hL (j := 3) (by decide)) (sc_v s1 hi hL (j := 3) (by decide)) ?_
  refine y_ald zk0 4 312 313 (xs (i + 4)) rfl rfl rfl (sc_in s1 hi hL (j := 4) (by decide)) (sc_v s1 hi hL (j := 4) (by decide)) ?_
  refine y_ald zk0 4 318 319 (xs (i + 5)) rfl rfl rfl (sc_in s1 hi hL (j := 5) (by decide)) (sc_v s1 hi hL (j := 5) (by decide)) ?_
  refine y_ald zk0 4 325 326 (xs (i + 6)) rfl rfl rfl (sc_in s1 hi hL (j := 6) (by decide)) (sc_v s1 hi hL (j := 6) (by decide)) ?_
  refine y_cal zk0 1 329 rfl h2 ?_
  refine y_cal zk0 3 335 rfl h3 ?_
  refine y_icT zk0 1 337 342 rfl rfl (by decide) (decide_eq_true rfl) ?_
  by_cases h0 : code = 0
  · subst h0
    refine y_ifF zk0 1 344 347 rfl rfl rfl (by decide) (by decide) ?_
    refine y_lld zk0 2 349 350 bb.toInt64 rfl rfl rfl in_out (h4 rfl) ?_
    refine y_ifT zk0 3 354 359 rfl rfl (by decide) (decide_eq_true lg_self) ?_
    exact y_go zk0 1 3410 rfl rfl
  · refine y_ifT zk0 1 344 359 rfl rfl (by decide) (decide_eq_true (cn_nz h0 hc)) ?_
    exact y_go zk0 1 3410 rfl rfl
theorem lw_1 {M M1 M2 : Mem} {i L code : Nat} {xs : Nat → Int32} {bb : Int32} {j5 j6 j7 : AV} (hi : i + 7 ≤ L) (hL : L ≤ 3584) (s0 : SCR M L xs) (s1 : SCR M1 L xs) (hc : code < 4) (h1 : X 380 0 [rR 3 11 1, vI (xs (i + 1)), vI (xs (i + 2)), vI (xs (i + 3)), rR 3 14 1, vJ] [] M = some (.inl (some (vI (cn code))), M1)) (h2 : X 323 0 [rR 2 12 1, vI (xs (i + 1)), vI (xs (i + 2)), vI (xs (i + 3))] [] M1 = some (.inl (some (vI bb)), M2)) (h3 : X 213 0 [rR 2 12 1] [] M2 = some (.inl (some (vI (cn code))), M2)) (h4 : code = 0 → (M2.1 3).2.1 14 1 0 = bb.toInt64) : ∃ u5 u6 u7, X 420 362 [rR 4 13 1, rR 3 11 1, rR 2 12 1, rR 3 14 1, vI (cn i), j5, j6, j7] [] M = X 420 3410 [rR 4 13 1, rR 3 11 1, rR 2 12 1, rR 3 14 1, vI (cn i), u5, u6, u7] [] M2 := by
  refine ⟨vI (cn code), vI bb, j7, ?_⟩
  refine y_ald zk1 5 368 369 (xs (i + 1)) rfl rfl rfl (sc_in s0 hi hL (j := 1) (by decide)) (sc_v s0 hi hL (j := 1) (by decide)) ?_
  refine y_ald zk1 4 374 375 (xs (i + 2)) rfl rfl rfl (sc_in s0 hi hL (j := 2) (by decide)) (sc_v s0 hi hL (j := 2) (by decide)) ?_
  refine y_ald zk1 4 380 381 (xs (i + 3)) rfl rfl rfl (sc_in s0 hi hL (j := 3) (by decide)) (sc_v s0 hi hL (j := 3) (by decide)) ?_
  refine y_cal zk1 2 385 rfl h1 ?_
  refine y_ald zk1 6 393 394 (xs (i + 1)) rfl rfl rfl (sc_in s1 hi hL (j := 1) (by decide)) (sc_v s1 hi hL (j := 1) (by decide)) ?_
  refine y_ald zk1 4 399 400 (xs (i + 2)) rfl rfl rfl (sc_in s1 hi hL (j := 2) (by decide)) (sc_v s1 hi hL (j := 2) (by decide)) ?_
  refine y_ald zk1 4 405 406 (xs (i + 3)) rfl rfl rfl (sc_in s1 hi hL (j := 3) (by decide)) (sc_v s1 hi hL (j := 3) (by decide)) ?_
  refine y_cal zk1 1 409 rfl h2 ?_
  refine y_cal zk1 3 415 rfl h3 ?_
  refine y_icT zk1 1 417 422 rfl rfl (by decide) (decide_eq_true rfl) ?_
  by_cases h0 : code = 0
  · subst h0
    refine y_ifF zk1 1 424 427 rfl rfl rfl (by decide) (by decide) ?_
    refine y_lld zk1 2 429 430 bb.toInt64 rfl rfl rfl in_out (h4 rfl) ?_
    refine y_ifT zk1 3 434 439 rfl rfl (by decide) (decide_eq_true lg_self) ?_
    exact y_go zk1 1 3410 rfl rfl
  · refine y_ifT zk1 1 424 439 rfl rfl (by decide) (decide_eq_true (cn_nz h0 hc)) ?_
    exact y_go zk1 1 3410 rfl rfl
theorem lw_2 {M M1 M2 : Mem} {i L code : Nat} {xs : Nat → Int32} {bb : Int32} {j5 j6 j7 : AV} (hi : i + 7 ≤ L) (hL : L ≤ 3584) (s0 : SCR M L xs) (s1 : SCR M1 L xs) (hc : code < 4) (h1 : X 381 0 [rR 3 11 1, vI (xs (i + 1)), vI (xs (i + 2)), vI (xs (i + 3)), vI (xs (i + 4)), vI (xs (i + 5)), rR 3 14 1, vJ] [] M = some (.inl (some (vI (cn code))), M1)) (h2 : X 324 0 [rR 2 12 1, vI (xs (i + 1)), vI (xs (i + 2)), vI (xs (i + 3)), vI (xs (i + 4)), vI (xs (i + 5))] [] M1 = some (.inl (some (vI bb)), M2)) (h3 : X 213 0 [rR 2 12 1] [] M2 = some (.inl (some (vI (cn code))), M2)) (h4 : code = 0 → (M2.1 3).2.1 14 1 0 = bb.toInt64) : ∃ u5 u6 u7, X 420 442 [rR 4 13 1, rR 3 11 1, rR 2 12 1, rR 3 14 1, vI (cn i), j5, j6, j7] [] M = X 420 3410 [rR 4 13 1, rR 3 11 1, rR 2 12 1, rR 3 14 1, vI (cn i), u5, u6, u7] [] M2 := by
  refine ⟨vI (cn code), vI bb, j7, ?_⟩
  refine y_ald zk2 5 448 449 (xs (i + 1)) rfl rfl rfl (sc_in s0 hi hL (j := 1) (by decide)) (sc_v s0 hi hL (j := 1) (by decide)) ?_
  refine y_ald zk2 4 454 455 (xs (i + 2)) rfl rfl rfl (sc_in s0 hi hL (j := 2) (by decide)) (sc_v s0 hi hL (j := 2) (by decide)) ?_
  refine y_ald zk2 4 460 461 (xs (i + 3)) rfl rfl rfl (sc_in s0 hi hL (j := 3) (by decide)) (sc_v s0 hi hL (j := 3) (by decide)) ?_
  refine y_ald zk2 4 466 467 (xs (i + 4)) rfl rfl rfl (sc_in s0 hi hL (j := 4) (by decide)) (sc_v s0 hi hL (j := 4) (by decide)) ?_
  refine y_ald zk2 4 472 473 (xs (i + 5)) rfl rfl rfl (sc_in s0 hi hL (j := 5) (by decide)) (sc_v s0 hi hL (j := 5) (by decide)) ?_
  refine y_cal zk2 2 477 rfl h1 ?_
  refine y_ald zk2 6 485 486 (xs (i + 1)) rfl rfl rfl (sc_in s1 hi hL (j := 1) (by decide)) (sc_v s1 hi hL (j := 1) (by decide)) ?_
  refine y_ald zk2 4 491 492 (xs (i + 2)) rfl rfl rfl (sc_in s1 hi hL (j := 2) (by decide)) (sc_v s1 hi hL (j := 2) (by decide)) ?_
  refine y_ald zk2 4 497 498 (xs (i + 3)) rfl rfl rfl (sc_in s1 hi hL (j := 3) (by decide)) (sc_v s1 hi hL (j := 3) (by decide)) ?_
  refine y_ald zk2 4 503 504 (xs (i + 4)) rfl rfl rfl (sc_in s1 hi hL (j := 4) (by decide)) (sc_v s1 hi hL (j := 4) (by decide)) ?_
  refine y_ald zk2 4 509 510 (xs (i + 5)) rfl rfl rfl (sc_in s1 hi hL (j := 5) (by decide)) (sc_v s1 hi hL (j := 5) (by decide)) ?_
  refine y_cal zk2 1 513 rfl h2 ?_
  refine y_cal zk2 3 519 rfl h3 ?_
  refine y_icT zk2 1 521 526 rfl rfl (by decide) (decide_eq_true rfl) ?_
  by_cases h0 : code = 0
  · subst h0
    refine y_ifF zk2 1 528 531 rfl rfl rfl (by decide) (by decide) ?_
    refine y_lld zk2 2 533 534 bb.toInt64 rfl rfl rfl in_out (h4 rfl) ?_
    refine y_ifT zk2 3 538 543 rfl rfl (by decide) (decide_eq_true lg_self) ?_
    exact y_go zk2 1 3410 rfl rfl
  · refine y_ifT zk2 1 528 543 rfl rfl (by decide) (decide_eq_true (cn_nz h0 hc)) ?_
    exact y_go zk2 1 3410 rfl rfl
theorem lw_3 {M M1 M2 : Mem} {i L code : Nat} {xs : Nat → Int32} {bb : Int32} {j5 j6 j7 : AV} (hi : i + 7 ≤ L) (hL : L ≤ 3584) (s0 : SCR M L xs) (s1 : SCR M1 L xs) (hc : code < 4) (h1 : X 382 0 [rR 3 11 1, vI (xs (i + 1)), vI (xs (i + 2)), vI (xs (i + 3)), vI (xs (i + 4)), vI (xs (i + 5)), rR 3 14 1, vJ] [] M = some (.inl (some (vI (cn code))), M1)) (h2 : X 325 0 [rR 2 12 1, vI (xs (i + 1)), vI (xs (i + 2)), vI (xs (i + 3)), vI (xs (i + 4)), vI (xs (i + 5))] [] M1 = some (.inl (some (vI bb)), M2)) (h3 : X 213 0 [rR 2 12 1] [] M2 = some (.inl (some (vI (cn code))), M2)) (h4 : code = 0 → (M2.1 3).2.1 14 1 0 = bb.toInt64) : ∃ u5 u6 u7, X 420 546 [rR 4 13 1, rR 3 11 1, rR 2 12 1, rR 3 14 1, vI (cn i), j5, j6, j7] [] M = X 420 3410 [rR 4 13 1, rR 3 11 1, rR 2 12 1, rR 3 14 1, vI (cn i), u5, u6, u7] [] M2 := by
  refine ⟨vI (cn code), vI bb, j7, ?_⟩
  refine y_ald zk3 5 552 553 (xs (i + 1)) rfl rfl rfl (sc_in s0 hi hL (j := 1) (by decide)) (sc_v s0 hi hL (j := 1) (by decide)) ?_
  refine y_ald zk3 4 558 559 (xs (i + 2)) rfl rfl rfl (sc_in s0 hi hL (j := 2) (by decide)) (sc_v s0 hi hL (j := 2) (by decide)) ?_
  refine y_ald zk3 4 564 565 (xs (i + 3)) rfl rfl rfl (sc_in s0 hi hL (j := 3) (by decide)) (sc_v s0 hi hL (j := 3) (by decide)) ?_
  refine y_ald zk3 4 570 571 (xs (i + 4)) rfl rfl rfl (sc_in s0 hi hL (j := 4) (by decide)) (sc_v s0 hi hL (j := 4) (by decide)) ?_
  refine y_ald zk3 4 576 577 (xs (i + 5)) rfl rfl rfl (sc_in s0 hi hL (j := 5) (by decide)) (sc_v s0 hi hL (j := 5) (by decide)) ?_
  refine y_cal zk3 2 581 rfl h1 ?_
  refine y_ald zk3 6 589 590 (xs (i + 1)) rfl rfl rfl (sc_in s1 hi hL (j := 1) (by decide)) (sc_v s1 hi hL (j := 1) (by decide)) ?_
  refine y_ald zk3 4 595 596 (xs (i + 2)) rfl rfl rfl (sc_in s1 hi hL (j := 2) (by decide)) (sc_v s1 hi hL (j := 2) (by decide)) ?_
  refine y_ald zk3 4 601 602 (xs (i + 3)) rfl rfl rfl (sc_in s1 hi hL (j := 3) (by decide)) (sc_v s1 hi hL (j := 3) (by decide)) ?_
  refine y_ald zk3 4 607 608 (xs (i + 4)) rfl rfl rfl (sc_in s1 hi hL (j := 4) (by decide)) (sc_v s1 hi hL (j := 4) (by decide)) ?_
  refine y_ald zk3 4 613 614 (xs (i + 5)) rfl rfl rfl (sc_in s1 hi hL (j := 5) (by decide)) (sc_v s1 hi hL (j := 5) (by decide)) ?_
  refine y_cal zk3 1 617 rfl h2 ?_
  refine y_cal zk3 3 623 rfl h3 ?_
  refine y_icT zk3 1 625 630 rfl rfl (by decide) (decide_eq_true rfl) ?_
  by_cases h0 : code = 0
  · subst h0
    refine y_ifF zk3 1 632 635 rfl rfl rfl (by decide) (by decide) ?_
    refine y_lld zk3 2 637 638 bb.toInt64 rfl rfl rfl in_out (h4 rfl) ?_
    refine y_ifT zk3 3 642 647 rfl rfl (by decide) (decide_eq_true lg_self) ?_
    exact y_go zk3 1 3410 rfl rfl
  · refine y_ifT zk3 1 632 647 rfl rfl (by decide) (decide_eq_true (cn_nz h0 hc)) ?_
    exact y_go zk3 1 3410 rfl rfl
theorem lw_4 {M M1 M2 : Mem} {i L code : Nat} {xs : Nat → Int32} {bb : Int32} {j5 j6 j7 : AV} (hi : i + 7 ≤ L) (hL : L ≤ 3584) (s0 : SCR M L xs) (s1 : SCR M1 L xs) (hc : code < 4) (h1 : X 383 0 [rR 3 11 1, vI (xs (i + 1)), vI (xs (i + 2)), vI (xs (i + 3)), vI (xs (i + 4)), vI (xs (i + 5)), rR 3 14 1, vJ] [] M = some (.inl (some (vI (cn code))), M1)) (h2 : X 326 0 [rR 2 12 1, vI (xs (i + 1)), vI (xs (i + 2)), vI (xs (i + 3)), vI (xs (i + 4)), vI (xs (i + 5))] [] M1 = some (.inl (some (vI bb)), M2)) (h3 : X 213 0 [rR 2 12 1] [] M2 = some (.inl (some (vI (cn code))), M2)) (h4 : code = 0 → (M2.1 3).2.1 14 1 0 = bb.toInt64) : ∃ u5 u6 u7, X 420 650 [rR 4 13 1, rR 3 11 1, rR 2 12 1, rR 3 14 1, vI (cn i), j5, j6, j7] [] M = X 420 3410 [rR 4 13 1, rR 3 11 1, rR 2 12 1, rR 3 14 1, vI (cn i), u5, u6, u7] [] M2 := by
  refine ⟨vI (cn code), vI bb, j7, ?_⟩
  refine y_ald zk4 5 656 657 (xs (i + 1)) rfl rfl rfl (sc_in s0 hi hL (j := 1) (by decide)) (sc_v s0 hi hL (j := 1) (by decide)) ?_
  refine y_ald zk4 4 662 663 (xs (i + 2)) rfl rfl rfl (sc_in s0 hi hL (j := 2) (by decide)) (sc_v s0 hi hL (j := 2) (by decide)) ?_
  refine y_ald zk4 4 668 669 (xs (i + 3)) rfl rfl rfl (sc_in s0 hi hL (j := 3) (by decide)) (sc_v s0 hi hL (j := 3) (by decide)) ?_
  refine y_ald zk4 4 674 675 (xs (i + 4)) rfl rfl rfl (sc_in s0 hi hL (j := 4) (by decide)) (sc_v s0 hi hL (j := 4) (by decide)) ?_
  refine y_ald zk4 4 680 681 (xs (i + 5)) rfl rfl rfl (sc_in s0 hi hL (j := 5) (by decide)) (sc_v s0 hi hL (j := 5) (by decide)) ?_
  refine y_cal zk4 2 685 rfl h1 ?_
  refine y_ald zk4 6 693 694 (xs (i + 1)) rfl rfl rfl (sc_in s1 hi hL (j := 1) (by decide)) (sc_v s1 hi hL (j := 1) (by decide)) ?_
  refine y_ald zk4 4 699 700 (xs (i + 2)) rfl rfl rfl (sc_in s1 hi hL (j := 2) (by decide)) (sc_v s1 hi hL (j := 2) (by decide)) ?_
  refine y_ald zk4 4 705 706 (xs (i + 3)) rfl rfl rfl (sc_in s1 hi hL (j := 3) (by decide)) (sc_v s1 hi hL (j := 3) (by decide)) ?_
  refine y_ald zk4 4 711 712 (xs (i + 4)) rfl rfl rfl (sc_in s1 hi hL (j := 4) (by decide)) (sc_v s1 hi hL (j := 4) (by decide)) ?_
  refine y_ald zk4 4 717 718 (xs (i + 5)) rfl rfl rfl (sc_in s1 hi hL (j := 5) (by decide)) (sc_v s1 hi hL (j := 5) (by decide)) ?_
  refine y_cal zk4 1 721 rfl h2 ?_
  refine y_cal zk4 3 727 rfl h3 ?_
  refine y_icT zk4 1 729 734 rfl rfl (by decide) (decide_eq_true rfl) ?_
  by_cases h0 : code = 0
  · subst h0
    refine y_ifF zk4 1 736 739 rfl rfl rfl (by decide) (by decide) ?_
    refine y_lld zk4 2 741 742 bb.toInt64 rfl rfl rfl in_out (h4 rfl) ?_
    refine y_ifT zk4 3 746 751 rfl rfl (by decide) (decide_eq_true lg_self) ?_
    exact y_go zk4 1 3410 rfl rfl
  · refine y_ifT zk4 1 736 751 rfl rfl (by decide) (decide_eq_true (cn_nz h0 hc)) ?_
    exact y_go zk4 1 3410 rfl rfl
theorem lw_5 {M M1 M2 : Mem} {i L code : Nat} {xs : Nat → Int32} {bb : Int32} {j5 j6 j7 : AV} (hi : i + 7 ≤ L) (hL : L ≤ 3584) (s0 : SCR M L xs) (s1 : SCR M1 L xs) (hc : code < 4) (h1 : X 384 0 [rR 3 11 1, vI (xs (i + 1)), vI (xs (i + 2)), vI (xs (i + 3)), vI (xs (i + 4)), vI (xs (i + 5)), rR 3 14 1, vJ] [] M = some (.inl (some (vI (cn code))), M1)) (h2 : X 327 0 [rR 2 12 1, vI (xs (i + 1)), vI (xs (i + 2)), vI (xs (i + 3)), vI (xs (i + 4)), vI (xs (i + 5))] [] M1 = some (.inl (some (vI bb)), M2)) (h3 : X 213 0 [rR 2 12 1] [] M2 = some (.inl (some (vI (cn code))), M2)) (h4 : code = 0 → (M2.1 3).2.1 14 1 0 = bb.toInt64) : ∃ u5 u6 u7, X 420 754 [rR 4 13 1, rR 3 11 1, rR 2 12 1, rR 3 14 1, vI (cn i), j5, j6, j7] [] M = X 420 3410 [rR 4 13 1, rR 3 11 1, rR 2 12 1, rR 3 14 1, vI (cn i), u5, u6, u7] [] M2 := by
  refine ⟨vI (cn code), vI bb, j7, ?_⟩
  refine y_ald zk5 5 760 761 (xs (i + 1)) rfl rfl rfl (sc_in s0 hi hL (j := 1) (by decide)) (sc_v s0 hi hL (j := 1) (by decide)) ?_
  refine y_ald zk5 4 766 767 (xs (i + 2)) rfl rfl rfl (sc_in s0 hi hL (j := 2) (by decide)) (sc_v s0 hi hL (j := 2) (by decide)) ?_
  refine y_ald zk5 4 772 773 (xs (i + 3)) rfl rfl rfl (sc_in s0 hi hL (j := 3) (by decide)) (sc_v s0 hi hL (j := 3) (by decide)) ?_
  refine y_ald zk5 4 778 779 (xs (i + 4)) rfl rfl rfl (sc_in s0 hi hL (j := 4) (by decide)) (sc_v s0 hi hL (j := 4) (by decide)) ?_
  refine y_ald zk5 4 784 785 (xs (i + 5)) rfl rfl rfl (sc_in s0 hi hL (j := 5) (by decide)) (sc_v s0 hi hL (j := 5) (by decide)) ?_
  refine y_cal zk5 2 789 rfl h1 ?_
  refine y_ald zk5 6 797 798 (xs (i + 1)) rfl rfl rfl (sc_in s1 hi hL (j := 1) (by decide)) (sc_v s1 hi hL (j := 1) (by decide)) ?_
  refine y_ald zk5 4 803 804 (xs (i + 2)) rfl rfl rfl (sc_in s1 hi hL (j := 2) (by decide)) (sc_v s1 hi hL (j := 2) (by decide)) ?_
  refine y_ald zk5 4 809 810 (xs (i + 3)) rfl rfl rfl (sc_in s1 hi hL (j := 3) (by decide)) (sc_v s1 hi hL (j := 3) (by decide)) ?_
  refine y_ald zk5 4 815 816 (xs (i + 4)) rfl rfl rfl (sc_in s1 hi hL (j := 4) (by decide)) (sc_v s1 hi hL (j := 4) (by decide)) ?_
  refine y_ald zk5 4 821 822 (xs (i + 5)) rfl rfl rfl (sc_in s1 hi hL (j := 5) (by decide)) (sc_v s1 hi hL (j := 5) (by decide)) ?_
  refine y_cal zk5 1 825 rfl h2 ?_
  refine y_cal zk5 3 831 rfl h3 ?_
  refine y_icT zk5 1 833 838 rfl rfl (by decide) (decide_eq_true rfl) ?_
  by_cases h0 : code = 0
  · subst h0
    refine y_ifF zk5 1 840 843 rfl rfl rfl (by decide) (by decide) ?_
    refine y_lld zk5 2 845 846 bb.toInt64 rfl rfl rfl in_out (h4 rfl) ?_
    refine y_ifT zk5 3 850 855 rfl rfl (by decide) (decide_eq_true lg_self) ?_
    exact y_go zk5 1 3410 rfl rfl
  · refine y_ifT zk5 1 840 855 rfl rfl (by decide) (decide_eq_true (cn_nz h0 hc)) ?_
    exact y_go zk5 1 3410 rfl rfl
theorem lw_6 {M M1 M2 : Mem} {i L code : Nat} {xs : Nat → Int32} {bb : Int32} {j5 j6 j7 : AV} (hi : i + 7 ≤ L) (hL : L ≤ 3584) (s0 : SCR M L xs) (s1 : SCR M1 L xs) (hc : code < 4) (h1 : X 385 0 [rR 3 11 1, vI (xs (i + 1)), rR 3 14 1, vJ] [] M = some (.inl (some (vI (cn code))), M1)) (h2 : X 328 0 [rR 2 12 1, vI (xs (i + 1))] [] M1 = some (.inl (some (vI bb)), M2)) (h3 : X 213 0 [rR 2 12 1] [] M2 = some (.inl (some (vI (cn code))), M2)) (h4 : code = 0 → (M2.1 3).2.1 14 1 0 = bb.toInt64) : ∃ u5 u6 u7, X 420 858 [rR 4 13 1, rR 3 11 1, rR 2 12 1, rR 3 14 1, vI (cn i), j5, j6, j7] [] M = X 420 3410 [rR 4 13 1, rR 3 11 1, rR 2 12 1, rR 3 14 1, vI (cn i), u5, u6, u7] [] M2 := by
  refine ⟨vI (cn code), vI bb, j7, ?_⟩
  refine y_ald zk6 5 864 865 (xs (i + 1)) rfl rfl rfl (sc_in s0 hi hL (j := 1) (by decide)) (sc_v s0 hi hL (j := 1) (by decide)) ?_
  refine y_cal zk6 2 869 rfl h1 ?_
  refine y_ald zk6 6 877 878 (xs (i + 1)) rfl rfl rfl (sc_in s1 hi hL (j := 1) (by decide)) (sc_v s1 hi hL (j := 1) (by decide)) ?_
  refine y_cal zk6 1 881 rfl h2 ?_
  refine y_cal zk6 3 887 rfl h3 ?_
  refine y_icT zk6 1 889 894 rfl rfl (by decide) (decide_eq_true rfl) ?_
  by_cases h0 : code = 0
  · subst h0
    refine y_ifF zk6 1 896 899 rfl rfl rfl (by decide) (by decide) ?_
    refine y_lld zk6 2 901 902 bb.toInt64 rfl rfl rfl in_out (h4 rfl) ?_
    refine y_ifT zk6 3 906 911 rfl rfl (by decide) (decide_eq_true lg_self) ?_
    exact y_go zk6 1 3410 rfl rfl
  · refine y_ifT zk6 1 896 911 rfl rfl (by decide) (decide_eq_true (cn_nz h0 hc)) ?_
    exact y_go zk6 1 3410 rfl rfl
theorem lw_7 {M M1 M2 : Mem} {i L code : Nat} {xs : Nat → Int32} {bb : Int32} {j5 j6 j7 : AV} (hi : i + 7 ≤ L) (hL : L ≤ 3584) (s0 : SCR M L xs) (s1 : SCR M1 L xs) (hc : code < 4) (h1 : X 386 0 [rR 3 11 1, vI (xs (i + 1)), vI (xs (i + 2)), vI (xs (i + 3)), vI (xs (i + 4)), rR 3 14 1, vJ] [] M = some (.inl (some (vI (cn code))), M1)) (h2 : X 329 0 [rR 2 12 1, vI (xs (i + 1)), vI (xs (i + 2)), vI (xs (i + 3)), vI (xs (i + 4))] [] M1 = some (.inl (some (vI bb)), M2)) (h3 : X 213 0 [rR 2 12 1] [] M2 = some (.inl (some (vI (cn code))), M2)) (h4 : code = 0 → (M2.1 3).2.1 14 1 0 = bb.toInt64) : ∃ u5 u6 u7, X 420 914 [rR 4 13 1, rR 3 11 1, rR 2 12 1, rR 3 14 1, vI (cn i), j5, j6, j7] [] M = X 420 3410 [rR 4 13 1, rR 3 11 1, rR 2 12 1, rR 3 14 1, vI (cn i), u5, u6, u7] [] M2 := by
  refine ⟨vI (cn code), vI bb, j7, ?_⟩
  refine y_ald zk7 5 920 921 (xs (i + 1)) rfl rfl rfl (sc_in s0 hi hL (j := 1) (by decide)) (sc_v s0 hi hL (j := 1) (by decide)) ?_
  refine y_ald zk7 4 926 927 (xs (i + 2)) rfl rfl rfl (sc_in s0 hi hL (j := 2) (by decide)) (sc_v s0 hi hL (j := 2) (by decide)) ?_
  refine y_ald zk7 4 932 933 (xs (i + 3)) rfl rfl rfl (sc_in s0 hi hL (j := 3) (by decide)) (sc_v s0 hi hL (j := 3) (by decide)) ?_
  refine y_ald zk7 4 938 939 (xs (i + 4)) rfl rfl rfl (sc_in s0 hi hL (j := 4) (by decide)) (sc_v s0 hi hL (j := 4) (by decide)) ?_
  refine y_cal zk7 2 943 rfl h1 ?_
  refine y_ald zk7 6 951 952 (xs (i + 1)) rfl rfl rfl (sc_in s1 hi hL (j := 1) (by decide)) (sc_v s1 hi hL (j := 1) (by decide)) ?_
  refine y_ald zk7 4 957 958 (xs (i + 2)) rfl rfl rfl (sc_in s1 hi hL (j := 2) (by decide)) (sc_v s1 hi hL (j := 2) (by decide)) ?_
  refine y_ald zk7 4 963 964 (xs (i + 3)) rfl rfl rfl (sc_in s1 hi hL (j := 3) (by decide)) (sc_v s1 hi hL (j := 3) (by decide)) ?_
  refine y_ald zk7 4 969 970 (xs (i + 4)) rfl rfl rfl (sc_in s1 hi hL (j := 4) (by decide)) (sc_v s1 hi hL (j := 4) (by decide)) ?_
  refine y_cal zk7 1 973 rfl h2 ?_
  refine y_cal zk7 3 979 rfl h3 ?_
  refine y_icT zk7 1 981 986 rfl rfl (by decide) (decide_eq_true rfl) ?_
  by_cases h0 : code = 0
  · subst h0
    refine y_ifF zk7 1 988 991 rfl rfl rfl (by decide) (by decide) ?_
    refine y_lld zk7 2 993 994 bb.toInt64 rfl rfl rfl in_out (h4 rfl) ?_
    refine y_ifT zk7 3 998 1003 rfl rfl (by decide) (decide_eq_true lg_self) ?_
    exact y_go zk7 1 3410 rfl rfl
  · refine y_ifT zk7 1 988 1003 rfl rfl (by decide) (decide_eq_true (cn_nz h0 hc)) ?_
    exact y_go zk7 1 3410 rfl rfl
theorem lw_8 {M M1 M2 : Mem} {i L code : Nat} {xs : Nat → Int32} {bb : Int32} {j5 j6 j7 : AV} (hi : i + 7 ≤ L) (hL : L ≤ 3584) (s0 : SCR M L xs) (s1 : SCR M1 L xs) (hc : code < 4) (h1 : X 387 0 [rR 3 11 1, vI (xs (i + 1)), vI (xs (i + 2)), rR 3 14 1, vJ] [] M = some (.inl (some (vI (cn code))), M1)) (h2 : X 330 0 [rR 2 12 1, vI (xs (i + 1)), vI (xs (i + 2))] [] M1 = some (.inl (some (vI bb)), M2)) (h3 : X 213 0 [rR 2 12 1] [] M2 = some (.inl (some (vI (cn code))), M2)) (h4 : code = 0 → (M2.1 3).2.1 14 1 0 = bb.toInt64) : ∃ u5 u6 u7, X 420 1006 [rR 4 13 1, rR 3 11 1, rR 2 12 1, rR 3 14 1, vI (cn i), j5, j6, j7] [] M = X 420 3410 [rR 4 13 1, rR 3 11 1, rR 2 12 1, rR 3 14 1, vI (cn i), u5, u6, u7] [] M2 := by
  refine ⟨vI (cn code), vI bb, j7, ?_⟩
  refine y_ald zk8 5 1012 1013 (xs (i + 1)) rfl rfl rfl (sc_in s0 hi hL (j := 1) (by decide)) (sc_v s0 hi hL (j := 1) (by decide)) ?_
  refine y_ald zk8 4 1018 1019 (xs (i + 2)) rfl rfl rfl (sc_in s0 hi hL (j := 2) (by decide)) (sc_v s0 hi hL (j := 2) (by decide)) ?_
  refine y_cal zk8 2 1023 rfl h1 ?_
  refine y_ald zk8 6 1031 1032 (xs (i + 1)) rfl rfl rfl (sc_in s1 hi hL (j := 1) (by decide)) (sc_v s1 hi hL (j := 1) (by decide)) ?_
  refine y_ald zk8 4 1037 1038 (xs (i + 2)) rfl rfl rfl (sc_in s1 hi hL (j := 2) (by decide)) (sc_v s1 hi hL (j := 2) (by decide)) ?_
  refine y_cal zk8 1 1041 rfl h2 ?_
  refine y_cal zk8 3 1047 rfl h3 ?_
  refine y_icT zk8 1 1049 1054 rfl rfl (by decide) (decide_eq_true rfl) ?_
  by_cases h0 : code = 0
  · subst h0
    refine y_ifF zk8 1 1056 1059 rfl rfl rfl (by decide) (by decide) ?_
    refine y_lld zk8 2 1061 1062 bb.toInt64 rfl rfl rfl in_out (h4 rfl) ?_
    refine y_ifT zk8 3 1066 1071 rfl rfl (by decide) (decide_eq_true lg_self) ?_
    exact y_go zk8 1 3410 rfl rfl
  · refine y_ifT zk8 1 1056 1071 rfl rfl (by decide) (decide_eq_true (cn_nz h0 hc)) ?_
    exact y_go zk8 1 3410 rfl rfl
theorem lw_9 {M M1 M2 : Mem} {i L code : Nat} {xs : Nat → Int32} {bb : Int32} {j5 j6 j7 : AV} (hi : i + 7 ≤ L) (hL : L ≤ 3584) (s0 : SCR M L xs) (s1 : SCR M1 L xs) (hc : code < 4) (h1 : X 388 0 [rR 3 11 1, vI (xs (i + 1)), vI (xs (i + 2)), rR 3 14 1, vJ] [] M = some (.inl (some (vI (cn code))), M1)) (h2 : X 331 0 [rR 2 12 1, vI (xs (i + 1)), vI (xs (i + 2))] [] M1 = some (.inl (some (vI bb)), M2)) (h3 : X 213 0 [rR 2 12 1] [] M2 = some (.inl (some (vI (cn code))), M2)) (h4 : code = 0 → (M2.1 3).2.1 14 1 0 = bb.toInt64) : ∃ u5 u6 u7, X 420 1074 [rR 4 13 1, rR 3 11 1, rR 2 12 1, rR 3 14 1, vI (cn i), j5, j6, j7] [] M = X 420 3410 [rR 4 13 1, rR 3 11 1, rR 2 12 1, rR 3 14 1, vI (cn i), u5, u6, u7] [] M2 := by
  refine ⟨vI (cn code), vI bb, j7, ?_⟩
  refine y_ald zk9 5 1080 1081 (xs (i + 1)) rfl rfl rfl (sc_in s0 hi hL (j := 1) (by decide)) (sc_v s0 hi hL (j := 1) (by decide)) ?_
  refine y_ald zk9 4 1086 1087 (xs (i + 2)) rfl rfl rfl (sc_in s0 hi hL (j := 2) (by decide)) (sc_v s0 hi hL (j := 2) (by decide)) ?_
  refine y_cal zk9 2 1091 rfl h1 ?_
  refine y_ald zk9 6 1099 1100 (xs (i + 1)) rfl rfl rfl (sc_in s1 hi hL (j := 1) (by decide)) (sc_v s1 hi hL (j := 1) (by decide)) ?_
  refine y_ald zk9 4 1105 1106 (xs (i + 2)) rfl rfl rfl (sc_in s1 hi hL (j := 2) (by decide)) (sc_v s1 hi hL (j := 2) (by decide)) ?_
  refine y_cal zk9 1 1109 rfl h2 ?_
  refine y_cal zk9 3 1115 rfl h3 ?_
  refine y_icT zk9 1 1117 1122 rfl rfl (by decide) (decide_eq_true rfl) ?_
  by_cases h0 : code = 0
  · subst h0
    refine y_ifF zk9 1 1124 1127 rfl rfl rfl (by decide) (by decide) ?_
    refine y_lld zk9 2 1129 1130 bb.toInt64 rfl rfl rfl in_out (h4 rfl) ?_
    refine y_ifT zk9 3 1134 1139 rfl rfl (by decide) (decide_eq_true lg_self) ?_
    exact y_go zk9 1 3410 rfl rfl
  · refine y_ifT zk9 1 1124 1139 rfl rfl (by decide) (decide_eq_true (cn_nz h0 hc)) ?_
    exact y_go zk9 1 3410 rfl rfl
theorem lw_10 {M M1 M2 : Mem} {i L code : Nat} {xs : Nat → Int32} {bb : Int32} {j5 j6 j7 : AV} (hi : i + 7 ≤ L) (hL : L ≤ 3584) (s0 : SCR M L xs) (s1 : SCR M1 L xs) (hc : code < 4) (h1 : X 389 0 [rR 3 11 1, vI (xs (i + 1)), vI (xs (i + 2)), vI (xs (i + 3)), rR 3 14 1, vJ] [] M = some (.inl (some (vI (cn code))), M1)) (h2 : X 332 0 [rR 2 12 1, vI (xs (i + 1)), vI (xs (i + 2)), vI (xs (i + 3))] [] M1 = some (.inl (some (vI bb)), M2)) (h3 : X 213 0 [rR 2 12 1] [] M2 = some (.inl (some (vI (cn code))), M2)) (h4 : code = 0 → (M2.1 3).2.1 14 1 0 = bb.toInt64) : ∃ u5 u6 u7, X 420 1142 [rR 4 13 1, rR 3 11 1, rR 2 12 1, rR 3 14 1, vI (cn i), j5, j6, j7] [] M = X 420 3410 [rR 4 13 1, rR 3 11 1, rR 2 12 1, rR 3 14 1, vI (cn i), u5, u6, u7] [] M2 := by
  refine ⟨vI (cn code), vI bb, j7, ?_⟩
  refine y_ald zk10 5 1148 1149 (xs (i + 1)) rfl rfl rfl (sc_in s0 hi hL (j := 1) (by decide)) (sc_v s0 hi hL (j := 1) (by decide)) ?_
  refine y_ald zk10 4 1154 1155 (xs (i + 2)) rfl rfl rfl (sc_in s0 hi hL (j := 2) (by decide)) (sc_v s0 hi hL (j := 2) (by decide)) ?_
  refine y_ald zk10 4 1160 1161 (xs (i + 3)) rfl rfl rfl (sc_in s0 hi hL (j := 3) (by decide)) (sc_v s0 hi hL (j := 3) (by decide)) ?_
  refine y_cal zk10 2 1165 rfl h1 ?_
  refine y_ald zk10 6 1173 1174 (xs (i + 1)) rfl rfl rfl (sc_in s1 hi hL (j := 1) (by decide)) (sc_v s1 hi hL (j := 1) (by decide)) ?_
  refine y_ald zk10 4 1179 1180 (xs (i + 2)) rfl rfl rfl (sc_in s1 hi hL (j := 2) (by decide)) (sc_v s1 hi hL (j := 2) (by decide)) ?_
  refine y_ald zk10 4 1185 1186 (xs (i + 3)) rfl rfl rfl (sc_in s1 hi hL (j := 3) (by decide)) (sc_v s1 hi hL (j := 3) (by decide)) ?_
  refine y_cal zk10 1 1189 rfl h2 ?_
  refine y_cal zk10 3 1195 rfl h3 ?_
  refine y_icT zk10 1 1197 1202 rfl rfl (by decide) (decide_eq_true rfl) ?_
  by_cases h0 : code = 0
  · subst h0
    refine y_ifF zk10 1 1204 1207 rfl rfl rfl (by decide) (by decide) ?_
    refine y_lld zk10 2 1209 1210 bb.toInt64 rfl rfl rfl in_out (h4 rfl) ?_
    refine y_ifT zk10 3 1214 1219 rfl rfl (by decide) (decide_eq_true lg_self) ?_
    exact y_go zk10 1 3410 rfl rfl
  · refine y_ifT zk10 1 1204 1219 rfl rfl (by decide) (decide_eq_true (cn_nz h0 hc)) ?_
    exact y_go zk10 1 3410 rfl rfl
theorem lw_11 {M M1 M2 : Mem} {i L code : Nat} {xs : Nat → Int32} {bb : Int32} {j5 j6 j7 : AV} (hi : i + 7 ≤ L) (hL : L ≤ 3584) (s0 : SCR M L xs) (s1 : SCR M1 L xs) (hc : code < 4) (h1 : X 390 0 [rR 3 11 1, vI (xs (i + 1)), vI (xs (i + 2)), vI (xs (i + 3)), vI (xs (i + 4)), rR 3 14 1, vJ] [] M = some (.inl (some (vI (cn code))), M1)) (h2 : X 333 0 [rR 2 12 1, vI (xs (i + 1)), vI (xs (i + 2)), vI (xs (i + 3)), vI (xs (i + 4))] [] M1 = some (.inl (some (vI bb)), M2)) (h3 : X 213 0 [rR 2 12 1] [] M2 = some (.inl (some (vI (cn code))), M2)) (h4 : code = 0 → (M2.1 3).2.1 14 1 0 = bb.toInt64) : ∃ u5 u6 u7, X 420 1222 [rR 4 13 1, rR 3 11 1, rR 2 12 1, rR 3 14 1, vI (cn i), j5, j6, j7] [] M = X 420 3410 [rR 4 13 1, rR 3 11 1, rR 2 12 1, rR 3 14 1, vI (cn i), u5, u6, u7] [] M2 := by
  refine ⟨vI (cn code), vI bb, j7, ?_⟩
  refine y_ald zk11 5 1228 1229 (xs (i + 1)) rfl rfl rfl (sc_in s0 hi hL (j := 1) (by decide)) (sc_v s0 hi hL (j := 1) (by decide)) ?_
  refine y_ald zk11 4 1234 1235 (xs (i + 2)) rfl rfl rfl (sc_in s0 hi hL (j := 2) (by decide)) (sc_v s0 hi hL (j := 2) (by decide)) ?_
  refine y_ald zk11 4 1240 1241 (xs (i + 3)) rfl rfl rfl (sc_in s0 hi hL (j := 3) (by decide)) (sc_v s0 hi hL (j := 3) (by decide)) ?_
  refine y_ald zk11 4 1246 1247 (xs (i + 4)) rfl rfl rfl (sc_in s0 hi hL (j := 4) (by decide)) (sc_v s0 hi hL (j := 4) (by decide)) ?_
  refine y_cal zk11 2 1251 rfl h1 ?_
  refine y_ald zk11 6 1259 1260 (xs (i + 1)) rfl rfl rfl (sc_in s1 hi hL (j := 1) (by decide)) (sc_v s1 hi hL (j := 1) (by decide)) ?_
  refine y_ald zk11 4 1265 1266 (xs (i + 2)) rfl rfl rfl (sc_in s1 hi hL (j := 2) (by decide)) (sc_v s1 hi hL (j := 2) (by decide)) ?_
  refine y_ald zk11 4 1271 1272 (xs (i + 3)) rfl rfl rfl (sc_in s1 hi hL (j := 3) (by decide)) (sc_v s1 hi hL (j := 3) (by decide)) ?_
  refine y_ald zk11 4 1277 1278 (xs (i + 4)) rfl rfl rfl (sc_in s1 hi hL (j := 4) (by decide)) (sc_v s1 hi hL (j := 4) (by decide)) ?_
  refine y_cal zk11 1 1281 rfl h2 ?_
  refine y_cal zk11 3 1287 rfl h3 ?_
  refine y_icT zk11 1 1289 1294 rfl rfl (by decide) (decide_eq_true rfl) ?_
  by_cases h0 : code = 0
  · subst h0
    refine y_ifF zk11 1 1296 1299 rfl rfl rfl (by decide) (by decide) ?_
    refine y_lld zk11 2 1301 1302 bb.toInt64 rfl rfl rfl in_out (h4 rfl) ?_
    refine y_ifT zk11 3 1306 1311 rfl rfl (by decide) (decide_eq_true lg_self) ?_
    exact y_go zk11 1 3410 rfl rfl
  · refine y_ifT zk11 1 1296 1311 rfl rfl (by decide) (decide_eq_true (cn_nz h0 hc)) ?_
    exact y_go zk11 1 3410 rfl rfl
