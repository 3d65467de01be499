/-! the law's cases: a call of the face and one of the reference, which answer alike -/
theorem lw_12 {M M1 M2 : Mem} {i L code : Nat} {xs : Nat → Int32} {bb : Int32} {j5 j6 j7 : AV} (hi : i + 7 ≤ L) (hL : L ≤ 3584) (s0 : SCR M L xs) (s1 : SCR M1 L xs) (hc : code < 4) (h1 : X 391 0 [rR 3 11 1, vI (xs (i + 1)), rR 3 14 1, vJ] [] M = some (.inl (some (vI (cn code))), M1)) (h2 : X 334 0 [rR 2 12 1, vI (xs (i + 1))] [] M1 = some (.inl (some (vI bb)), M2)) (h3 : X 213 0 [rR 2 12 1] [] M2 = some (.inl (some (vI (cn code))), M2)) (h4 : code = 0 → (M2.1 3).2.1 14 1 0 = bb.toInt64) : ∃ u5 u6 u7, X 420 1314 [rR 4 13 1, rR 3 11 1, rR 2 12 1, rR 3 14 1, vI (cn i), j5, j6, j7] [] M = X 420 3410 [rR 4 13 1, rR 3 11 1, rR 2 12 1, rR 3 14 1, vI (cn i), u5, u6, u7] [] M2 := by
  refine ⟨vI (cn code), vI bb, j7, ?_⟩
  refine y_ald zk12 5 1320 1321 (xs (i + 1)) rfl rfl rfl (sc_in s0 hi hL (j := 1) (by decide)) (sc_v s0 hi hL (j := 1) (by decide)) ?_
  refine y_cal zk12 2 1325 rfl h1 ?_
  refine y_ald zk12 6 1333 1334 (xs (i + 1)) rfl rfl rfl (sc_in s1 hi hL (j := 1) (by decide)) (sc_v s1 hi hL (j := 1) (by decide)) ?_
  refine y_cal zk12 1 1337 rfl h2 ?_
  refine y_cal zk12 3 1343 rfl h3 ?_
  refine y_icT zk12 1 1345 1350 rfl rfl (by decide) (decide_eq_true rfl) ?_
  by_cases h0 : code = 0
  · subst h0
    refine y_ifF zk12 1 1352 1355 rfl rfl rfl (by decide) (by decide) ?_
    refine y_lld zk12 2 1357 1358 bb.toInt64 rfl rfl rfl in_out (h4 rfl) ?_
    refine y_ifT zk12 3 1362 1367 rfl rfl (by decide) (decide_eq_true lg_self) ?_
    exact y_go zk12 1 3410 rfl rfl
  · refine y_ifT zk12 1 1352 1367 rfl rfl (by decide) (decide_eq_true (cn_nz h0 hc)) ?_
    exact y_go zk12 1 3410 rfl rfl
theorem lw_13 {M M1 M2 : Mem} {i L code : Nat} {xs : Nat → Int32} {bb : Int32} {j5 j6 j7 : AV} (hi : i + 7 ≤ L) (hL : L ≤ 3584) (s0 : SCR M L xs) (s1 : SCR M1 L xs) (hc : code < 4) (h1 : X 392 0 [rR 3 11 1, rR 3 14 1, vJ] [] M = some (.inl (some (vI (cn code))), M1)) (h2 : X 335 0 [rR 2 12 1] [] M1 = some (.inl (some (vI bb)), M2)) (h3 : X 213 0 [rR 2 12 1] [] M2 = some (.inl (some (vI (cn code))), M2)) (h4 : code = 0 → (M2.1 3).2.1 14 1 0 = bb.toInt64) : ∃ u5 u6 u7, X 420 1370 [rR 4 13 1, rR 3 11 1, rR 2 12 1, rR 3 14 1, vI (cn i), j5, j6, j7] [] M = X 420 3410 [rR 4 13 1, rR 3 11 1, rR 2 12 1, rR 3 14 1, vI (cn i), u5, u6, u7] [] M2 := by
  refine ⟨vI (cn code), vI bb, j7, ?_⟩
  refine y_cal zk13 3 1375 rfl h1 ?_
  refine y_cal zk13 3 1381 rfl h2 ?_
  refine y_cal zk13 3 1387 rfl h3 ?_
  refine y_icT zk13 1 1389 1394 rfl rfl (by decide) (decide_eq_true rfl) ?_
  by_cases h0 : code = 0
  · subst h0
    refine y_ifF zk13 1 1396 1399 rfl rfl rfl (by decide) (by decide) ?_
    refine y_lld zk13 2 1401 1402 bb.toInt64 rfl rfl rfl in_out (h4 rfl) ?_
    refine y_ifT zk13 3 1406 1411 rfl rfl (by decide) (decide_eq_true lg_self) ?_
    exact y_go zk13 1 3410 rfl rfl
  · refine y_ifT zk13 1 1396 1411 rfl rfl (by decide) (decide_eq_true (cn_nz h0 hc)) ?_
    exact y_go zk13 1 3410 rfl rfl
theorem lw_14 {M M1 M2 : Mem} {i L code : Nat} {xs : Nat → Int32} {bb : Int32} {j5 j6 j7 : AV} (hi : i + 7 ≤ L) (hL : L ≤ 3584) (s0 : SCR M L xs) (s1 : SCR M1 L xs) (hc : code < 4) (h1 : X 393 0 [rR 3 11 1, vI (xs (i + 1)), rR 3 14 1, vJ] [] M = some (.inl (some (vI (cn code))), M1)) (h2 : X 336 0 [rR 2 12 1, vI (xs (i + 1))] [] M1 = some (.inl (some (vI bb)), M2)) (h3 : X 213 0 [rR 2 12 1] [] M2 = some (.inl (some (vI (cn code))), M2)) (h4 : code = 0 → (M2.1 3).2.1 14 1 0 = bb.toInt64) : ∃ u5 u6 u7, X 420 1414 [rR 4 13 1, rR 3 11 1, rR 2 12 1, rR 3 14 1, vI (cn i), j5, j6, j7] [] M = X 420 3410 [rR 4 13 1, rR 3 11 1, rR 2 12 1, rR 3 14 1, vI (cn i), u5, u6, u7] [] M2 := by
  refine ⟨vI (cn code), vI bb, j7, ?_⟩
  refine y_ald zk14 5 1420 1421 (xs (i + 1)) rfl rfl rfl (sc_in s0 hi hL (j := 1) (by decide)) (sc_v s0 hi hL (j := 1) (by decide)) ?_
  refine y_cal zk14 2 1425 rfl h1 ?_
  refine y_ald zk14 6 1433 1434 (xs (i + 1)) rfl rfl rfl (sc_in s1 hi hL (j := 1) (by decide)) (sc_v s1 hi hL (j := 1) (by decide)) ?_
  refine y_cal zk14 1 1437 rfl h2 ?_
  refine y_cal zk14 3 1443 rfl h3 ?_
  refine y_icT zk14 1 1445 1450 rfl rfl (by decide) (decide_eq_true rfl) ?_
  by_cases h0 : code = 0
  · subst h0
    refine y_ifF zk14 1 1452 1455 rfl rfl rfl (by decide) (by decide) ?_
    refine y_lld zk14 2 1457 1458 bb.toInt64 rfl rfl rfl in_out (h4 rfl) ?_
    refine y_ifT zk14 3 1462 1467 rfl rfl (by decide) (decide_eq_true lg_self) ?_
    exact y_go zk14 1 3410 rfl rfl
  · refine y_ifT zk14 1 1452 1467 rfl rfl (by decide) (decide_eq_true (cn_nz h0 hc)) ?_
    exact y_go zk14 1 3410 rfl rfl
theorem lw_15 {M M1 M2 : Mem} {i L code : Nat} {xs : Nat → Int32} {bb : Int32} {j5 j6 j7 : AV} (hi : i + 7 ≤ L) (hL : L ≤ 3584) (s0 : SCR M L xs) (s1 : SCR M1 L xs) (hc : code < 4) (h1 : X 394 0 [rR 3 11 1, vI (xs (i + 1)), vI (xs (i + 2)), rR 3 14 1, vJ] [] M = some (.inl (some (vI (cn code))), M1)) (h2 : X 337 0 [rR 2 12 1, vI (xs (i + 1)), vI (xs (i + 2))] [] M1 = some (.inl (some (vI bb)), M2)) (h3 : X 213 0 [rR 2 12 1] [] M2 = some (.inl (some (vI (cn code))), M2)) (h4 : code = 0 → (M2.1 3).2.1 14 1 0 = bb.toInt64) : ∃ u5 u6 u7, X 420 1470 [rR 4 13 1, rR 3 11 1, rR 2 12 1, rR 3 14 1, vI (cn i), j5, j6, j7] [] M = X 420 3410 [rR 4 13 1, rR 3 11 1, rR 2 12 1, rR 3 14 1, vI (cn i), u5, u6, u7] [] M2 := by
  refine ⟨vI (cn code), vI bb, j7, ?_⟩
  refine y_ald zk15 5 1476 1477 (xs (i + 1)) rfl rfl rfl (sc_in s0 hi hL (j := 1) (by decide)) (sc_v s0 hi hL (j := 1) (by decide)) ?_
  refine y_ald zk15 4 1482 1483 (xs (i + 2)) rfl rfl rfl (sc_in s0 hi hL (j := 2) (by decide)) (sc_v s0 hi hL (j := 2) (by decide)) ?_
  refine y_cal zk15 2 1487 rfl h1 ?_
  refine y_ald zk15 6 1495 1496 (xs (i + 1)) rfl rfl rfl (sc_in s1 hi hL (j := 1) (by decide)) (sc_v s1 hi hL (j := 1) (by decide)) ?_
  refine y_ald zk15 4 1501 1502 (xs (i + 2)) rfl rfl rfl (sc_in s1 hi hL (j := 2) (by decide)) (sc_v s1 hi hL (j := 2) (by decide)) ?_
  refine y_cal zk15 1 1505 rfl h2 ?_
  refine y_cal zk15 3 1511 rfl h3 ?_
  refine y_icT zk15 1 1513 1518 rfl rfl (by decide) (decide_eq_true rfl) ?_
  by_cases h0 : code = 0
  · subst h0
    refine y_ifF zk15 1 1520 1523 rfl rfl rfl (by decide) (by decide) ?_
    refine y_lld zk15 2 1525 1526 bb.toInt64 rfl rfl rfl in_out (h4 rfl) ?_
    refine y_ifT zk15 3 1530 1535 rfl rfl (by decide) (decide_eq_true lg_self) ?_
    exact y_go zk15 1 3410 rfl rfl
  · refine y_ifT zk15 1 1520 1535 rfl rfl (by decide) (decide_eq_true (cn_nz h0 hc)) ?_
    exact y_go zk15 1 3410 rfl rfl
theorem lw_16 {M M1 M2 : Mem} {i L code : Nat} {xs : Nat → Int32} {bb : Int32} {j5 j6 j7 : AV} (hi : i + 7 ≤ L) (hL : L ≤ 3584) (s0 : SCR M L xs) (s1 : SCR M1 L xs) (hc : code < 4) (h1 : X 395 0 [rR 3 11 1, vI (xs (i + 1)), vI (bzz (xs (i + 2))), vI (xs (i + 3)), rR 3 14 1, vJ] [] M = some (.inl (some (vI (cn code))), M1)) (h2 : X 338 0 [rR 2 12 1, vI (xs (i + 1)), vI (bzz (xs (i + 2))), vI (xs (i + 3))] [] M1 = some (.inl (some (vI bb)), M2)) (h3 : X 213 0 [rR 2 12 1] [] M2 = some (.inl (some (vI (cn code))), M2)) (h4 : code = 0 → (M2.1 3).2.1 14 1 0 = bb.toInt64) : ∃ u5 u6 u7, X 420 1538 [rR 4 13 1, rR 3 11 1, rR 2 12 1, rR 3 14 1, vI (cn i), j5, j6, j7] [] M = X 420 3410 [rR 4 13 1, rR 3 11 1, rR 2 12 1, rR 3 14 1, vI (cn i), u5, u6, u7] [] M2 := by
  refine ⟨vI (cn code), vI bb, j7, ?_⟩
  by_cases hb : xs (i + 2) = 0
  · rw [show bzz (xs (i + 2)) = cn 0 from if_pos hb] at h1 h2
    refine y_ald zk16 5 1544 1545 (xs (i + 1)) rfl rfl rfl (sc_in s0 hi hL (j := 1) (by decide)) (sc_v s0 hi hL (j := 1) (by decide)) ?_
    refine y_ald zk16 4 1550 1551 (xs (i + 2)) rfl rfl rfl (sc_in s0 hi hL (j := 2) (by decide)) (sc_v s0 hi hL (j := 2) (by decide)) ?_
    refine y_ifT zk16 0 1551 1558 rfl rfl (by decide) (decide_eq_true hb) ?_
    refine y_ald zk16 5 1564 1565 (xs (i + 3)) rfl rfl rfl (sc_in s0 hi hL (j := 3) (by decide)) (sc_v s0 hi hL (j := 3) (by decide)) ?_
    refine y_cal zk16 2 1569 rfl h1 ?_
    refine y_ald zk16 6 1577 1578 (xs (i + 1)) rfl rfl rfl (sc_in s1 hi hL (j := 1) (by decide)) (sc_v s1 hi hL (j := 1) (by decide)) ?_
    refine y_ald zk16 4 1583 1584 (xs (i + 2)) rfl rfl rfl (sc_in s1 hi hL (j := 2) (by decide)) (sc_v s1 hi hL (j := 2) (by decide)) ?_
    refine y_ifT zk16 0 1584 1591 rfl rfl (by decide) (decide_eq_true hb) ?_
    refine y_ald zk16 5 1597 1598 (xs (i + 3)) rfl rfl rfl (sc_in s1 hi hL (j := 3) (by decide)) (sc_v s1 hi hL (j := 3) (by decide)) ?_
    refine y_cal zk16 1 1601 rfl h2 ?_
    refine y_cal zk16 3 1607 rfl h3 ?_
    refine y_icT zk16 1 1609 1614 rfl rfl (by decide) (decide_eq_true rfl) ?_
    by_cases h0 : code = 0
    · subst h0
      refine y_ifF zk16 1 1616 1619 rfl rfl rfl (by decide) (by decide) ?_
      refine y_lld zk16 2 1621 1622 bb.toInt64 rfl rfl rfl in_out (h4 rfl) ?_
      refine y_ifT zk16 3 1626 1631 rfl rfl (by decide) (decide_eq_true lg_self) ?_
      exact y_go zk16 1 3410 rfl rfl
    · refine y_ifT zk16 1 1616 1631 rfl rfl (by decide) (decide_eq_true (cn_nz h0 hc)) ?_
      exact y_go zk16 1 3410 rfl rfl
  · rw [show bzz (xs (i + 2)) = cn 1 from if_neg hb] at h1 h2
    refine y_ald zk16 5 1544 1545 (xs (i + 1)) rfl rfl rfl (sc_in s0 hi hL (j := 1) (by decide)) (sc_v s0 hi hL (j := 1) (by decide)) ?_
    refine y_ald zk16 4 1550 1551 (xs (i + 2)) rfl rfl rfl (sc_in s0 hi hL (j := 2) (by decide)) (sc_v s0 hi hL (j := 2) (by decide)) ?_
    refine y_ifF zk16 0 1551 1554 rfl rfl rfl (by decide) (decide_eq_false hb) ?_
    refine y_go zk16 2 1559 rfl ?_
    refine y_ald zk16 4 1564 1565 (xs (i + 3)) rfl rfl rfl (sc_in s0 hi hL (j := 3) (by decide)) (sc_v s0 hi hL (j := 3) (by decide)) ?_
    refine y_cal zk16 2 1569 rfl h1 ?_
    refine y_ald zk16 6 1577 1578 (xs (i + 1)) rfl rfl rfl (sc_in s1 hi hL (j := 1) (by decide)) (sc_v s1 hi hL (j := 1) (by decide)) ?_
    refine y_ald zk16 4 1583 1584 (xs (i + 2)) rfl rfl rfl (sc_in s1 hi hL (j := 2) (by decide)) (sc_v s1 hi hL (j := 2) (by decide)) ?_
    refine y_ifF zk16 0 1584 1587 rfl rfl rfl (by decide) (decide_eq_false hb) ?_
    refine y_go zk16 2 1592 rfl ?_
    refine y_ald zk16 4 1597 1598 (xs (i + 3)) rfl rfl rfl (sc_in s1 hi hL (j := 3) (by decide)) (sc_v s1 hi hL (j := 3) (by decide)) ?_
    refine y_cal zk16 1 1601 rfl h2 ?_
    refine y_cal zk16 3 1607 rfl h3 ?_
    refine y_icT zk16 1 1609 1614 rfl rfl (by decide) (decide_eq_true rfl) ?_
    by_cases h0 : code = 0
    · subst h0
      refine y_ifF zk16 1 1616 1619 rfl rfl rfl (by decide) (by decide) ?_
      refine y_lld zk16 2 1621 1622 bb.toInt64 rfl rfl rfl in_out (h4 rfl) ?_
      refine y_ifT zk16 3 1626 1631 rfl rfl (by decide) (decide_eq_true lg_self) ?_
      exact y_go zk16 1 3410 rfl rfl
    · refine y_ifT zk16 1 1616 1631 rfl rfl (by decide) (decide_eq_true (cn_nz h0 hc)) ?_
      exact y_go zk16 1 3410 rfl rfl
theorem lw_17 {M M1 M2 : Mem} {i L code : Nat} {xs : Nat → Int32} {bb : Int32} {j5 j6 j7 : AV} (hi : i + 7 ≤ L) (hL : L ≤ 3584) (s0 : SCR M L xs) (s1 : SCR M1 L xs) (hc : code < 4) (h1 : X 396 0 [rR 3 11 1, vI (xs (i + 1)), vI (xs (i + 2)), vI (xs (i + 3)), vI (xs (i + 4)), rR 3 14 1, vJ] [] M = some (.inl (some (vI (cn code))), M1)) (h2 : X 339 0 [rR 2 12 1, vI (xs (i + 1)), vI (xs (i + 2)), vI (xs (i + 3)), vI (xs (i + 4))] [] M1 = some (.inl (some (vI bb)), M2)) (h3 : X 213 0 [rR 2 12 1] [] M2 = some (.inl (some (vI (cn code))), M2)) (h4 : code = 0 → (M2.1 3).2.1 14 1 0 = bb.toInt64) : ∃ u5 u6 u7, X 420 1634 [rR 4 13 1, rR 3 11 1, rR 2 12 1, rR 3 14 1, vI (cn i), j5, j6, j7] [] M = X 420 3410 [rR 4 13 1, rR 3 11 1, rR 2 12 1, rR 3 14 1, vI (cn i), u5, u6, u7] [] M2 := by
  refine ⟨vI (cn code), vI bb, j7, ?_⟩
  refine y_ald zk17 5 1640 1641 (xs (i + 1)) rfl rfl rfl (sc_in s0 hi hL (j := 1) (by decide)) (sc_v s0 hi hL (j := 1) (by decide)) ?_
  refine y_ald zk17 4 1646 1647 (xs (i + 2)) rfl rfl rfl (sc_in s0 hi hL (j := 2) (by decide)) (sc_v s0 hi hL (j := 2) (by decide)) ?_
  refine y_ald zk17 4 1652 1653 (xs (i + 3)) rfl rfl rfl (sc_in s0 hi hL (j := 3) (by decide)) (sc_v s0 hi hL (j := 3) (by decide)) ?_
  refine y_ald zk17 4 1658 1659 (xs (i + 4)) rfl rfl rfl (sc_in s0 hi hL (j := 4) (by decide)) (sc_v s0 hi hL (j := 4) (by decide)) ?_
  refine y_cal zk17 2 1663 rfl h1 ?_
  refine y_ald zk17 6 1671 1672 (xs (i + 1)) rfl rfl rfl (sc_in s1 hi hL (j := 1) (by decide)) (sc_v s1 hi hL (j := 1) (by decide)) ?_
  refine y_ald zk17 4 1677 1678 (xs (i + 2)) rfl rfl rfl (sc_in s1 hi hL (j := 2) (by decide)) (sc_v s1 hi hL (j := 2) (by decide)) ?_
  refine y_ald zk17 4 1683 1684 (xs (i + 3)) rfl rfl rfl (sc_in s1 hi hL (j := 3) (by decide)) (sc_v s1 hi hL (j := 3) (by decide)) ?_
  refine y_ald zk17 4 1689 1690 (xs (i + 4)) rfl rfl rfl (sc_in s1 hi hL (j := 4) (by decide)) (sc_v s1 hi hL (j := 4) (by decide)) ?_
  refine y_cal zk17 1 1693 rfl h2 ?_
  refine y_cal zk17 3 1699 rfl h3 ?_
  refine y_icT zk17 1 1701 1706 rfl rfl (by decide) (decide_eq_true rfl) ?_
  by_cases h0 : code = 0
  · subst h0
    refine y_ifF zk17 1 1708 1711 rfl rfl rfl (by decide) (by decide) ?_
    refine y_lld zk17 2 1713 1714 bb.toInt64 rfl rfl rfl in_out (h4 rfl) ?_
    refine y_ifT zk17 3 1718 1723 rfl rfl (by decide) (decide_eq_true lg_self) ?_
    exact y_go zk17 1 3410 rfl rfl
  · refine y_ifT zk17 1 1708 1723 rfl rfl (by decide) (decide_eq_true (cn_nz h0 hc)) ?_
    exact y_go zk17 1 3410 rfl rfl
theorem lw_18 {M M1 M2 : Mem} {i L code : Nat} {xs : Nat → Int32} {bb : Int32} {j5 j6 j7 : AV} (hi : i + 7 ≤ L) (hL : L ≤ 3584) (s0 : SCR M L xs) (s1 : SCR M1 L xs) (hc : code < 4) (h1 : X 397 0 [rR 3 11 1, vI (xs (i + 1)), vI (xs (i + 2)), vI (xs (i + 3)), rR 3 14 1, vJ] [] M = some (.inl (some (vI (cn code))), M1)) (h2 : X 340 0 [rR 2 12 1, vI (xs (i + 1)), vI (xs (i + 2)), vI (xs (i + 3))] [] M1 = some (.inl (some (vI bb)), M2)) (h3 : X 213 0 [rR 2 12 1] [] M2 = some (.inl (some (vI (cn code))), M2)) (h4 : code = 0 → (M2.1 3).2.1 14 1 0 = bb.toInt64) : ∃ u5 u6 u7, X 420 1726 [rR 4 13 1, rR 3 11 1, rR 2 12 1, rR 3 14 1, vI (cn i), j5, j6, j7] [] M = X 420 3410 [rR 4 13 1, rR 3 11 1, rR 2 12 1, rR 3 14 1, vI (cn i), u5, u6, u7] [] M2 := by
  refine ⟨vI (cn code), vI bb, j7, ?_⟩
  refine y_ald zk18 5 1732 1733 (xs (i + 1)) rfl rfl rfl (sc_in s0 hi hL (j := 1) (by decide)) (sc_v s0 hi hL (j := 1) (by decide)) ?_
  refine y_ald zk18 4 1738 1739 (xs (i + 2)) rfl rfl rfl (sc_in s0 hi hL (j := 2) (by decide)) (sc_v s0 hi hL (j := 2) (by decide)) ?_
  refine y_ald zk18 4 1744 1745 (xs (i + 3)) rfl rfl rfl (sc_in s0 hi hL (j := 3) (by decide)) (sc_v s0 hi hL (j := 3) (by decide)) ?_
  refine y_cal zk18 2 1749 rfl h1 ?_
  refine y_ald zk18 6 1757 1758 (xs (i + 1)) rfl rfl rfl (sc_in s1 hi hL (j := 1) (by decide)) (sc_v s1 hi hL (j := 1) (by decide)) ?_
  refine y_ald zk18 4 1763 1764 (xs (i + 2)) rfl rfl rfl (sc_in s1 hi hL (j := 2) (by decide)) (sc_v s1 hi hL (j := 2) (by decide)) ?_
  refine y_ald zk18 4 1769 1770 (xs (i + 3)) rfl rfl rfl (sc_in s1 hi hL (j := 3) (by decide)) (sc_v s1 hi hL (j := 3) (by decide)) ?_
  refine y_cal zk18 1 1773 rfl h2 ?_
  refine y_cal zk18 3 1779 rfl h3 ?_
  refine y_icT zk18 1 1781 1786 rfl rfl (by decide) (decide_eq_true rfl) ?_
  by_cases h0 : code = 0
  · subst h0
    refine y_ifF zk18 1 1788 1791 rfl rfl rfl (by decide) (by decide) ?_
    refine y_lld zk18 2 1793 1794 bb.toInt64 rfl rfl rfl in_out (h4 rfl) ?_
    refine y_ifT zk18 3 1798 1803 rfl rfl (by decide) (decide_eq_true lg_self) ?_
    exact y_go zk18 1 3410 rfl rfl
  · refine y_ifT zk18 1 1788 1803 rfl rfl (by decide) (decide_eq_true (cn_nz h0 hc)) ?_
    exact y_go zk18 1 3410 rfl rfl
theorem lw_19 {M M1 M2 : Mem} {i L code : Nat} {xs : Nat → Int32} {bb : Int32} {j5 j6 j7 : AV} (hi : i + 7 ≤ L) (hL : L ≤ 3584) (s0 : SCR M L xs) (s1 : SCR M1 L xs) (hc : code < 4) (h1 : X 398 0 [rR 3 11 1, vI (xs (i + 1)), vI (xs (i + 2)), vI (xs (i + 3)), rR 3 14 1, vJ] [] M = some (.inl (some (vI (cn code))), M1)) (h2 : X 341 0 [rR 2 12 1, vI (xs (i + 1)), vI (xs (i + 2)), vI (xs (i + 3))] [] M1 = some (.inl (some (vI bb)), M2)) (h3 : X 213 0 [rR 2 12 1] [] M2 = some (.inl (some (vI (cn code))), M2)) (h4 : code = 0 → (M2.1 3).2.1 14 1 0 = bb.toInt64) : ∃ u5 u6 u7, X 420 1806 [rR 4 13 1, rR 3 11 1, rR 2 12 1, rR 3 14 1, vI (cn i), j5, j6, j7] [] M = X 420 3410 [rR 4 13 1, rR 3 11 1, rR 2 12 1, rR 3 14 1, vI (cn i), u5, u6, u7] [] M2 := by
  refine ⟨vI (cn code), vI bb, j7, ?_⟩
  refine y_ald zk19 5 1812 1813 (xs (i + 1)) rfl rfl rfl (sc_in s0 hi hL (j := 1) (by decide)) (sc_v s0 hi hL (j := 1) (by decide)) ?_
  refine y_ald zk19 4 1818 1819 (xs (i + 2)) rfl rfl rfl (sc_in s0 hi hL (j := 2) (by decide)) (sc_v s0 hi hL (j := 2) (by decide)) ?_
  refine y_ald zk19 4 1824 1825 (xs (i + 3)) rfl rfl rfl (sc_in s0 hi hL (j := 3) (by decide)) (sc_v s0 hi hL (j := 3) (by decide)) ?_
  refine y_cal zk19 2 1829 rfl h1 ?_
  refine y_ald zk19 6 1837 1838 (xs (i + 1)) rfl rfl rfl (sc_in s1 hi hL (j := 1) (by decide)) (sc_v s1 hi hL (j := 1) (by decide)) ?_
  refine y_ald zk19 4 1843 1844 (xs (i + 2)) rfl rfl rfl (sc_in s1 hi hL (j := 2) (by decide)) (sc_v s1 hi hL (j := 2) (by decide)) ?_
  refine y_ald zk19 4 1849 1850 (xs (i + 3)) rfl rfl rfl (sc_in s1 hi hL (j := 3) (by decide)) (sc_v s1 hi hL (j := 3) (by decide)) ?_
  refine y_cal zk19 1 1853 rfl h2 ?_
  refine y_cal zk19 3 1859 rfl h3 ?_
  refine y_icT zk19 1 1861 1866 rfl rfl (by decide) (decide_eq_true rfl) ?_
  by_cases h0 : code = 0
  · subst h0
    refine y_ifF zk19 1 1868 1871 rfl rfl rfl (by decide) (by decide) ?_
    refine y_lld zk19 2 1873 1874 bb.toInt64 rfl rfl rfl in_out (h4 rfl) ?_
    refine y_ifT zk19 3 1878 1883 rfl rfl (by decide) (decide_eq_true lg_self) ?_
    exact y_go zk19 1 3410 rfl rfl
  · refine y_ifT zk19 1 1868 1883 rfl rfl (by decide) (decide_eq_true (cn_nz h0 hc)) ?_
    exact y_go zk19 1 3410 rfl rfl
theorem lw_20 {M M1 M2 : Mem} {i L code : Nat} {xs : Nat → Int32} {bb : Int32} {j5 j6 j7 : AV} (hi : i + 7 ≤ L) (hL : L ≤ 3584) (s0 : SCR M L xs) (s1 : SCR M1 L xs) (hc : code < 4) (h1 : X 399 0 [rR 3 11 1, vI (xs (i + 1)), vI (xs (i + 2)), vI (xs (i + 3)), rR 3 14 1, vJ] [] M = some (.inl (some (vI (cn code))), M1)) (h2 : X 342 0 [rR 2 12 1, vI (xs (i + 1)), vI (xs (i + 2)), vI (xs (i + 3))] [] M1 = some (.inl (some (vI bb)), M2)) (h3 : X 213 0 [rR 2 12 1] [] M2 = some (.inl (some (vI (cn code))), M2)) (h4 : code = 0 → (M2.1 3).2.1 14 1 0 = bb.toInt64) : ∃ u5 u6 u7, X 420 1886 [rR 4 13 1, rR 3 11 1, rR 2 12 1, rR 3 14 1, vI (cn i), j5, j6, j7] [] M = X 420 3410 [rR 4 13 1, rR 3 11 1, rR 2 12 1, rR 3 14 1, vI (cn i), u5, u6, u7] [] M2 := by
  refine ⟨vI (cn code), vI bb, j7, ?_⟩
  refine y_ald zk20 5 1892 1893 (xs (i + 1)) rfl rfl rfl (sc_in s0 hi hL (j := 1) (by decide)) (sc_v s0 hi hL (j := 1) (by decide)) ?_
  refine y_ald zk20 4 1898 1899 (xs (i + 2)) rfl rfl rfl (sc_in s0 hi hL (j := 2) (by decide)) (sc_v s0 hi hL (j := 2) (by decide)) ?_
  refine y_ald zk20 4 1904 1905 (xs (i + 3)) rfl rfl rfl (sc_in s0 hi hL (j := 3) (by decide)) (sc_v s0 hi hL (j := 3) (by decide)) ?_
  refine y_cal zk20 2 1909 rfl h1 ?_
  refine y_ald zk20 6 1917 1918 (xs (i + 1)) rfl rfl rfl (sc_in s1 hi hL (j := 1) (by decide)) (sc_v s1 hi hL (j := 1) (by decide)) ?_
  refine y_ald zk20 4 1923 1924 (xs (i + 2)) rfl rfl rfl (sc_in s1 hi hL (j := 2) (by decide)) (sc_v s1 hi hL (j := 2) (by decide)) ?_
  refine y_ald zk20 4 1929 1930 (xs (i + 3)) rfl rfl rfl (sc_in s1 hi hL (j := 3) (by decide)) (sc_v s1 hi hL (j := 3) (by decide)) ?_
  refine y_cal zk20 1 1933 rfl h2 ?_
  refine y_cal zk20 3 1939 rfl h3 ?_
  refine y_icT zk20 1 1941 1946 rfl rfl (by decide) (decide_eq_true rfl) ?_
  by_cases h0 : code = 0
  · subst h0
    refine y_ifF zk20 1 1948 1951 rfl rfl rfl (by decide) (by decide) ?_
    refine y_lld zk20 2 1953 1954 bb.toInt64 rfl rfl rfl in_out (h4 rfl) ?_
    refine y_ifT zk20 3 1958 1963 rfl rfl (by decide) (decide_eq_true lg_self) ?_
    exact y_go zk20 1 3410 rfl rfl
  · refine y_ifT zk20 1 1948 1963 rfl rfl (by decide) (decide_eq_true (cn_nz h0 hc)) ?_
    exact y_go zk20 1 3410 rfl rfl
theorem lw_21 {M M1 M2 : Mem} {i L code : Nat} {xs : Nat → Int32} {bb : Int32} {j5 j6 j7 : AV} (hi : i + 7 ≤ L) (hL : L ≤ 3584) (s0 : SCR M L xs) (s1 : SCR M1 L xs) (hc : code < 4) (h1 : X 400 0 [rR 3 11 1, vI (xs (i + 1)), rR 3 14 1, vJ] [] M = some (.inl (some (vI (cn code))), M1)) (h2 : X 343 0 [rR 2 12 1, vI (xs (i + 1))] [] M1 = some (.inl (some (vI bb)), M2)) (h3 : X 213 0 [rR 2 12 1] [] M2 = some (.inl (some (vI (cn code))), M2)) (h4 : code = 0 → (M2.1 3).2.1 14 1 0 = bb.toInt64) : ∃ u5 u6 u7, X 420 1966 [rR 4 13 1, rR 3 11 1, rR 2 12 1, rR 3 14 1, vI (cn i), j5, j6, j7] [] M = X 420 3410 [rR 4 13 1, rR 3 11 1, rR 2 12 1, rR 3 14 1, vI (cn i), u5, u6, u7] [] M2 := by
  refine ⟨vI (cn code), vI bb, j7, ?_⟩
  refine y_ald zk21 5 1972 1973 (xs (i + 1)) rfl rfl rfl (sc_in s0 hi hL (j := 1) (by decide)) (sc_v s0 hi hL (j := 1) (by decide)) ?_
  refine y_cal zk21 2 1977 rfl h1 ?_
  refine y_ald zk21 6 1985 1986 (xs (i + 1)) rfl rfl rfl (sc_in s1 hi hL (j := 1) (by decide)) (sc_v s1 hi hL (j := 1) (by decide)) ?_
  refine y_cal zk21 1 1989 rfl h2 ?_
  refine y_cal zk21 3 1995 rfl h3 ?_
  refine y_icT zk21 1 1997 2002 rfl rfl (by decide) (decide_eq_true rfl) ?_
  by_cases h0 : code = 0
  · subst h0
    refine y_ifF zk21 1 2004 2007 rfl rfl rfl (by decide) (by decide) ?_
    refine y_lld zk21 2 2009 2010 bb.toInt64 rfl rfl rfl in_out (h4 rfl) ?_
    refine y_ifT zk21 3 2014 2019 rfl rfl (by decide) (decide_eq_true lg_self) ?_
    exact y_go zk21 1 3410 rfl rfl
  · refine y_ifT zk21 1 2004 2019 rfl rfl (by decide) (decide_eq_true (cn_nz h0 hc)) ?_
    exact y_go zk21 1 3410 rfl rfl
theorem lw_22 {M M1 M2 : Mem} {i L code : Nat} {xs : Nat → Int32} {bb : Int32} {j5 j6 j7 : AV} (hi : i + 7 ≤ L) (hL : L ≤ 3584) (s0 : SCR M L xs) (s1 : SCR M1 L xs) (hc : code < 4) (h1 : X 401 0 [rR 3 11 1, vI (xs (i + 1)), vI (xs (i + 2)), vI (xs (i + 3)), rR 3 14 1, vJ] [] M = some (.inl (some (vI (cn code))), M1)) (h2 : X 344 0 [rR 2 12 1, vI (xs (i + 1)), vI (xs (i + 2)), vI (xs (i + 3))] [] M1 = some (.inl (some (vI bb)), M2)) (h3 : X 213 0 [rR 2 12 1] [] M2 = some (.inl (some (vI (cn code))), M2)) (h4 : code = 0 → (M2.1 3).2.1 14 1 0 = bb.toInt64) : ∃ u5 u6 u7, X 420 2022 [rR 4 13 1, rR 3 11 1, rR 2 12 1, rR 3 14 1, vI (cn i), j5, j6, j7] [] M = X 420 3410 [rR 4 13 1, rR 3 11 1, rR 2 12 1, rR 3 14 1, vI (cn i), u5, u6, u7] [] M2 := by
  refine ⟨vI (cn code), vI bb, j7, ?_⟩
  refine y_ald zk22 5 2028 2029 (xs (i + 1)) rfl rfl rfl (sc_in s0 hi hL (j := 1) (by decide)) (sc_v s0 hi hL (j := 1) (by decide)) ?_
  refine y_ald zk22 4 2034 2035 (xs (i + 2)) rfl rfl rfl (sc_in s0 hi hL (j := 2) (by decide)) (sc_v s0 hi hL (j := 2) (by decide)) ?_
  refine y_ald zk22 4 2040 2041 (xs (i + 3)) rfl rfl rfl (sc_in s0 hi hL (j := 3) (by decide)) (sc_v s0 hi hL (j := 3) (by decide)) ?_
  refine y_cal zk22 2 2045 rfl h1 ?_
  refine y_ald zk22 6 2053 2054 (xs (i + 1)) rfl rfl rfl (sc_in s1 hi hL (j := 1) (by decide)) (sc_v s1 hi hL (j := 1) (by decide)) ?_
  refine y_ald zk22 4 2059 2060 (xs (i + 2)) rfl rfl rfl (sc_in s1 hi hL (j := 2) (by decide)) (sc_v s1 hi hL (j := 2) (by decide)) ?_
  refine y_ald zk22 4 2065 2066 (xs (i + 3)) rfl rfl rfl (sc_in s1 hi hL (j := 3) (by decide)) (sc_v s1 hi hL (j := 3) (by decide)) ?_
  refine y_cal zk22 1 2069 rfl h2 ?_
  refine y_cal zk22 3 2075 rfl h3 ?_
  refine y_icT zk22 1 2077 2082 rfl rfl (by decide) (decide_eq_true rfl) ?_
  by_cases h0 : code = 0
  · subst h0
    refine y_ifF zk22 1 2084 2087 rfl rfl rfl (by decide) (by decide) ?_
    refine y_lld zk22 2 2089 2090 bb.toInt64 rfl rfl rfl in_out (h4 rfl) ?_
    refine y_ifT zk22 3 2094 2099 rfl rfl (by decide) (decide_eq_true lg_self) ?_
    exact y_go zk22 1 3410 rfl rfl
  · refine y_ifT zk22 1 2084 2099 rfl rfl (by decide) (decide_eq_true (cn_nz h0 hc)) ?_
    exact y_go zk22 1 3410 rfl rfl
theorem lw_23 {M M1 M2 : Mem} {i L code : Nat} {xs : Nat → Int32} {bb : Int32} {j5 j6 j7 : AV} (hi : i + 7 ≤ L) (hL : L ≤ 3584) (s0 : SCR M L xs) (s1 : SCR M1 L xs) (hc : code < 4) (h1 : X 402 0 [rR 3 11 1, vI (xs (i + 1)), vI (xs (i + 2)), rR 3 14 1, vJ] [] M = some (.inl (some (vI (cn code))), M1)) (h2 : X 345 0 [rR 2 12 1, vI (xs (i + 1)), vI (xs (i + 2))] [] M1 = some (.inl (some (vI bb)), M2)) (h3 : X 213 0 [rR 2 12 1] [] M2 = some (.inl (some (vI (cn code))), M2)) (h4 : code = 0 → (M2.1 3).2.1 14 1 0 = bb.toInt64) : ∃ u5 u6 u7, X 420 2102 [rR 4 13 1, rR 3 11 1, rR 2 12 1, rR 3 14 1, vI (cn i), j5, j6, j7] [] M = X 420 3410 [rR 4 13 1, rR 3 11 1, rR 2 12 1, rR 3 14 1, vI (cn i), u5, u6, u7] [] M2 := by
  refine ⟨vI (cn code), vI bb, j7, ?_⟩
  refine y_ald zk23 5 2108 2109 (xs (i + 1)) rfl rfl rfl (sc_in s0 hi hL (j := 1) (by decide)) (sc_v s0 hi hL (j := 1) (by decide)) ?_
  refine y_ald zk23 4 2114 2115 (xs (i + 2)) rfl rfl rfl (sc_in s0 hi hL (j := 2) (by decide)) (sc_v s0 hi hL (j := 2) (by decide)) ?_
  refine y_cal zk23 2 2119 rfl h1 ?_
  refine y_ald zk23 6 2127 2128 (xs (i + 1)) rfl rfl rfl (sc_in s1 hi hL (j := 1) (by decide)) (sc_v s1 hi hL (j := 1) (by decide)) ?_
  refine y_ald zk23 4 2133 2134 (xs (i + 2)) rfl rfl rfl (sc_in s1 hi hL (j := 2) (by decide)) (sc_v s1 hi hL (j := 2) (by decide)) ?_
  refine y_cal zk23 1 2137 rfl h2 ?_
  refine y_cal zk23 3 2143 rfl h3 ?_
  refine y_icT zk23 1 2145 2150 rfl rfl (by decide) (decide_eq_true rfl) ?_
  by_cases h0 : code = 0
  · subst h0
    refine y_ifF zk23 1 2152 2155 rfl rfl rfl (by decide) (by decide) ?_
    refine y_lld zk23 2 2157 2158 bb.toInt64 rfl rfl rfl in_out (h4 rfl) ?_
    refine y_ifT zk23 3 2162 2167 rfl rfl (by decide) (decide_eq_true lg_self) ?_
    exact y_go zk23 1 3410 rfl rfl
  · refine y_ifT zk23 1 2152 2167 rfl rfl (by decide) (decide_eq_true (cn_nz h0 hc)) ?_
    exact y_go zk23 1 3410 rfl rfl
