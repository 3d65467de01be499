/-! the law's loop -/
theorem and63 (v : Int32) : ∃ j : Nat, j ≤ 63 ∧ (v &&& cn 63).toInt = j := by
  have h1 : (v &&& cn 63).toBitVec = v.toBitVec &&& (cn 63).toBitVec := rfl
  have h2 : (v &&& cn 63).toBitVec.toNat ≤ 63 := by
    rw [h1, BitVec.toNat_and]
    exact Nat.le_trans Nat.and_le_right (by decide)
  refine ⟨(v &&& cn 63).toBitVec.toNat, h2, ?_⟩
  show (v &&& cn 63).toBitVec.toInt = _
  rw [BitVec.toInt_eq_toNat_of_lt]
  omega
section Loop
variable {P0 P1 Q : PM} {cl lg : Nat → Int32} {N T D t f g i L e : Nat} {xs : Nat → Int32} {ou : Int64} {j5 j6 j7 : AV}
theorem sc_in0 {M : Mem} (s : SCR M L xs) (hi : i + 7 ≤ L) (hL : L ≤ 3584) : inb (cn i) (lenA M 4 13 1) := by
  have h : lenA M 4 13 1 = L := s.1
  rw [h]
  exact cninb (i := i) (by omega) (by omega)
theorem sc_v0 {M : Mem} (s : SCR M L xs) (hi : i + 7 ≤ L) (hL : L ≤ 3584) : (M.1 4).1 13 1 (cn (i : Int)).toNatClampNeg = xs i := by
  rw [s.2]
  exact congrArg xs (cntk (i := i) (by omega))
theorem len_sc {M : Mem} (s : SCR M L xs) : Int32.ofNat (lenA M 4 13 1) = cn L := by
  have h : lenA M 4 13 1 = L := s.1
  rw [h]
  exact Int32.ofInt_eq_ofNat.symm
theorem lw_go (hi : i + 7 ≤ L) (hL : L ≤ 3584) : cmpI .gt (cn i) (cn L - cn 7) = false := by
  refine decide_eq_false ?_
  rw [cnsub, cnlt ⟨by omega, by omega⟩ ⟨by omega, by omega⟩]
  omega
theorem lw_end (hi : L < i + 7) (hL : L ≤ 3584) (hi2 : i ≤ 3584) : cmpI .gt (cn i) (cn L - cn 7) = true := by
  refine decide_eq_true ?_
  rw [cnsub, cnlt ⟨by omega, by omega⟩ ⟨by omega, by omega⟩]
  omega
theorem lw_head (hi : i + 7 ≤ L) (hL : L ≤ 3584) : X 420 23 [rR 4 13 1, rR 3 11 1, rR 2 12 1, rR 3 14 1, vI (cn i), j5, j6, j7] [] (mm P0 P1 Q cl (cn t) (cn f) (cn g) ou L xs e) = X 420 40 [rR 4 13 1, rR 3 11 1, rR 2 12 1, rR 3 14 1, vI (cn i), j5, j6, j7] [vI (xs i &&& cn 63)] (mm P0 P1 Q cl (cn t) (cn f) (cn g) ou L xs e) := by
  refine y_len zk99 2 26 27 (cn L) rfl rfl rfl (by decide) (len_sc scr_mm) ?_
  refine y_icF zk99 2 30 33 rfl rfl rfl (by decide) (lw_go hi hL) ?_
  refine y_ald zk99 2 36 37 (xs i) rfl rfl rfl (sc_in0 scr_mm hi hL) (sc_v0 scr_mm hi hL) ?_
  exact y_go zk99 2 40 rfl rfl
theorem lw_tail {u5 u6 u7 : AV} {M : Mem} : X 420 3410 [rR 4 13 1, rR 3 11 1, rR 2 12 1, rR 3 14 1, vI (cn i), u5, u6, u7] [] M = X 420 23 [rR 4 13 1, rR 3 11 1, rR 2 12 1, rR 3 14 1, vI (cn ((i + 7 : Nat) : Int)), u5, u6, u7] [] M := by
  refine y_go zk47 2 23 (la' := [rR 4 13 1, rR 3 11 1, rR 2 12 1, rR 3 14 1, vI (cn i + cn 7), u5, u6, u7]) rfl ?_
  rw [cnadd]
  rfl
/-- a round, from the loop's head to the loop's head -/
theorem lw_step (I : INV P0 P1 Q cl t f g) (ht : t < 512) (hi : i + 7 ≤ L) (hL : L ≤ 3584) : ∃ (P0' P1' Q' : PM) (cl' : Nat → Int32) (t' f' g' : Nat) (ou' : Int64) (e' : Nat) (u5 u6 u7 : AV), INV P0' P1' Q' cl' t' f' g' ∧ t' ≤ t + 1 ∧ e' ≤ e + 1 ∧ X 420 23 [rR 4 13 1, rR 3 11 1, rR 2 12 1, rR 3 14 1, vI (cn i), j5, j6, j7] [] (mm P0 P1 Q cl (cn t) (cn f) (cn g) ou L xs e) = X 420 23 [rR 4 13 1, rR 3 11 1, rR 2 12 1, rR 3 14 1, vI (cn ((i + 7 : Nat) : Int)), u5, u6, u7] [] (mm P0' P1' Q' cl' (cn t') (cn f') (cn g') ou' L xs e') := by
  obtain ⟨lg, N, T, D, J⟩ := I
  obtain ⟨j, hj, hx⟩ := and63 (xs i)
  rw [lw_head hi hL]
  by_cases h47 : j < 47
  · have key : ∀ pc, X 420 40 [rR 4 13 1, rR 3 11 1, rR 2 12 1, rR 3 14 1, vI (cn i), j5, j6, j7] [vI (xs i &&& cn 63)] (mm P0 P1 Q cl (cn t) (cn f) (cn g) ou L xs e) = X 420 pc [rR 4 13 1, rR 3 11 1, rR 2 12 1, rR 3 14 1, vI (cn i), j5, j6, j7] [] (mm P0 P1 Q cl (cn t) (cn f) (cn g) ou L xs e) → RND pc i L xs e t j5 j6 j7 (mm P0 P1 Q cl (cn t) (cn f) (cn g) ou L xs e) → ∃ (P0' P1' Q' : PM) (cl' : Nat → Int32) (t' f' g' : Nat) (ou' : Int64) (e' : Nat) (u5 u6 u7 : AV), INV P0' P1' Q' cl' t' f' g' ∧ t' ≤ t + 1 ∧ e' ≤ e + 1 ∧ X 420 40 [rR 4 13 1, rR 3 11 1, rR 2 12 1, rR 3 14 1, vI (cn i), j5, j6, j7] [vI (xs i &&& cn 63)] (mm P0 P1 Q cl (cn t) (cn f) (cn g) ou L xs e) = X 420 23 [rR 4 13 1, rR 3 11 1, rR 2 12 1, rR 3 14 1, vI (cn ((i + 7 : Nat) : Int)), u5, u6, u7] [] (mm P0' P1' Q' cl' (cn t') (cn f') (cn g') ou' L xs e') := by
      intro pc h1 h2
      obtain ⟨P0', P1', Q', cl', t', f', g', ou', e', u5, u6, u7, k1, k2, k3, k4⟩ := h2
      exact ⟨P0', P1', Q', cl', t', f', g', ou', e', u5, u6, u7, k1, k2, k3, (h1.trans k4).trans lw_tail⟩
    have hh : j = 0 ∨ j = 1 ∨ j = 2 ∨ j = 3 ∨ j = 4 ∨ j = 5 ∨ j = 6 ∨ j = 7 ∨ j = 8 ∨ j = 9 ∨ j = 10 ∨ j = 11 ∨ j = 12 ∨ j = 13 ∨ j = 14 ∨ j = 15 ∨ j = 16 ∨ j = 17 ∨ j = 18 ∨ j = 19 ∨ j = 20 ∨ j = 21 ∨ j = 22 ∨ j = 23 ∨ j = 24 ∨ j = 25 ∨ j = 26 ∨ j = 27 ∨ j = 28 ∨ j = 29 ∨ j = 30 ∨ j = 31 ∨ j = 32 ∨ j = 33 ∨ j = 34 ∨ j = 35 ∨ j = 36 ∨ j = 37 ∨ j = 38 ∨ j = 39 ∨ j = 40 ∨ j = 41 ∨ j = 42 ∨ j = 43 ∨ j = 44 ∨ j = 45 ∨ j = 46 := by omega
    rcases hh with rfl | rfl | rfl | rfl | rfl | rfl | rfl | rfl | rfl | rfl | rfl | rfl | rfl | rfl | rfl | rfl | rfl | rfl | rfl | rfl | rfl | rfl | rfl | rfl | rfl | rfl | rfl | rfl | rfl | rfl | rfl | rfl | rfl | rfl | rfl | rfl | rfl | rfl | rfl | rfl | rfl | rfl | rfl | rfl | rfl | rfl | rfl
    · exact key 244 (y_tab zk99 0 40 244 0 rfl rfl (hx.trans (by decide)) (by decide) rfl rfl rfl) (rd_0 J ht hi hL)
    · exact key 362 (y_tab zk99 0 40 362 1 rfl rfl (hx.trans (by decide)) (by decide) rfl rfl rfl) (rd_1 J ht hi hL)
    · exact key 442 (y_tab zk99 0 40 442 2 rfl rfl (hx.trans (by decide)) (by decide) rfl rfl rfl) (rd_2 J ht hi hL)
    · exact key 546 (y_tab zk99 0 40 546 3 rfl rfl (hx.trans (by decide)) (by decide) rfl rfl rfl) (rd_3 J ht hi hL)
    · exact key 650 (y_tab zk99 0 40 650 4 rfl rfl (hx.trans (by decide)) (by decide) rfl rfl rfl) (rd_4 J ht hi hL)
    · exact key 754 (y_tab zk99 0 40 754 5 rfl rfl (hx.trans (by decide)) (by decide) rfl rfl rfl) (rd_5 J ht hi hL)
    · exact key 858 (y_tab zk99 0 40 858 6 rfl rfl (hx.trans (by decide)) (by decide) rfl rfl rfl) (rd_6 J ht hi hL)
    · exact key 914 (y_tab zk99 0 40 914 7 rfl rfl (hx.trans (by decide)) (by decide) rfl rfl rfl) (rd_7 J ht hi hL)
    · exact key 1006 (y_tab zk99 0 40 1006 8 rfl rfl (hx.trans (by decide)) (by decide) rfl rfl rfl) (rd_8 J ht hi hL)
    · exact key 1074 (y_tab zk99 0 40 1074 9 rfl rfl (hx.trans (by decide)) (by decide) rfl rfl rfl) (rd_9 J ht hi hL)
    · exact key 1142 (y_tab zk99 0 40 1142 10 rfl rfl (hx.trans (by decide)) (by decide) rfl rfl rfl) (rd_10 J ht hi hL)
    · exact key 1222 (y_tab zk99 0 40 1222 11 rfl rfl (hx.trans (by decide)) (by decide) rfl rfl rfl) (rd_11 J ht hi hL)
    · exact key 1314 (y_tab zk99 0 40 1314 12 rfl rfl (hx.trans (by decide)) (by decide) rfl rfl rfl) (rd_12 J ht hi hL)
    · exact key 1370 (y_tab zk99 0 40 1370 13 rfl rfl (hx.trans (by decide)) (by decide) rfl rfl rfl) (rd_13 J ht hi hL)
    · exact key 1414 (y_tab zk99 0 40 1414 14 rfl rfl (hx.trans (by decide)) (by decide) rfl rfl rfl) (rd_14 J ht hi hL)
    · exact key 1470 (y_tab zk99 0 40 1470 15 rfl rfl (hx.trans (by decide)) (by decide) rfl rfl rfl) (rd_15 J ht hi hL)
    · exact key 1538 (y_tab zk99 0 40 1538 16 rfl rfl (hx.trans (by decide)) (by decide) rfl rfl rfl) (rd_16 J ht hi hL)
    · exact key 1634 (y_tab zk99 0 40 1634 17 rfl rfl (hx.trans (by decide)) (by decide) rfl rfl rfl) (rd_17 J ht hi hL)
    · exact key 1726 (y_tab zk99 0 40 1726 18 rfl rfl (hx.trans (by decide)) (by decide) rfl rfl rfl) (rd_18 J ht hi hL)
    · exact key 1806 (y_tab zk99 0 40 1806 19 rfl rfl (hx.trans (by decide)) (by decide) rfl rfl rfl) (rd_19 J ht hi hL)
    · exact key 1886 (y_tab zk99 0 40 1886 20 rfl rfl (hx.trans (by decide)) (by decide) rfl rfl rfl) (rd_20 J ht hi hL)
    · exact key 1966 (y_tab zk99 0 40 1966 21 rfl rfl (hx.trans (by decide)) (by decide) rfl rfl rfl) (rd_21 J ht hi hL)
    · exact key 2022 (y_tab zk99 0 40 2022 22 rfl rfl (hx.trans (by decide)) (by decide) rfl rfl rfl) (rd_22 J ht hi hL)
    · exact key 2102 (y_tab zk99 0 40 2102 23 rfl rfl (hx.trans (by decide)) (by decide) rfl rfl rfl) (rd_23 J ht hi hL)
    · exact key 2170 (y_tab zk99 0 40 2170 24 rfl rfl (hx.trans (by decide)) (by decide) rfl rfl rfl) (rd_24 J ht hi hL)
    · exact key 2226 (y_tab zk99 0 40 2226 25 rfl rfl (hx.trans (by decide)) (by decide) rfl rfl rfl) (rd_25 J ht hi hL)
    · exact key 2294 (y_tab zk99 0 40 2294 26 rfl rfl (hx.trans (by decide)) (by decide) rfl rfl rfl) (rd_26 J ht hi hL)
    · exact key 2338 (y_tab zk99 0 40 2338 27 rfl rfl (hx.trans (by decide)) (by decide) rfl rfl rfl) (rd_27 J ht hi hL)
    · exact key 2351 (y_tab zk99 0 40 2351 28 rfl rfl (hx.trans (by decide)) (by decide) rfl rfl rfl) (rd_28 J ht hi hL)
    · exact key 2364 (y_tab zk99 0 40 2364 29 rfl rfl (hx.trans (by decide)) (by decide) rfl rfl rfl) (rd_29 J ht hi hL)
    · exact key 2377 (y_tab zk99 0 40 2377 30 rfl rfl (hx.trans (by decide)) (by decide) rfl rfl rfl) (rd_30 J ht hi hL)
    · exact key 2445 (y_tab zk99 0 40 2445 31 rfl rfl (hx.trans (by decide)) (by decide) rfl rfl rfl) (rd_31 J ht hi hL)
    · exact key 2529 (y_tab zk99 0 40 2529 32 rfl rfl (hx.trans (by decide)) (by decide) rfl rfl rfl) (rd_32 J ht hi hL)
    · exact key 2613 (y_tab zk99 0 40 2613 33 rfl rfl (hx.trans (by decide)) (by decide) rfl rfl rfl) (rd_33 J ht hi hL)
    · exact key 2709 (y_tab zk99 0 40 2709 34 rfl rfl (hx.trans (by decide)) (by decide) rfl rfl rfl) (rd_34 J ht hi hL)
    · exact key 2734 (y_tab zk99 0 40 2734 35 rfl rfl (hx.trans (by decide)) (by decide) rfl rfl rfl) (rd_35 J ht hi hL)
    · exact key 2790 (y_tab zk99 0 40 2790 36 rfl rfl (hx.trans (by decide)) (by decide) rfl rfl rfl) (rd_36 J ht hi hL)
    · exact key 2846 (y_tab zk99 0 40 2846 37 rfl rfl (hx.trans (by decide)) (by decide) rfl rfl rfl) (rd_37 J ht hi hL)
    · exact key 2930 (y_tab zk99 0 40 2930 38 rfl rfl (hx.trans (by decide)) (by decide) rfl rfl rfl) (rd_38 J ht hi hL)
    · exact key 2986 (y_tab zk99 0 40 2986 39 rfl rfl (hx.trans (by decide)) (by decide) rfl rfl rfl) (rd_39 J ht hi hL)
    · exact key 3070 (y_tab zk99 0 40 3070 40 rfl rfl (hx.trans (by decide)) (by decide) rfl rfl rfl) (rd_40 J ht hi hL)
    · exact key 3083 (y_tab zk99 0 40 3083 41 rfl rfl (hx.trans (by decide)) (by decide) rfl rfl rfl) (rd_41 J ht hi hL)
    · exact key 3151 (y_tab zk99 0 40 3151 42 rfl rfl (hx.trans (by decide)) (by decide) rfl rfl rfl) (rd_42 J ht hi hL)
    · exact key 3219 (y_tab zk99 0 40 3219 43 rfl rfl (hx.trans (by decide)) (by decide) rfl rfl rfl) (rd_43 J ht hi hL)
    · exact key 3274 (y_tab zk99 0 40 3274 44 rfl rfl (hx.trans (by decide)) (by decide) rfl rfl rfl) (rd_44 J ht hi hL)
    · exact key 3330 (y_tab zk99 0 40 3330 45 rfl rfl (hx.trans (by decide)) (by decide) rfl rfl rfl) (rd_45 J ht hi hL)
    · exact key 3397 (y_tab zk99 0 40 3397 46 rfl rfl (hx.trans (by decide)) (by decide) rfl rfl rfl) (rd_46 J ht hi hL)
  · refine ⟨P0, P1, Q, cl, t, f, g, ou, e, j5, j6, j7, ⟨lg, N, T, D, J⟩, by omega, by omega, ?_⟩
    refine y_taD zk99 0 40 3410 rfl rfl (Or.inr (by rw [hx]; omega)) rfl ?_
    exact lw_tail
/-- all rounds -/
theorem lw_all (hL : L ≤ 3584) : ∀ (d i t f g e : Nat) (P0 P1 Q : PM) (cl : Nat → Int32) (ou : Int64) (j5 j6 j7 : AV), INV P0 P1 Q cl t f g → i + 7 * d ≤ L → L < i + 7 * d + 7 → 7 * t ≤ i → 7 * e ≤ i → ∃ M' : Mem, X 420 23 [rR 4 13 1, rR 3 11 1, rR 2 12 1, rR 3 14 1, vI (cn i), j5, j6, j7] [] (mm P0 P1 Q cl (cn t) (cn f) (cn g) ou L xs e) = some (.inl (some (vI 1)), M') ∧ M'.2.1 = 369 ∧ M'.2.2.1 = L ∧ M'.2.2.2 ≤ 512 := by
  intro d
  induction d with
  | zero =>
    intro i t f g e P0 P1 Q cl ou j5 j6 j7 I h1 h2 h3 h4
    refine ⟨mm P0 P1 Q cl (cn t) (cn f) (cn g) ou L xs e, ?_, rfl, rfl, (by omega : e ≤ 512)⟩
    refine y_len zk99 2 26 27 (cn L) rfl rfl rfl (by decide) (len_sc scr_mm) ?_
    refine y_icT zk99 2 30 3416 rfl rfl rfl (lw_end (by omega) hL (by omega)) ?_
    exact y_ret zk47 2 rfl rfl
  | succ d ih =>
    intro i t f g e P0 P1 Q cl ou j5 j6 j7 I h1 h2 h3 h4
    obtain ⟨P0', P1', Q', cl', t', f', g', ou', e', u5, u6, u7, k1, k2, k3, k4⟩ := lw_step (i := i) (L := L) (xs := xs) (e := e) (ou := ou) (j5 := j5) (j6 := j6) (j7 := j7) I (by omega) (by omega) hL
    obtain ⟨M', m1, m2⟩ := ih (i + 7) t' f' g' e' P0' P1' Q' cl' ou' u5 u6 u7 k1 (by omega) (by omega) (by omega) (by omega)
    exact ⟨M', k4.trans m1, m2⟩
end Loop
