/-! the walk of areOrders -/
section AreOrd
variable {M : Mem} {b : Nat} {bid ask en : Int32}
theorem icm_eq {x y : Int32} (h : ¬ x = y) : cmpI .eq x y = false := decide_eq_false h
theorem icm_ne {x y : Int32} (h : ¬ x = y) : cmpI .ne x y = true := decide_eq_true h
theorem icm_eqT {x : Int32} : cmpI .eq x x = true := decide_eq_true rfl
theorem icm_neF {x : Int32} : cmpI .ne x x = false := decide_eq_false fun h => h rfl
theorem icm_leF {x : Int32} (h : 0 < x) : cmpI .le x 0 = false := decide_eq_false (Int32.not_le.mpr h)
theorem ao_1 {op : Int32} (h : ¬ bid = cn (-100000) → ∃ v : Int32, 0 < v ∧ X 177 0 [rR 3 11 1, vI (cn b), vI (cn 0), vI bid] [] M = some (.inl (some (vI v)), M)) : X 231 46 [rR 3 11 1, vI (cn 1), vI (cn b), vI bid, vI ask, vI op] [] M = X 231 62 [rR 3 11 1, vI (cn 1), vI (cn b), vI bid, vI ask, vI op] [] M := by
  by_cases hb : bid = cn (-100000)
  · subst hb
    exact y_icT yk231 2 49 62 rfl rfl rfl icm_eqT rfl
  · obtain ⟨v, hv, e⟩ := h hb
    refine y_icF yk231 2 49 52 rfl rfl rfl (by decide) (icm_eq hb) ?_
    refine y_cal yk231 5 59 rfl e ?_
    exact y_ifF yk231 0 59 62 rfl rfl rfl (by decide) (icm_leF hv) rfl
theorem ao_2 {op : Int32} (h : ¬ ask = cn (-100000) → ∃ v : Int32, 0 < v ∧ X 177 0 [rR 3 11 1, vI (cn b), vI (cn 1), vI ask] [] M = some (.inl (some (vI v)), M)) : X 231 62 [rR 3 11 1, vI (cn 1), vI (cn b), vI bid, vI ask, vI op] [] M = X 231 80 [rR 3 11 1, vI (cn 1), vI (cn b), vI bid, vI ask, vI op] [] M := by
  by_cases hb : ask = cn (-100000)
  · subst hb
    exact y_icT yk231 2 66 80 rfl rfl rfl icm_eqT rfl
  · obtain ⟨v, hv, e⟩ := h hb
    refine y_icF yk231 2 66 69 rfl rfl rfl (by decide) (icm_eq hb) ?_
    refine y_cal yk231 5 77 rfl e ?_
    exact y_ifF yk231 0 77 80 rfl rfl rfl (by decide) (icm_leF hv) rfl
theorem ao_4 {op : Int32} : X 231 94 [rR 3 11 1, vI (cn 1), vI (cn b), vI bid, vI ask, vI op] [] M = X 231 4 [rR 3 11 1, vI (cn 1), vI (cn b + cn 1), vI bid, vI ask, vI op] [] M := y_go yk231 5 4 rfl rfl
theorem ao_3 {x3 x4 x5 : AV} (h1 : X 176 0 [rR 3 11 1, vI (cn b), vI (cn 0)] [] M = some (.inl (some (vI bid)), M)) (h2 : X 176 0 [rR 3 11 1, vI (cn b), vI (cn 1)] [] M = some (.inl (some (vI ask)), M)) (h3 : X 182 0 [rR 3 11 1, vI (cn b), vJ] [] M = some (.inl (some (vI en)), M)) (h4 : ¬ bid = cn (-100000) → ∃ v : Int32, 0 < v ∧ X 177 0 [rR 3 11 1, vI (cn b), vI (cn 0), vI bid] [] M = some (.inl (some (vI v)), M)) (h5 : ¬ ask = cn (-100000) → ∃ v : Int32, 0 < v ∧ X 177 0 [rR 3 11 1, vI (cn b), vI (cn 1), vI ask] [] M = some (.inl (some (vI v)), M)) (h6 : en = cn (-100000) → X 183 0 [rR 3 11 1, vI (cn b), vI (cn 1), vJ, vJ] [] M = some (.inl (some (vI (cn 0))), M)) (hb : b < 6) : ∃ x3' x4' x5' : AV, X 231 4 [rR 3 11 1, vI (cn 1), vI (cn b), x3, x4, x5] [] M = X 231 4 [rR 3 11 1, vI (cn 1), vI (cn b + cn 1), x3', x4', x5'] [] M := by
  by_cases he : en = cn (-100000)
  · refine ⟨vI bid, vI ask, vI (cn 1), ?_⟩
    refine y_icF yk231 2 7 10 rfl rfl rfl (by decide) (show cmpI .ge (cn b) (cn (6 : Nat)) = false by rw [cn_ge (n := 6) (by decide) (by omega)]; exact decide_eq_false (by omega)) ?_
    refine y_ifF yk231 1 11 14 rfl rfl rfl (by decide) (by decide) ?_
    refine y_cal yk231 4 20 rfl h1 ?_
    refine y_cal yk231 5 27 rfl h2 ?_
    refine y_cal yk231 4 34 rfl h3 ?_
    refine y_icF yk231 1 36 39 rfl rfl rfl (by decide) (by rw [he]; exact icm_neF) ?_
    refine y_go yk231 3 46 rfl ?_
    refine (ao_1 h4).trans ?_
    refine (ao_2 h5).trans ?_
    refine y_ifF yk231 1 82 85 rfl rfl rfl (by decide) (by decide) ?_
    refine y_cal yk231 4 91 rfl (h6 he) ?_
    refine y_ifF yk231 0 91 94 rfl rfl rfl (by decide) (by decide) ?_
    exact ao_4
  · refine ⟨vI bid, vI ask, vI (cn 0), ?_⟩
    refine y_icF yk231 2 7 10 rfl rfl rfl (by decide) (show cmpI .ge (cn b) (cn (6 : Nat)) = false by rw [cn_ge (n := 6) (by decide) (by omega)]; exact decide_eq_false (by omega)) ?_
    refine y_ifF yk231 1 11 14 rfl rfl rfl (by decide) (by decide) ?_
    refine y_cal yk231 4 20 rfl h1 ?_
    refine y_cal yk231 5 27 rfl h2 ?_
    refine y_cal yk231 4 34 rfl h3 ?_
    refine y_icT yk231 1 36 43 rfl rfl rfl (icm_ne he) ?_
    refine y_go yk231 2 46 rfl ?_
    refine (ao_1 h4).trans ?_
    refine (ao_2 h5).trans ?_
    refine y_ifT yk231 1 82 94 rfl rfl rfl (by decide) ?_
    exact ao_4
theorem lcm_ltF {x y : Int64} (h : ¬ x < y) : cmpI .lt (lg_cmp x y) 0 = false := decide_eq_false fun h2 => h ((lg_cmp_lt x y).mp h2)
theorem lcm_gtF {x y : Int64} (h : ¬ y < x) : cmpI .gt (lg_cmp x y) 0 = false := decide_eq_false fun h2 => h ((lg_cmp_gt x y).mp h2)
theorem lcm_eqF {x y : Int64} (h : ¬ x = y) : cmpI .eq (lg_cmp x y) 0 = false := decide_eq_false fun h2 => h ((lg_cmp_eq x y).mp h2)
theorem lcm_eqT {x y : Int64} (h : x = y) : cmpI .eq (lg_cmp x y) 0 = true := decide_eq_true ((lg_cmp_eq x y).mpr h)
theorem lcm_neF {x y : Int64} (h : x = y) : cmpI .ne (lg_cmp x y) 0 = false := decide_eq_false fun h2 => h2 ((lg_cmp_eq x y).mpr h)
theorem lcm_neT {x y : Int64} (h : ¬ x = y) : cmpI .ne (lg_cmp x y) 0 = true := decide_eq_true fun h2 => h ((lg_cmp_eq x y).mp h2)
theorem ao_mem {m : Nat} {R V k : Int64} {x3 x4 x5 : AV} (hm : m < 4) (h2 : X 188 0 [rR 3 11 1, vI (cn m), vI (cn 2)] [] M = some (.inl (some (vL k)), M)) (h0 : X 188 0 [rR 3 11 1, vI (cn m), vI (cn 0)] [] M = some (.inl (some (vL R)), M)) (h1 : X 188 0 [rR 3 11 1, vI (cn m), vI (cn 1)] [] M = some (.inl (some (vL V)), M)) (k0 : ¬ k < 0) (r0 : ¬ R < 0) (hk : k = 0 ∨ ¬ R - V < k) : X 231 108 [rR 3 11 1, vI (cn 1), vI (cn m), x3, x4, x5] [] M = X 231 108 [rR 3 11 1, vI (cn 1), vI (cn m + cn 1), vL k, vJ, x5] [] M := by
  refine y_icF yk231 2 110 113 rfl rfl rfl (by decide) (show cmpI .ge (cn m) (cn (4 : Nat)) = false by rw [cn_ge (n := 4) (by decide) (by omega)]; exact decide_eq_false (by omega)) ?_
  refine y_ifF yk231 1 114 117 rfl rfl rfl (by decide) (by decide) ?_
  refine y_cal yk231 4 123 rfl h2 ?_
  refine y_ifF yk231 4 127 130 rfl rfl rfl (by decide) (lcm_ltF k0) ?_
  refine y_cal yk231 4 136 rfl h0 ?_
  refine y_ifF yk231 2 138 141 rfl rfl rfl (by decide) (lcm_ltF r0) ?_
  rcases hk with rfl | hk
  · refine y_ifT yk231 3 144 165 rfl rfl rfl (lcm_eqT rfl) ?_
    exact y_go yk231 5 108 rfl rfl
  · by_cases kz : k = 0
    · refine y_ifT yk231 3 144 165 rfl rfl rfl (lcm_eqT kz) ?_
      exact y_go yk231 5 108 rfl rfl
    · refine y_ifF yk231 3 144 147 rfl rfl rfl (by decide) (lcm_eqF kz) ?_
      refine y_cal yk231 5 154 rfl h0 ?_
      refine y_cal yk231 4 160 rfl h1 ?_
      refine y_ifF yk231 2 162 165 rfl rfl rfl (by decide) (lcm_gtF hk) ?_
      exact y_go yk231 5 108 rfl rfl
end AreOrd
