/-! the walk of isBalanced's sums -/
section Bal
variable {M : Mem} {Pf : Nat → Nat → Int32} {c : Nat} {w : Int32} {r1 : AV}
/-- the sum of what the first i accounts hold of a contract -/
def smA (Pf : Nat → Nat → Int32) (c : Nat) : Nat → Int32
  | 0 => cn 0
  | i + 1 => smA Pf c i + Pf i c
theorem bal_in (hp : ∀ i : Nat, i < 9 → X 186 0 [rR 3 11 1, vI (cn i), vI (cn c)] [] M = some (.inl (some (vI (Pf i c))), M)) : ∀ (d i : Nat), i + d = 9 → X 230 19 [rR 3 11 1, r1, vI w, vI (cn c), vI (smA Pf c i), vI (cn i)] [] M = X 230 44 [rR 3 11 1, r1, vI w, vI (cn c), vI (smA Pf c 9), vI (cn 9)] [] M := by
  intro d
  induction d with
  | zero =>
    intro i h1
    have e9 : i = 9 := by omega
    subst e9
    refine y_icT yk230 2 23 44 rfl rfl rfl (by decide) ?_
    rfl
  | succ d ih =>
    intro i h1
    refine y_icF yk230 2 23 26 rfl rfl rfl (by decide) (show cmpI .ge (cn i) (cn (9 : Nat)) = false by rw [cn_ge (n := 9) (by decide) (by omega)]; exact decide_eq_false (by omega)) ?_
    refine y_cal yk230 5 35 rfl (hp i (by omega)) ?_
    refine y_go yk230 4 19 rfl ?_
    have e := ih (i + 1) (by omega)
    rw [← cnsucc] at e
    exact e
theorem bal_out {s1 s2 s3 : Nat} (hp : ∀ i c : Nat, i < 9 → c < 4 → X 186 0 [rR 3 11 1, vI (cn i), vI (cn c)] [] M = some (.inl (some (vI (Pf i c))), M)) (hz : ∀ c : Nat, c < 4 → smA Pf c 9 = cn 0) : ∀ (d c : Nat), c + d = 4 → ∀ x y : AV, ∃ x' y' : AV, X 230 4 [rR 3 11 1, rR s1 s2 s3, vI (cn 1), vI (cn c), x, y] [] M = X 230 61 [rR 3 11 1, rR s1 s2 s3, vI (cn 1), vI (cn 4), x', y'] [] M := by
  intro d
  induction d with
  | zero =>
    intro c h1 x y
    have e9 : c = 4 := by omega
    subst e9
    refine ⟨x, y, ?_⟩
    refine y_icT yk230 2 6 61 rfl rfl rfl (by decide) ?_
    rfl
  | succ d ih =>
    intro c h1 x y
    obtain ⟨x', y', e⟩ := ih (c + 1) (by omega) (vI (cn 0)) (vI (cn 9))
    rw [← cnsucc] at e
    refine ⟨x', y', ?_⟩
    refine y_icF yk230 2 6 9 rfl rfl rfl (by decide) (show cmpI .ge (cn c) (cn (4 : Nat)) = false by rw [cn_ge (n := 4) (by decide) (by omega)]; exact decide_eq_false (by omega)) ?_
    refine y_ifF yk230 1 10 13 rfl rfl rfl (by decide) (by decide) ?_
    refine y_go yk230 4 19 rfl ?_
    refine Eq.trans (bal_in (w := cn 1) (r1 := rR s1 s2 s3) (fun i hi => hp i c hi (by omega)) 9 0 rfl) ?_
    rw [hz c (by omega)]
    refine y_ifF yk230 1 46 49 rfl rfl rfl (by decide) (by decide) ?_
    refine y_go yk230 5 4 rfl ?_
    exact e
end Bal
section Bal2
variable {M : Mem} {Cf : Nat → Int64} {w : Int32} {s1 s2 s3 : Nat}
/-- the sum of what the first i accounts have -/
def smC (Cf : Nat → Int64) (s : Int64) : Nat → Int64
  | 0 => s
  | i + 1 => smC Cf s i + Cf i
theorem bal_cash {s : Int64} (hp : ∀ i : Nat, i < 9 → X 187 0 [rR 3 11 1, vI (cn i)] [] M = some (.inl (some (vL (Cf i))), M)) : ∀ (d i : Nat), i + d = 9 → X 230 70 [rR 3 11 1, rR s1 s2 s3, vI w, vL (smC Cf s i), vJ, vI (cn i)] [] M = X 230 92 [rR 3 11 1, rR s1 s2 s3, vI w, vL (smC Cf s 9), vJ, vI (cn 9)] [] M := by
  intro d
  induction d with
  | zero =>
    intro i h1
    have e9 : i = 9 := by omega
    subst e9
    refine y_icT yk230 2 74 92 rfl rfl rfl (by decide) ?_
    rfl
  | succ d ih =>
    intro i h1
    refine y_icF yk230 2 74 77 rfl rfl rfl (by decide) (show cmpI .ge (cn i) (cn (9 : Nat)) = false by rw [cn_ge (n := 9) (by decide) (by omega)]; exact decide_eq_false (by omega)) ?_
    refine y_cal yk230 4 84 rfl (hp i (by omega)) ?_
    refine y_go yk230 4 70 rfl ?_
    have e := ih (i + 1) (by omega)
    rw [← cnsucc] at e
    exact e
end Bal2
section Bal3
variable {M : Mem} {F G : Nat → Int64} {w : Int32} {s1 s2 s3 : Nat}
/-- the sum of what the first i contracts' auctions and pots have -/
def smPots (F G : Nat → Int64) (s : Int64) : Nat → Int64
  | 0 => s
  | i + 1 => smPots F G s i + (F i + G i)
theorem bal_fund {s : Int64} (hp : ∀ i : Nat, i < 4 → X 188 0 [rR 3 11 1, vI (cn i), vI (cn 3)] [] M = some (.inl (some (vL (F i))), M)) (hq : ∀ i : Nat, i < 4 → X 188 0 [rR 3 11 1, vI (cn i), vI (cn 5)] [] M = some (.inl (some (vL (G i))), M)) : ∀ (d i : Nat), i + d = 4 → X 230 95 [rR 3 11 1, rR s1 s2 s3, vI w, vL (smPots F G s i), vJ, vI (cn i)] [] M = X 230 125 [rR 3 11 1, rR s1 s2 s3, vI w, vL (smPots F G s 4), vJ, vI (cn 4)] [] M := by
  intro d
  induction d with
  | zero =>
    intro i h1
    have e9 : i = 4 := by omega
    subst e9
    refine y_icT yk230 2 98 125 rfl rfl rfl (by decide) ?_
    rfl
  | succ d ih =>
    intro i h1
    refine y_icF yk230 2 98 101 rfl rfl rfl (by decide) (show cmpI .ge (cn i) (cn (4 : Nat)) = false by rw [cn_ge (n := 4) (by decide) (by omega)]; exact decide_eq_false (by omega)) ?_
    refine y_cal yk230 5 109 rfl (hp i (by omega)) ?_
    refine y_cal yk230 4 116 rfl (hq i (by omega)) ?_
    refine y_go yk230 5 95 rfl ?_
    have e := ih (i + 1) (by omega)
    rw [← cnsucc] at e
    exact e
end Bal3
section Bal4
variable {M : Mem} {s1 s3 : Nat} {x y : AV}
theorem bal_beg : X 230 0 [rR 3 11 1, rR s1 14 s3, vJ, vJ, vJ, vJ] [] M = X 230 4 [rR 3 11 1, rR s1 14 s3, vI (cn 1), vI (cn 0), vJ, vJ] [] M := y_go yk230 4 4 rfl rfl
theorem bal_mid {v : Int32} (h : X 189 0 [rR 3 11 1] [] M = some (.inl (some (vI v)), M)) : X 230 61 [rR 3 11 1, rR s1 14 s3, vI (cn 1), vI (cn 4), x, y] [] M = X 230 70 [rR 3 11 1, rR s1 14 s3, vI (cn 1), vL v.toInt64, vJ, vI (cn 0)] [] M := by
  refine y_cal yk230 2 65 rfl h ?_
  exact y_go yk230 4 70 rfl rfl
theorem bal_fst {s : Int64} {a : AV} : X 230 92 [rR 3 11 1, rR s1 14 s3, vI (cn 1), vL s, vJ, a] [] M = X 230 95 [rR 3 11 1, rR s1 14 s3, vI (cn 1), vL s, vJ, vI (cn 0)] [] M := y_go yk230 2 95 rfl rfl
end Bal4
section Bal5
variable {M : Mem} {s1 s3 : Nat}
theorem bal_end {s w : Int64} (hj : 0 < lenA M s1 14 s3) (hw : (M.1 s1).2.1 14 s3 0 = w) (hs : s = 1300 + w) : X 230 125 [rR 3 11 1, rR s1 14 s3, vI (cn 1), vL s, vJ, vI (cn 4)] [] M = some (.inl (some (vI (cn 1))), M) := by
  subst hs
  refine y_ifF yk230 1 126 129 rfl rfl rfl (by decide) (by decide) ?_
  refine y_lld yk230 4 135 136 w rfl rfl rfl ⟨by decide, hj⟩ hw ?_
  refine y_ifF yk230 2 138 141 rfl rfl rfl (by decide) ?_ ?_
  · simp [cmpI, lg_cmp, Int64.lt_irrefl]
  · exact y_ret yk230 3 rfl rfl
end Bal5
