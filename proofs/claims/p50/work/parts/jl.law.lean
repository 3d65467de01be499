/-! the law, whole -/
section LawW
variable {P0 P1 Q : PM} {cl' lg : Nat → Int32} {ou : Int64} {L e N T D n g t : Nat} {xs : Nat → Int32}
/-- while six orders more are told -/
def SX (P1 : PM) (cl' : Nat → Int32) (ou : Int64) (L : Nat) (xs : Nat → Int32) (n g j E : Nat) (M : Mem) : Prop := ∃ (P Q : PM) (cln : Nat → Int32) (tn en : Nat), M = mm P P1 Zp cln (cn (tn : Int)) (cn (n : Int)) (cn (g : Int)) ou L xs en ∧ INV P P1 Q cln tn n g ∧ n ≤ tn ∧ tn ≤ n + j ∧ en ≤ E ∧ ∀ i, i < 7 * n → cln i = cl' i
set_option maxRecDepth 100000 in
theorem six_1 {M : Mem} {j E : Nat} {x4 : Int64} {x6 : Int32} (hL : L ≤ 260) (hj : j < 6) (hn : n ≤ 90) (h : SX P1 cl' ou L xs n g j E M) : ∃ M' : Mem, X 234 172 [rR 4 13 1, rR 3 11 1, rR 3 14 1, vI (cn 1), vL x4, vJ, vI x6, vI (cn j)] [] M = X 234 172 [rR 4 13 1, rR 3 11 1, rR 3 14 1, vI (cn 1), vL x4, vJ, vI x6, vI (cn j + cn 1)] [] M' ∧ SX P1 cl' ou L xs n g (j + 1) (E + 1) M' := by
  obtain ⟨P, Q, cln, tn, en, rfl, ⟨lg, N, T, D, J⟩, h1, h2, h3, h4⟩ := h
  obtain ⟨y, hy, ed⟩ := x_drawn (M := mm P P1 Zp cln (cn (tn : Int)) (cn (n : Int)) (cn (g : Int)) ou L xs en) (L := L) (i := 7 * j + 1) (b := 400000) rfl hL (by omega) (by decide) (by decide)
  have ei : cn ((7 * j + 1 : Nat) : Int) = cn 7 * cn j + cn 1 := by
    rw [cnmul, cnadd]
    exact congrArg cn (by omega)
  rw [ei] at ed
  obtain ⟨k, a, b, c, d, x, z, M', hk, O, e1, A⟩ := is_ordered (kp := cn (n : Int)) (fo := cn (g : Int)) (ou := ou) (L := L) (xs := xs) (e := en) (Y := y) (by omega) (by omega) J
  refine ⟨M', ?_, ?_⟩
  · refine y_icF yk234 2 176 179 rfl rfl rfl (by decide) (show cmpI .ge (cn j) (cn (6 : Nat)) = false by rw [cn_ge (n := 6) (by decide) (by omega)]; exact decide_eq_false (by omega)) ?_
    refine y_ifF yk234 1 180 183 rfl rfl rfl (by decide) (by decide) ?_
    refine y_cal yk234 9 197 rfl ed ?_
    refine y_cal yk234 1 200 rfl e1 ?_
    exact y_go yk234 3 172 rfl rfl
  · obtain ⟨Pn, Qn, cln2, t2, e2, rfl, hc, hI, hh⟩ := A
    rcases hh with ⟨-, rfl, rfl, -⟩ | ⟨-, rfl, rfl, -⟩
    · exact ⟨Pn, Qn, cln2, tn + 1, e2, rfl, hI, by omega, by omega, by omega, fun i hi => (hc i (by omega)).trans (h4 i hi)⟩
    · exact ⟨Pn, Qn, cln2, t2, en + 1, rfl, hI, by omega, by omega, by omega, fun i hi => (hc i (by omega)).trans (h4 i hi)⟩
theorem six {x4 : Int64} {x6 : Int32} (hL : L ≤ 260) (hn : n ≤ 90) : ∀ (d j : Nat), j + d = 6 → ∀ (M : Mem) (E : Nat), SX P1 cl' ou L xs n g j E M → ∃ M' : Mem, X 234 172 [rR 4 13 1, rR 3 11 1, rR 3 14 1, vI (cn 1), vL x4, vJ, vI x6, vI (cn j)] [] M = X 234 207 [rR 4 13 1, rR 3 11 1, rR 3 14 1, vI (cn 1), vL x4, vJ, vI x6, vI (cn 6)] [] M' ∧ SX P1 cl' ou L xs n g 6 (E + d) M' := by
  intro d
  induction d with
  | zero =>
    intro j h1 M E h
    have e4 : j = 6 := by omega
    subst e4
    refine ⟨M, ?_, h⟩
    exact y_icT yk234 2 176 207 rfl rfl rfl (by decide) rfl
  | succ d ih =>
    intro j h1 M E h
    obtain ⟨M1, e1, hS⟩ := six_1 (x4 := x4) (x6 := x6) hL (by omega) hn h
    obtain ⟨M2, e2, hS2⟩ := ih (j + 1) (by omega) M1 (E + 1) hS
    rw [← cnsucc] at e2
    refine ⟨M2, e1.trans e2, ?_⟩
    rw [show E + (d + 1) = E + 1 + d by omega]
    exact hS2
/-- from the six orders on to the end -/
theorem law_tail {M : Mem} {S : Int64} {E : Nat} (hn : n ≤ 90) (J0 : JN lg P0 P1 Q cl' N T D n n g) (hS : ∀ {PB P1B QB : PM} {cB lB : Nat → Int32} {NB TB DB fB gB : Nat}, JN lB PB P1B QB cB NB TB DB n fB gB → (∀ j, j < 7 * n → cB j = cl' j) → ∀ (kp fo : Int32) (ou : Int64) (P1' : PM) (c9 : Nat → Int32) (e : Nat), X 233 0 [rR 3 11 1, vJ, vJ, vJ, vJ] [] (mm PB P1' Zp c9 (cn n) kp fo ou L xs e) = some (.inl (some (vL S)), mm PB P1' Zp c9 (cn n) kp fo ou L xs e)) (h : SX P1 cl' ou L xs n g 6 E M) : ∃ (P9 P19 : PM) (c9 : Nat → Int32) (g9 e9 : Nat), X 234 207 [rR 4 13 1, rR 3 11 1, rR 3 14 1, vI (cn 1), vL S, vJ, vI (cn n), vI (cn 6)] [] M = some (.inl (some (vI (cn 1))), mm P9 P19 Zp c9 (cn n) (cn n) (cn g9) ou L xs e9) ∧ e9 ≤ E := by
  obtain ⟨P, Q1, cln, tn, en, rfl, ⟨lg1, N1, T1, D1, J1⟩, h1, h2, h3, h4⟩ := h
  have c1 := x_many (kp := cn (n : Int)) (fo := cn (g : Int)) (ou := ou) (L := L) (e := en) (xs := xs) ⟨lg1, N1, T1, D1, J1⟩
  obtain ⟨P2, P12, Q2, g2, lg2, N2, T2, D2, f1, J2⟩ := jn_fo (ou := ou) (L := L) (e := en) (xs := xs) J1
  have c2 := x_many (kp := cn (n : Int)) (fo := cn (g2 : Int)) (ou := ou) (L := L) (e := en) (xs := xs) ⟨lg2, N2, T2, D2, J2⟩
  have s2 := hS J2 h4 (cn n) (cn g2) ou P12 cln en
  obtain ⟨P3, P13, Q3, g3, lg3, N3, T3, D3, f2, J3⟩ := jn_fo (ou := ou) (L := L) (e := en) (xs := xs) J2
  have s3 := hS J3 h4 (cn n) (cn g3) ou P13 cln en
  have z0 : cn (n : Int) - cn (n : Int) = cn 0 := by
    rw [cnsub]
    exact congrArg cn (by omega)
  rw [z0] at f2
  refine ⟨P3, P13, cln, g3, en, ?_, h3⟩
  refine y_ifF yk234 1 208 211 rfl rfl rfl (by decide) (by decide) ?_
  refine y_cal yk234 2 215 rfl c1 ?_
  refine y_ifF yk234 5 225 228 rfl rfl rfl (by decide) (by decide) ?_
  refine y_cal yk234 2 232 rfl f1 ?_
  refine y_icF yk234 1 234 237 rfl rfl rfl (by decide) icm_neF ?_
  refine y_cal yk234 2 241 rfl c2 ?_
  refine y_icF yk234 1 243 246 rfl rfl rfl (by decide) icm_neF ?_
  refine y_cal yk234 2 250 rfl s2 ?_
  refine y_ifF yk234 2 253 256 rfl rfl rfl (by decide) (lcm_neF rfl) ?_
  refine y_cal yk234 2 260 rfl f2 ?_
  refine y_ifF yk234 0 260 263 rfl rfl rfl (by decide) (by decide) ?_
  refine y_cal yk234 2 267 rfl s3 ?_
  refine y_ifF yk234 2 270 273 rfl rfl rfl (by decide) (lcm_neF rfl) ?_
  exact y_ret yk234 3 rfl rfl
/-- from the forty turns on to the end -/
theorem law_mid {M : Mem} {x5 : AV} (hL : L ≤ 260) (h : LSX P1 (cn 0) (cn 0) L xs 0 0 40 80 80 M) : ∃ (P9 P19 : PM) (c9 : Nat → Int32) (ou : Int64) (n9 g9 e9 : Nat), X 234 98 [rR 4 13 1, rR 3 11 1, rR 3 14 1, vI (cn 1), vI (cn 40), x5, vJ, vJ] [] M = some (.inl (some (vI (cn 1))), mm P9 P19 Zp c9 (cn n9) (cn n9) (cn g9) ou L xs e9) ∧ e9 ≤ 86 := by
  obtain ⟨P, Q, cln, ou, n, en, rfl, ⟨lg, N, T, D, J⟩, -, h1, h2⟩ := h
  have z00 : cn ((0 : Nat) : Int) = cn 0 := rfl
  obtain ⟨y3, hy3, ed3⟩ := x_drawn (M := mm P P1 Zp cln (cn (n : Int)) (cn ((0 : Nat) : Int)) (cn ((0 : Nat) : Int)) ou L xs en) (L := L) (i := 3) (b := 7000) rfl hL (by decide) (by decide) (by decide)
  obtain ⟨PA, eA, JA⟩ := by_log (ou := ou) (L := L) (e := en) (xs := xs) (x := y3) (by omega) J
  obtain ⟨y4, hy4, ed4⟩ := x_drawn (M := mm P PA Zp cln (cn (n : Int)) (cn ((0 : Nat) : Int)) (cn (n : Int)) ou L xs en) (L := L) (i := 4) (b := 7000) rfl hL (by decide) (by decide) (by decide)
  obtain ⟨PB, eB, JB⟩ := by_log (ou := ou) (L := L) (e := en) (xs := xs) (x := y4) (by omega) JA
  obtain ⟨S, s1, s2⟩ := sum_ref (L := L) (xs := xs) JB
  obtain ⟨lgK, QK, JK⟩ := jn_keep JB
  have c1 := x_many (kp := cn (n : Int)) (fo := cn (n : Int)) (ou := ou) (L := L) (e := en) (xs := xs) ⟨lgK, N, T, D, JK⟩
  have hSX : SX PB cln ou L xs n n 0 en (mm P PB Zp cln (cn (n : Int)) (cn (n : Int)) (cn (n : Int)) ou L xs en) := ⟨P, QK, cln, n, en, rfl, ⟨lgK, N, T, D, JK⟩, Nat.le_refl _, by omega, Nat.le_refl _, fun _ _ => rfl⟩
  obtain ⟨M6, e6, hS6⟩ := six (x4 := S) (x6 := cn (n : Int)) hL (by omega) 6 0 rfl _ _ hSX
  obtain ⟨P9, P19, c9, g9, e9, e7, h9⟩ := law_tail (by omega) JK s2 hS6
  refine ⟨P9, P19, c9, ou, n, g9, e9, ?_, by omega⟩
  rw [← z00]
  refine y_ifF yk234 1 99 102 rfl rfl rfl (by decide) (by decide) ?_
  refine y_cal yk234 5 111 rfl ed3 ?_
  refine y_cal yk234 1 114 rfl eA ?_
  refine y_ifF yk234 0 114 117 rfl rfl rfl (by decide) (by decide) ?_
  refine y_cal yk234 5 126 rfl ed4 ?_
  refine y_cal yk234 1 129 rfl eB ?_
  refine y_ifF yk234 0 129 132 rfl rfl rfl (by decide) (by decide) ?_
  refine y_cal yk234 5 142 rfl (s1 (cn ((0 : Nat) : Int)) (cn (n : Int)) ou PB cln en) ?_
  refine y_cal yk234 3 148 rfl x_keep ?_
  refine y_ifF yk234 2 151 154 rfl rfl rfl (by decide) (by decide) ?_
  refine y_cal yk234 3 160 rfl c1 ?_
  refine y_icF yk234 0 160 163 rfl rfl rfl (by decide) icm_neF ?_
  refine y_go yk234 5 172 rfl ?_
  exact e6.trans e7
set_option maxRecDepth 100000 in
theorem law_X : LawX := by
  intro L xs hL
  have e : entr 234 [vR 4 13 1] = [rR 4 13 1, vJ, vJ, vJ, vJ, vJ, vJ, vJ] := by
    unfold entr
    rw [law_row.2.1]
    rfl
  rw [e, law_start]
  have h0 : LSX (v5_restore e31) (cn 0) (cn 0) L xs 0 0 0 (2 * 0) (2 * 0) (mm (v5_restore e31) (v5_restore e31) Zp (fun _ => 0) (cn 0) (cn 0) (cn 0) 0 L xs 0) := ⟨_, _, _, 0, 0, 0, rfl, inv0, li_start, Nat.le_refl _, Nat.le_refl _⟩
  obtain ⟨M1, x5, e1, hS⟩ := turns hL 40 0 rfl _ vJ h0
  obtain ⟨P9, P19, c9, ou, n9, g9, e9, e2, h9⟩ := law_mid (x5 := x5) hL hS
  refine ⟨_, (y_go yk234 2 17 rfl (e1.trans e2)), ?_, ?_⟩
  · show 313 + e9 ≤ 600074
    omega
  · show SL 313 + 6 * e9 ≤ 7301550
    have h : SL 313 ≤ 20000 := by decide +kernel
    omega
end LawW
