/-! the law's forty turns -/
section Turns
variable {P0 P1 Q : PM} {cl' lg : Nat → Int32} {kp fo : Int32} {ou : Int64} {L e N T D tt f g t : Nat} {xs : Nat → Int32}
theorem ls_ord {k : Nat} {a b c d x y : Int32} {M' : Mem} (hk : k < 6) (O : OrdA k a b c d x y) (htt : tt < 512) (ht : t ≤ 1000) (J : JN lg P0 P1 Q cl' N T D tt f g) (H : LI Q t ou) (A : Aft P0 P1 Q cl' kp fo ou L xs e tt f g k a b c d x y M') : LSX P1 kp fo L xs f g (t + 1) (tt + 1) (e + 1) M' := by
  obtain ⟨Pn, Qn, cln, tn, en, rfl, -, hI, h⟩ := A
  rcases h with ⟨h0, rfl, rfl, rfl, rfl⟩ | ⟨h0, rfl, rfl, rfl, rfl⟩
  · exact ⟨_, _, cln, ou, tt + 1, en, rfl, hI, li_or hk O htt ht J h0 H, by omega, by omega⟩
  · exact ⟨_, _, cln, ou, tn, e + 1, rfl, hI, li_up (by omega) (li_ref J H), by omega, by omega⟩
theorem ls_wk {M : Mem} {t' TT TT' E E' : Nat} (h : LSX P1 kp fo L xs f g t TT E M) (h1 : t ≤ t') (h2 : TT ≤ TT') (h3 : E ≤ E') : LSX P1 kp fo L xs f g t' TT' E' M := by
  obtain ⟨P, Q, cln, ou, tn, en, e1, e2, e3, e4, e5⟩ := h
  exact ⟨P, Q, cln, ou, tn, en, e1, e2, li_up h1 e3, by omega, by omega⟩
/-- what is told is balanced, and the orders are in order -/
theorem ls_ask {M : Mem} {TT E : Nat} (h : LSX P1 kp fo L xs f g t TT E M) : X 230 0 [rR 3 11 1, rR 3 14 1, vJ, vJ, vJ, vJ] [] M = some (.inl (some (vI (cn 1))), M) ∧ X 231 0 [rR 3 11 1, vJ, vJ, vJ, vJ, vJ] [] M = some (.inl (some (vI (cn 1))), M) := by
  obtain ⟨P, Q, cln, ou, tn, en, rfl, ⟨lg, N, T, D, J⟩, H, -⟩ := h
  exact ⟨is_bal J H.1 H.2.1, are_ord J⟩
set_option maxRecDepth 100000 in
theorem tn_end {M : Mem} {TT E i : Nat} {x5 : Int32} (h : LSX P1 kp fo L xs f g t TT E M) : X 234 71 [rR 4 13 1, rR 3 11 1, rR 3 14 1, vI (cn 1), vI (cn i), vI x5, vJ, vJ] [] M = X 234 17 [rR 4 13 1, rR 3 11 1, rR 3 14 1, vI (cn 1), vI (cn i + cn 1), vI x5, vJ, vJ] [] M := by
  obtain ⟨a1, a2⟩ := ls_ask h
  refine y_cal yk234 3 76 rfl a1 ?_
  refine y_ifF yk234 0 76 79 rfl rfl rfl (by decide) (by decide) ?_
  refine y_cal yk234 2 83 rfl a2 ?_
  refine y_ifF yk234 0 83 86 rfl rfl rfl (by decide) (by decide) ?_
  exact y_go yk234 5 17 rfl rfl
set_option maxRecDepth 100000 in
theorem turn_1 {M : Mem} {i : Nat} {x5 : AV} (hL : L ≤ 260) (hi : i < 40) (h : LSX P1 kp fo L xs f g i (2 * i) (2 * i) M) : ∃ (M' : Mem) (x5' : AV), X 234 17 [rR 4 13 1, rR 3 11 1, rR 3 14 1, vI (cn 1), vI (cn i), x5, vJ, vJ] [] M = X 234 17 [rR 4 13 1, rR 3 11 1, rR 3 14 1, vI (cn 1), vI (cn i + cn 1), x5', vJ, vJ] [] M' ∧ LSX P1 kp fo L xs f g (i + 1) (2 * (i + 1)) (2 * (i + 1)) M' := by
  obtain ⟨P, Q, cln, ou, tn, en, rfl, ⟨lg, N, T, D, J⟩, H, h1, h2⟩ := h
  obtain ⟨n, hn, ed⟩ := x_drawn (M := mm P P1 Zp cln (cn (tn : Int)) kp fo ou L xs en) (L := L) (i := i) (b := 2000000) rfl hL (by omega) (by decide) (by decide)
  have pre : ∀ r : Option (Out × Mem), X 234 42 [rR 4 13 1, rR 3 11 1, rR 3 14 1, vI (cn 1), vI (cn i), vI (cn n), vJ, vJ] [vI (cn ((n % 5 : Nat) : Int))] (mm P P1 Zp cln (cn (tn : Int)) kp fo ou L xs en) = r → X 234 17 [rR 4 13 1, rR 3 11 1, rR 3 14 1, vI (cn 1), vI (cn i), x5, vJ, vJ] [] (mm P P1 Zp cln (cn (tn : Int)) kp fo ou L xs en) = r := fun r hr => by
    refine y_icF yk234 2 21 24 rfl rfl rfl (by decide) (show cmpI .ge (cn i) (cn (40 : Nat)) = false by rw [cn_ge (n := 40) (by decide) (by omega)]; exact decide_eq_false (by omega)) ?_
    refine y_ifF yk234 1 25 28 rfl rfl rfl (by decide) (by decide) ?_
    refine y_cal yk234 4 36 rfl ed ?_
    refine y_rm yk234 3 41 42 (cn ((n % 5 : Nat) : Int)) rfl rfl (by decide) rfl (rm_n (b := 5) (by omega) (by decide) (by decide)) ?_
    exact hr
  by_cases h5 : n % 5 = 0
  · obtain ⟨M', e1, hS⟩ := is_later (kp := kp) (fo := fo) (L := L) (xs := xs) (e := en) (x := n / 5) J H (by omega) (by omega) (by omega)
    refine ⟨M', vI (cn n), pre _ ?_, ls_wk hS (Nat.le_refl _) (by omega) (by omega)⟩
    refine y_ifT yk234 0 42 59 rfl rfl rfl (by rw [h5]; decide) ?_
    refine y_dv yk234 3 63 64 (cn ((n / 5 : Nat) : Int)) rfl rfl (by decide) rfl (dv_n (b := 5) (by omega) (by decide) (by decide)) ?_
    refine y_cal yk234 2 68 rfl e1 ?_
    refine y_ifF yk234 0 68 71 rfl rfl rfl (by decide) (by decide) ?_
    exact tn_end hS
  · obtain ⟨k, a, b, c, d, x, y, M', hk, O, e1, A⟩ := is_ordered (kp := kp) (fo := fo) (ou := ou) (L := L) (xs := xs) (e := en) (Y := n / 5) (by omega) (by omega) J
    have hS := ls_ord hk O (by omega) (by omega) J H A
    refine ⟨M', vI (cn n), pre _ ?_, ls_wk hS (Nat.le_refl _) (by omega) (by omega)⟩
    refine y_ifF yk234 0 42 45 rfl rfl rfl (by decide) ?_ ?_
    · refine icm_leF ?_
      rw [show (0 : Int32) = cn 0 from rfl, cnlt (by decide) ⟨by omega, by omega⟩]
      omega
    · refine y_dv yk234 3 49 50 (cn ((n / 5 : Nat) : Int)) rfl rfl (by decide) rfl (dv_n (b := 5) (by omega) (by decide) (by decide)) ?_
      refine y_cal yk234 1 53 rfl e1 ?_
      refine y_ifF yk234 0 53 56 rfl rfl rfl (by decide) (by decide) ?_
      refine y_go yk234 1 71 rfl ?_
      exact tn_end hS
theorem turns (hL : L ≤ 260) : ∀ (d i : Nat), i + d = 40 → ∀ (M : Mem) (x5 : AV), LSX P1 kp fo L xs f g i (2 * i) (2 * i) M → ∃ (M' : Mem) (x5' : AV), X 234 17 [rR 4 13 1, rR 3 11 1, rR 3 14 1, vI (cn 1), vI (cn i), x5, vJ, vJ] [] M = X 234 98 [rR 4 13 1, rR 3 11 1, rR 3 14 1, vI (cn 1), vI (cn 40), x5', vJ, vJ] [] M' ∧ LSX P1 kp fo L xs f g 40 80 80 M' := by
  intro d
  induction d with
  | zero =>
    intro i h1 M x5 h
    have e4 : i = 40 := by omega
    subst e4
    refine ⟨M, x5, ?_, h⟩
    exact y_icT yk234 2 21 98 rfl rfl rfl (by decide) rfl
  | succ d ih =>
    intro i h1 M x5 h
    obtain ⟨M1, y5, e1, hS⟩ := turn_1 (x5 := x5) hL (by omega) h
    obtain ⟨M2, z5, e2, hS2⟩ := ih (i + 1) (by omega) M1 y5 hS
    rw [← cnsucc] at e2
    exact ⟨M2, z5, e1.trans e2, hS2⟩
end Turns
