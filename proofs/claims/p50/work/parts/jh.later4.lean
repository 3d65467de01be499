/-! isLater, whole -/
section LaterF
variable {P0 P1 Q : PM} {cl' lg : Nat → Int32} {kp fo : Int32} {ou : Int64} {L e N T D tt f g t x : Nat} {xs : Nat → Int32}
set_option maxRecDepth 100000 in
theorem la_head (J : JN lg P0 P1 Q cl' N T D tt f g) (hx : x ≤ 400000) : X 229 0 [rR 3 11 1, vI (cn x), rR 3 14 1, vJ, vJ, vJ] [] (mm P0 P1 Zp cl' (cn (tt : Int)) kp fo ou L xs e) = X 229 21 [rR 3 11 1, vI (cn x), rR 3 14 1, vI (cn ((D : Int) - 1 - ((x / 16 % 4 : Nat) : Int))), vI (cn 1), vJ] [vI (cn ((x % 12 : Nat) : Int))] (mm P0 P1 Zp cl' (cn (tt : Int)) kp fo ou L xs e) := by
  rw [← cnsub, ← cnsub]
  refine y_cal yk229 2 4 rfl (an_trades J.1 J.2.1.1) ?_
  refine y_dv yk229 4 9 10 (cn ((x / 16 : Nat) : Int)) rfl rfl (by decide) rfl (dv_n (b := 16) (by omega) (by decide) (by decide)) ?_
  refine y_rm yk229 1 11 12 (cn ((x / 16 % 4 : Nat) : Int)) rfl rfl (by decide) rfl (rm_n (b := 4) (by omega) (by decide) (by decide)) ?_
  refine y_rm yk229 6 20 21 (cn ((x % 12 : Nat) : Int)) rfl rfl (by decide) rfl (rm_n (b := 12) (by omega) (by decide) (by decide)) ?_
  rfl
theorem x12 {k : Nat} (h : x % 12 = k) : (cn ((x % 12 : Nat) : Int)).toInt = (0 : Int) + (k : Nat) := by
  rw [cn_I ⟨by omega, by omega⟩, h]
  omega
set_option maxRecDepth 100000 in
theorem is_later (J : JN lg P0 P1 Q cl' N T D tt f g) (H : LI Q t ou) (hx : x ≤ 400000) (htt : tt ≤ 90) (ht : t ≤ 39) : ∃ M', X 229 0 [rR 3 11 1, vI (cn x), rR 3 14 1, vJ, vJ, vJ] [] (mm P0 P1 Zp cl' (cn (tt : Int)) kp fo ou L xs e) = some (.inl (some (vI (cn 1))), M') ∧ LSX P1 kp fo L xs f g (t + 1) (tt + 2) (e + 2) M' := by
  rw [la_head J hx]
  have hm : x % 12 < 12 := Nat.mod_lt _ (by decide)
  obtain ⟨k, hk⟩ : ∃ k, x % 12 = k := ⟨_, rfl⟩
  have hh : k = 0 ∨ k = 1 ∨ k = 2 ∨ k = 3 ∨ k = 4 ∨ k = 5 ∨ k = 6 ∨ k = 7 ∨ k = 8 ∨ k = 9 ∨ k = 10 ∨ k = 11 := by omega
  rcases hh with rfl | rfl | rfl | rfl | rfl | rfl | rfl | rfl | rfl | rfl | rfl | rfl
  · obtain ⟨M', h1, h2⟩ := la_bust J H htt (Nat.mod_lt _ (by decide))
    exact ⟨M', y_tab yk229 0 21 80 0 rfl rfl (x12 hk) (by decide) rfl rfl h1, h2⟩
  · obtain ⟨M', h1, h2⟩ := la_auc J H hx (by omega) (by omega)
    exact ⟨M', y_tab yk229 0 21 145 1 rfl rfl (x12 hk) (by decide) rfl rfl h1, h2⟩
  · obtain ⟨M', h1, h2⟩ := la_rule J H hx (by omega) (by omega)
    exact ⟨M', y_tab yk229 0 21 183 2 rfl rfl (x12 hk) (by decide) rfl rfl h1, h2⟩
  · obtain ⟨M', h1, h2⟩ := la_pass J H hx (by omega) (by omega)
    exact ⟨M', y_tab yk229 0 21 249 3 rfl rfl (x12 hk) (by decide) rfl rfl h1, h2⟩
  · obtain ⟨M', h1, h2⟩ := la_move J H hx (by omega) (by omega)
    exact ⟨M', y_tab yk229 0 21 274 4 rfl rfl (x12 hk) (by decide) rfl rfl h1, h2⟩
  · obtain ⟨M', h1, h2⟩ := la_pay J H hx htt ht
    exact ⟨M', y_tab yk229 0 21 337 5 rfl rfl (x12 hk) (by decide) rfl rfl h1, h2⟩
  · obtain ⟨M', h1, h2⟩ := la_fail J H hx (by omega) (by omega)
    exact ⟨M', y_tab yk229 0 21 405 6 rfl rfl (x12 hk) (by decide) rfl rfl h1, h2⟩
  · obtain ⟨M', h1, h2⟩ := la_bid J H hx (by omega) (by omega)
    exact ⟨M', y_tab yk229 0 21 445 7 rfl rfl (x12 hk) (by decide) rfl rfl h1, h2⟩
  · obtain ⟨M', h1, h2⟩ := la_close J H hx (by omega) (by omega)
    exact ⟨M', y_tab yk229 0 21 497 8 rfl rfl (x12 hk) (by decide) rfl rfl h1, h2⟩
  · obtain ⟨M', h1, h2⟩ := la_conv J H hx (by omega) (by omega)
    exact ⟨M', y_tab yk229 0 21 521 9 rfl rfl (x12 hk) (by decide) rfl rfl h1, h2⟩
  · obtain ⟨M', h1, h2⟩ := la_day J H hx (by omega) (by omega)
    exact ⟨M', y_tab yk229 0 21 568 10 rfl rfl (x12 hk) (by decide) rfl rfl h1, h2⟩
  · obtain ⟨M', h1, h2⟩ := la_hair J H hx (by omega) (by omega)
    exact ⟨M', y_taD yk229 0 21 592 rfl rfl (Or.inr (by rw [x12 hk]; decide)) rfl h1, h2⟩
end LaterF
