/-! the second exchange is made -/
section Ctor1
variable {B : Nat → PM} {L : Nat}
set_option maxRecDepth 100000 in
theorem al_bk_1 : ∀ z < 6, aE (158 + z) = (1, 1, z + 1, nfK 1) := by decide +kernel
set_option maxRecDepth 100000 in
theorem al_ac_1 : ∀ z < 9, aE (167 + 3 * z) = (1, 0, z + 1, nfK 0) := by decide +kernel
set_option maxRecDepth 100000 in
theorem al_a1_1 : ∀ z < 9, aE (168 + 3 * z) = (1, 13, 2 * z + 1, 4) := by decide +kernel
set_option maxRecDepth 100000 in
theorem al_a2_1 : ∀ z < 9, aE (169 + 3 * z) = (1, 13, 2 * z + 2, 4) := by decide +kernel
set_option maxRecDepth 100000 in
theorem al_dl_1 : ∀ z < 60, aE (194 + z) = (1, 4, z + 1, nfK 4) := by decide +kernel
set_option maxRecDepth 100000 in
theorem al_or_1 : ∀ z < 40, aE (256 + z) = (1, 10, z + 1, nfK 10) := by decide +kernel
set_option maxRecDepth 100000 in
theorem al_mb_1 : ∀ z < 4, aE (307 + z) = (1, 9, z + 1, nfK 9) := by decide +kernel
set_option maxRecDepth 100000 in
theorem al_2_1 : aE 157 = (1, 17, 1, 6) := by decide +kernel
set_option maxRecDepth 100000 in
theorem al_9_1 : aE 164 = (1, 7, 1, nfK 7) := by decide +kernel
set_option maxRecDepth 100000 in
theorem al_10_1 : aE 165 = (1, 16, 1, 9) := by decide +kernel
set_option maxRecDepth 100000 in
theorem al_11_1 : aE 166 = (1, 18, 1, 60) := by decide +kernel
set_option maxRecDepth 100000 in
theorem al_99_1 : aE 254 = (1, 6, 1, nfK 6) := by decide +kernel
set_option maxRecDepth 100000 in
theorem al_100_1 : aE 255 = (1, 20, 1, 40) := by decide +kernel
set_option maxRecDepth 100000 in
theorem al_141_1 : aE 296 = (1, 8, 1, nfK 8) := by decide +kernel
set_option maxRecDepth 100000 in
theorem al_142_1 : aE 297 = (1, 20, 2, 40) := by decide +kernel
set_option maxRecDepth 100000 in
theorem al_143_1 : aE 298 = (1, 13, 19, 40) := by decide +kernel
set_option maxRecDepth 100000 in
theorem al_144_1 : aE 299 = (1, 3, 1, nfK 3) := by decide +kernel
set_option maxRecDepth 100000 in
theorem al_145_1 : aE 300 = (1, 2, 1, nfK 2) := by decide +kernel
set_option maxRecDepth 100000 in
theorem al_146_1 : aE 301 = (1, 19, 1, 4) := by decide +kernel
set_option maxRecDepth 100000 in
theorem al_147_1 : aE 302 = (1, 21, 1, 4) := by decide +kernel
set_option maxRecDepth 100000 in
theorem al_148_1 : aE 303 = (1, 13, 20, 4) := by decide +kernel
set_option maxRecDepth 100000 in
theorem al_149_1 : aE 304 = (1, 13, 21, 4) := by decide +kernel
set_option maxRecDepth 100000 in
theorem al_150_1 : aE 305 = (1, 13, 22, 4) := by decide +kernel
set_option maxRecDepth 100000 in
theorem al_151_1 : aE 306 = (1, 13, 23, 4) := by decide +kernel
set_option maxRecDepth 100000 in
theorem lv_16_1_1 : (aE (ad 1 16 1)).2.2.2 = 9 := by decide +kernel
theorem ln_16_1_1 {M : Mem} : Int32.ofNat (lenA M 1 16 1) = cn 9 := by
  show Int32.ofNat (aE (ad 1 16 1)).2.2.2 = cn 9
  rw [lv_16_1_1]
  rfl
theorem li_16_1_1 {M : Mem} {z : Nat} (h : z < 9) : inb (cn z) (lenA M 1 16 1) := by
  show inb (cn z) (aE (ad 1 16 1)).2.2.2
  rw [lv_16_1_1]
  exact cninb h (by decide)
set_option maxRecDepth 100000 in
theorem lv_17_1_1 : (aE (ad 1 17 1)).2.2.2 = 6 := by decide +kernel
theorem ln_17_1_1 {M : Mem} : Int32.ofNat (lenA M 1 17 1) = cn 6 := by
  show Int32.ofNat (aE (ad 1 17 1)).2.2.2 = cn 6
  rw [lv_17_1_1]
  rfl
theorem li_17_1_1 {M : Mem} {z : Nat} (h : z < 6) : inb (cn z) (lenA M 1 17 1) := by
  show inb (cn z) (aE (ad 1 17 1)).2.2.2
  rw [lv_17_1_1]
  exact cninb h (by decide)
set_option maxRecDepth 100000 in
theorem lv_18_1_1 : (aE (ad 1 18 1)).2.2.2 = 60 := by decide +kernel
theorem ln_18_1_1 {M : Mem} : Int32.ofNat (lenA M 1 18 1) = cn 60 := by
  show Int32.ofNat (aE (ad 1 18 1)).2.2.2 = cn 60
  rw [lv_18_1_1]
  rfl
theorem li_18_1_1 {M : Mem} {z : Nat} (h : z < 60) : inb (cn z) (lenA M 1 18 1) := by
  show inb (cn z) (aE (ad 1 18 1)).2.2.2
  rw [lv_18_1_1]
  exact cninb h (by decide)
set_option maxRecDepth 100000 in
theorem lv_19_1_1 : (aE (ad 1 19 1)).2.2.2 = 4 := by decide +kernel
theorem ln_19_1_1 {M : Mem} : Int32.ofNat (lenA M 1 19 1) = cn 4 := by
  show Int32.ofNat (aE (ad 1 19 1)).2.2.2 = cn 4
  rw [lv_19_1_1]
  rfl
theorem li_19_1_1 {M : Mem} {z : Nat} (h : z < 4) : inb (cn z) (lenA M 1 19 1) := by
  show inb (cn z) (aE (ad 1 19 1)).2.2.2
  rw [lv_19_1_1]
  exact cninb h (by decide)
set_option maxRecDepth 100000 in
theorem lv_20_1_1 : (aE (ad 1 20 1)).2.2.2 = 40 := by decide +kernel
theorem ln_20_1_1 {M : Mem} : Int32.ofNat (lenA M 1 20 1) = cn 40 := by
  show Int32.ofNat (aE (ad 1 20 1)).2.2.2 = cn 40
  rw [lv_20_1_1]
  rfl
theorem li_20_1_1 {M : Mem} {z : Nat} (h : z < 40) : inb (cn z) (lenA M 1 20 1) := by
  show inb (cn z) (aE (ad 1 20 1)).2.2.2
  rw [lv_20_1_1]
  exact cninb h (by decide)
set_option maxRecDepth 100000 in
theorem lv_20_2_1 : (aE (ad 1 20 2)).2.2.2 = 40 := by decide +kernel
theorem ln_20_2_1 {M : Mem} : Int32.ofNat (lenA M 1 20 2) = cn 40 := by
  show Int32.ofNat (aE (ad 1 20 2)).2.2.2 = cn 40
  rw [lv_20_2_1]
  rfl
theorem li_20_2_1 {M : Mem} {z : Nat} (h : z < 40) : inb (cn z) (lenA M 1 20 2) := by
  show inb (cn z) (aE (ad 1 20 2)).2.2.2
  rw [lv_20_2_1]
  exact cninb h (by decide)
theorem x_ac_1 {p : PM} {n a : Nat} (h1 : aE n = (1, 13, 2 * a + 1, 4)) (h2 : aE (n + 1) = (1, 13, 2 * a + 2, 4)) : X 0 0 [rR 1 0 (a + 1), vI (cn a)] [] (cMm 1 p n B L) = some (.inl none, (cMm 1 (aci p a) (n + 2) B L)) := by
  refine y_nar yk0 4 6 8 (K := 13) (m := 4) rfl rfl rfl (fun _ => rfl) (by decide) (by decide) h1 (by omega) rfl rfl cMm_N ?_
  refine y_ptr yk0 0 8 11 13 rfl rfl rfl (by decide) rfl rfl cMm_R ?_
  refine y_nar yk0 2 13 15 (K := 13) (m := 4) rfl rfl rfl (fun _ => rfl) (by decide) (by decide) h2 (by omega) rfl rfl cMm_N ?_
  refine y_ptr yk0 0 15 18 13 rfl rfl rfl (by decide) rfl rfl cMm_R ?_
  refine y_pti yk0 2 20 23 rfl rfl (by decide) rfl cMm_I ?_
  refine y_div yk0 3 26 27 rfl rfl (by decide) rfl ?_
  refine y_pti yk0 0 27 30 rfl rfl (by decide) rfl cMm_I ?_
  exact y_rtv yk0 1 rfl
theorem x_bk_1 {p : PM} {n b : Nat} (hb : b < 6) : X 8 0 [rR 1 1 (b + 1), vI (cn b)] [] (cMm 1 p n B L) = some (.inl none, (cMm 1 (bki p b) n B L)) := by
  have h4 : cmpI .ge (cn b) (cn 4) = decide (4 ≤ b) := by
    show decide (cn (4 : Int) ≤ cn (b : Int)) = _
    rw [decide_eq_decide, ← Int32.not_lt, cnlt ⟨by omega, by omega⟩ (by decide)]
    omega
  unfold bki
  by_cases hb4 : b < 4
  · rw [if_pos hb4, if_pos hb4]
    refine y_pti yk8 4 6 9 rfl rfl (by decide) rfl cMm_I ?_
    refine y_icF yk8 3 12 15 rfl rfl rfl (by decide) (by rw [h4]; exact decide_eq_false (by omega)) ?_
    refine y_go yk8 2 22 rfl ?_
    refine y_pti yk8 0 22 25 rfl rfl (by decide) rfl cMm_I ?_
    refine y_icF yk8 3 28 31 rfl rfl rfl (by decide) (by rw [h4]; exact decide_eq_false (by omega)) ?_
    refine y_go yk8 2 41 rfl ?_
    refine y_pti yk8 0 41 44 rfl rfl (by decide) rfl cMm_I ?_
    exact y_rtv yk8 1 rfl
  · rw [if_neg hb4, if_neg hb4]
    refine y_pti yk8 4 6 9 rfl rfl (by decide) rfl cMm_I ?_
    refine y_icT yk8 3 12 19 rfl rfl rfl (by rw [h4]; exact decide_eq_true (by omega)) ?_
    refine y_pti yk8 3 22 25 rfl rfl (by decide) rfl cMm_I ?_
    refine y_icT yk8 3 28 36 rfl rfl rfl (by rw [h4]; exact decide_eq_true (by omega)) ?_
    refine y_pti yk8 5 41 44 rfl rfl (by decide) rfl cMm_I ?_
    exact y_rtv yk8 1 rfl
theorem x_dl_1 {p : PM} {n k : Nat} : X 51 0 [rR 1 4 (k + 1), rR 1 1 1, rR 1 0 9] [] (cMm 1 p n B L) = some (.inl none, (cMm 1 (dli p k) n B L)) := by
  refine y_ptr yk51 4 6 9 1 rfl rfl rfl (by decide) rfl rfl cMm_R ?_
  refine y_ptr yk51 2 11 14 0 rfl rfl rfl (by decide) rfl rfl cMm_R ?_
  refine y_ptr yk51 2 16 19 0 rfl rfl rfl (by decide) rfl rfl cMm_R ?_
  exact y_rtv yk51 1 rfl
theorem x_or_1 {p : PM} {n i : Nat} : X 140 0 [rR 1 10 (i + 1), rR 1 0 9, rR 1 1 1] [] (cMm 1 p n B L) = some (.inl none, (cMm 1 (ori p i) n B L)) := by
  refine y_ptr yk140 4 6 9 0 rfl rfl rfl (by decide) rfl rfl cMm_R ?_
  refine y_ptr yk140 2 11 14 1 rfl rfl rfl (by decide) rfl rfl cMm_R ?_
  exact y_rtv yk140 1 rfl
theorem x_mb_1 {p : PM} {n m : Nat} : X 137 0 [rR 1 9 (m + 1)] [] (cMm 1 p n B L) = some (.inl none, (cMm 1 p n B L)) := by
  exact y_rtv yk137 3 rfl
theorem x_cb_1 : X 45 0 [rR 1 3 1, rR 1 6 1, rR 1 7 1] [] (cMm 1 e22 300 B L) = some (.inl none, (cMm 1 e23 300 B L)) := by
  refine y_ptr yk45 4 6 9 6 rfl rfl rfl (by decide) rfl rfl cMm_R ?_
  refine y_ptr yk45 2 11 14 7 rfl rfl rfl (by decide) rfl rfl cMm_R ?_
  exact y_rtv yk45 1 rfl
theorem lp_bk_1 : ∀ (d z : Nat), z + d = 6 → X 55 12 [rR 1 5 1, rR 1 17 1, vI (cn z)] [] (cMm 1 (bk z) (158 + z) B L) = X 55 35 [rR 1 5 1, rR 1 17 1, vI (cn 6)] [] (cMm 1 (bk 6) 164 B L) := by
  intro d
  induction d with
  | zero =>
    intro z h1
    have e9 : z = 6 := by omega
    subst e9
    refine y_len yk55 2 14 15 (cn 6) rfl rfl rfl (by decide) ln_17_1_1 ?_
    refine y_icT yk55 0 15 35 rfl rfl rfl (by show cmpI .ge (cn _) (cn ((6 : Nat) : Int)) = _; rw [cn_ge (by omega) (by omega)]; exact decide_eq_true rfl) ?_
    rfl
  | succ d ih =>
    intro z h1
    refine y_len yk55 2 14 15 (cn 6) rfl rfl rfl (by decide) ln_17_1_1 ?_
    refine y_icF yk55 0 15 18 rfl rfl rfl (by decide) (by show cmpI .ge (cn _) (cn ((6 : Nat) : Int)) = _; rw [cn_ge (by omega) (by omega)]; exact decide_eq_false (by omega)) ?_
    refine y_new yk55 2 20 23 (K := 1) rfl rfl (by decide +kernel) (by decide) (al_bk_1 z (by omega)) (by omega) rfl rfl cMm_N ?_
    have e0 := x_bk_1 (B := B) (L := L) (p := pN (bk z) 1 (z + 1)) (n := 158 + z + 1) (b := z) (by omega)
    refine y_ca0 yk55 3 28 rfl e0 ?_
    refine y_aas yk55 0 28 29 1 z rfl rfl (by decide) rfl (by decide) rfl (li_17_1_1 (by omega)) (cntk (by omega)) rfl cMm_R ?_
    refine y_go yk55 2 12 (la' := [rR 1 5 1, rR 1 17 1, vI (cn z + cn 1)]) rfl ?_
    rw [cnsucc]
    have e8 : 158 + z + 1 = 158 + (z + 1) := by omega
    rw [e8]
    exact ih (z + 1) (by omega)
theorem lp_ac_1 : ∀ (d z : Nat), z + d = 9 → X 102 24 [rR 1 7 1, rR 1 1 1, vI (cn z)] [] (cMm 1 (ac z) (167 + 3 * z) B L) = X 102 53 [rR 1 7 1, rR 1 1 1, vI (cn 9)] [] (cMm 1 (ac 9) 194 B L) := by
  intro d
  induction d with
  | zero =>
    intro z h1
    have e9 : z = 9 := by omega
    subst e9
    refine y_gfr yk102 2 26 29 16 1 1 rfl rfl rfl rfl rfl (fc_ac 9 (by decide)) (by decide) ?_
    refine y_len yk102 0 29 30 (cn 9) rfl rfl rfl (by decide) ln_16_1_1 ?_
    refine y_icT yk102 0 30 53 rfl rfl rfl (by show cmpI .ge (cn _) (cn ((9 : Nat) : Int)) = _; rw [cn_ge (by omega) (by omega)]; exact decide_eq_true rfl) ?_
    rfl
  | succ d ih =>
    intro z h1
    refine y_gfr yk102 2 26 29 16 1 1 rfl rfl rfl rfl rfl (fc_ac z (by omega)) (by decide) ?_
    refine y_len yk102 0 29 30 (cn 9) rfl rfl rfl (by decide) ln_16_1_1 ?_
    refine y_icF yk102 0 30 33 rfl rfl rfl (by decide) (by show cmpI .ge (cn _) (cn ((9 : Nat) : Int)) = _; rw [cn_ge (by omega) (by omega)]; exact decide_eq_false (by omega)) ?_
    refine y_gfr yk102 1 34 37 16 1 1 rfl rfl rfl rfl rfl (fc_ac z (by omega)) (by decide) ?_
    refine y_new yk102 1 38 41 (K := 0) rfl rfl (by decide +kernel) (by decide) (al_ac_1 z (by omega)) (by omega) rfl rfl cMm_N ?_
    have a1 := al_a1_1 z (by omega)
    have a2 := al_a2_1 z (by omega)
    rw [show 168 + 3 * z = 167 + 3 * z + 1 by omega] at a1
    rw [show 169 + 3 * z = 167 + 3 * z + 1 + 1 by omega] at a2
    have e0 := x_ac_1 (B := B) (L := L) (p := pN (ac z) 0 (z + 1)) (n := 167 + 3 * z + 1) (a := z) a1 a2
    refine y_ca0 yk102 3 46 rfl e0 ?_
    refine y_aas yk102 0 46 47 0 z rfl rfl (by decide) rfl (by decide) rfl (li_16_1_1 (by omega)) (cntk (by omega)) rfl cMm_R ?_
    refine y_go yk102 2 24 (la' := [rR 1 7 1, rR 1 1 1, vI (cn z + cn 1)]) rfl ?_
    rw [cnsucc]
    have e8 : 167 + 3 * z + 1 + 2 = 167 + 3 * (z + 1) := by omega
    rw [e8]
    exact ih (z + 1) (by omega)
theorem lp_dl_1 : ∀ (d z : Nat), z + d = 60 → X 102 55 [rR 1 7 1, rR 1 1 1, vI (cn z)] [] (cMm 1 (dl z) (194 + z) B L) = X 102 91 [rR 1 7 1, rR 1 1 1, vI (cn 60)] [] (cMm 1 (dl 60) 254 B L) := by
  intro d
  induction d with
  | zero =>
    intro z h1
    have e9 : z = 60 := by omega
    subst e9
    refine y_gfr yk102 2 57 60 18 1 1 rfl rfl rfl rfl rfl (fc_dl 60 (by decide)).1.2 (by decide) ?_
    refine y_len yk102 0 60 61 (cn 60) rfl rfl rfl (by decide) ln_18_1_1 ?_
    refine y_icT yk102 0 61 91 rfl rfl rfl (by show cmpI .ge (cn _) (cn ((60 : Nat) : Int)) = _; rw [cn_ge (by omega) (by omega)]; exact decide_eq_true rfl) ?_
    rfl
  | succ d ih =>
    intro z h1
    refine y_gfr yk102 2 57 60 18 1 1 rfl rfl rfl rfl rfl (fc_dl z (by omega)).1.2 (by decide) ?_
    refine y_len yk102 0 60 61 (cn 60) rfl rfl rfl (by decide) ln_18_1_1 ?_
    refine y_icF yk102 0 61 64 rfl rfl rfl (by decide) (by show cmpI .ge (cn _) (cn ((60 : Nat) : Int)) = _; rw [cn_ge (by omega) (by omega)]; exact decide_eq_false (by omega)) ?_
    refine y_gfr yk102 1 65 68 18 1 1 rfl rfl rfl rfl rfl (fc_dl z (by omega)).1.2 (by decide) ?_
    refine y_new yk102 1 69 72 (K := 4) rfl rfl (by decide +kernel) (by decide) (al_dl_1 z (by omega)) (by omega) rfl rfl cMm_N ?_
    refine y_gfr yk102 3 75 78 16 1 1 rfl rfl rfl rfl rfl (fc_dl z (by omega)).1.1 (by decide) ?_
    refine y_aal yk102 1 80 81 0 9 rfl rfl (by decide) rfl (li_16_1_1 (z := 8) (by decide)) rfl (by show (dl z).2.2 16 1 (cn 8).toNatClampNeg = 9; rw [show (cn 8).toNatClampNeg = 8 by decide]; exact (fc_dl z (by omega)).2) (by decide) ?_
    have e0 := x_dl_1 (B := B) (L := L) (p := pN (dl z) 4 (z + 1)) (n := 194 + z + 1) (k := z)
    refine y_ca0 yk102 1 84 rfl e0 ?_
    refine y_aas yk102 0 84 85 4 z rfl rfl (by decide) rfl (by decide) rfl (li_18_1_1 (by omega)) (cntk (by omega)) rfl cMm_R ?_
    refine y_go yk102 2 55 (la' := [rR 1 7 1, rR 1 1 1, vI (cn z + cn 1)]) rfl ?_
    rw [cnsucc]
    have e8 : 194 + z + 1 = 194 + (z + 1) := by omega
    rw [e8]
    exact ih (z + 1) (by omega)
theorem x_led_1 : X 102 0 [rR 1 7 1, rR 1 1 1, vJ] [] (cMm 1 e4 165 B L) = some (.inl none, (cMm 1 (dl 60) 254 B L)) := by
  refine y_ana yk102 4 7 10 (d := 0) (K := 16) (m := 9) rfl rfl (by decide +kernel) (by decide) rfl (by decide) (by decide) al_10_1 (by omega) rfl rfl cMm_N ?_
  refine y_ptr yk102 0 10 13 16 rfl rfl rfl (by decide) rfl rfl cMm_R ?_
  refine y_ana yk102 2 16 19 (d := 4) (K := 18) (m := 60) rfl rfl (by decide +kernel) (by decide) rfl (by decide) (by decide) al_11_1 (by omega) rfl rfl cMm_N ?_
  refine y_ptr yk102 0 19 22 18 rfl rfl rfl (by decide) rfl rfl cMm_R ?_
  refine y_go yk102 2 24 rfl ?_
  refine Eq.trans (lp_ac_1 9 0 rfl) ?_
  refine y_go yk102 2 55 rfl ?_
  refine Eq.trans (lp_dl_1 60 0 rfl) ?_
  exact y_rtv yk102 1 rfl
theorem x_at8_1 {n : Nat} : X 104 0 [rR 1 7 1, vI (cn 8)] [] (cMm 1 e10 n B L) = some (.inl (some (rR 1 0 9)), (cMm 1 e10 n B L)) := by
  refine y_gfr yk104 1 1 4 16 1 1 rfl rfl rfl rfl rfl fc_e10.1.2 (by decide) ?_
  refine y_ifF yk104 1 5 8 rfl rfl rfl (by decide) (by decide) ?_
  refine y_gfr yk104 2 10 13 16 1 1 rfl rfl rfl rfl rfl fc_e10.1.2 (by decide) ?_
  refine y_len yk104 0 13 14 (cn 9) rfl rfl rfl (by decide) ln_16_1_1 ?_
  refine y_icF yk104 0 14 17 rfl rfl rfl (by decide) (by decide) ?_
  refine y_go yk104 2 23 rfl ?_
  refine y_aal yk104 0 23 24 0 9 rfl rfl (by decide) rfl (li_16_1_1 (z := 8) (by decide)) rfl (by show e10.2.2 16 1 (cn 8).toNatClampNeg = 9; rw [show (cn 8).toNatClampNeg = 8 by decide]; exact fc_e10.2) (by decide) ?_
  exact y_ret yk104 1 rfl rfl
theorem lp_or_1 : ∀ (d z : Nat), z + d = 40 → X 71 20 [rR 1 6 1, rR 1 17 1, rR 1 0 9, vI (cn z)] [] (cMm 1 (orr z) (256 + z) B L) = X 71 52 [rR 1 6 1, rR 1 17 1, rR 1 0 9, vI (cn 40)] [] (cMm 1 (orr 40) 296 B L) := by
  intro d
  induction d with
  | zero =>
    intro z h1
    have e9 : z = 40 := by omega
    subst e9
    refine y_gfr yk71 2 22 25 20 1 1 rfl rfl rfl rfl rfl (fc_or 40 (by decide)).1 (by decide) ?_
    refine y_len yk71 0 25 26 (cn 40) rfl rfl rfl (by decide) ln_20_1_1 ?_
    refine y_icT yk71 0 26 52 rfl rfl rfl (by show cmpI .ge (cn _) (cn ((40 : Nat) : Int)) = _; rw [cn_ge (by omega) (by omega)]; exact decide_eq_true rfl) ?_
    rfl
  | succ d ih =>
    intro z h1
    refine y_gfr yk71 2 22 25 20 1 1 rfl rfl rfl rfl rfl (fc_or z (by omega)).1 (by decide) ?_
    refine y_len yk71 0 25 26 (cn 40) rfl rfl rfl (by decide) ln_20_1_1 ?_
    refine y_icF yk71 0 26 29 rfl rfl rfl (by decide) (by show cmpI .ge (cn _) (cn ((40 : Nat) : Int)) = _; rw [cn_ge (by omega) (by omega)]; exact decide_eq_false (by omega)) ?_
    refine y_gfr yk71 1 30 33 20 1 1 rfl rfl rfl rfl rfl (fc_or z (by omega)).1 (by decide) ?_
    refine y_new yk71 1 34 37 (K := 10) rfl rfl (by decide +kernel) (by decide) (al_or_1 z (by omega)) (by omega) rfl rfl cMm_N ?_
    refine y_aal yk71 4 41 42 1 1 rfl rfl (by decide) rfl (li_17_1_1 (z := 0) (by decide)) rfl (by show (orr z).2.2 17 1 (cn 0).toNatClampNeg = 1; rw [show (cn 0).toNatClampNeg = 0 by decide]; exact (fc_or z (by omega)).2) (by decide) ?_
    have e0 := x_or_1 (B := B) (L := L) (p := pN (orr z) 10 (z + 1)) (n := 256 + z + 1) (i := z)
    refine y_ca0 yk71 1 45 rfl e0 ?_
    refine y_aas yk71 0 45 46 10 z rfl rfl (by decide) rfl (by decide) rfl (li_20_1_1 (by omega)) (cntk (by omega)) rfl cMm_R ?_
    refine y_go yk71 2 20 (la' := [rR 1 6 1, rR 1 17 1, rR 1 0 9, vI (cn z + cn 1)]) rfl ?_
    rw [cnsucc]
    have e8 : 256 + z + 1 = 256 + (z + 1) := by omega
    rw [e8]
    exact ih (z + 1) (by omega)
theorem x_flo_1 : X 71 0 [rR 1 6 1, rR 1 17 1, rR 1 0 9, vJ] [] (cMm 1 e10 255 B L) = some (.inl none, (cMm 1 (orr 40) 296 B L)) := by
  refine y_ana yk71 4 7 10 (d := 10) (K := 20) (m := 40) rfl rfl (by decide +kernel) (by decide) rfl (by decide) (by decide) al_100_1 (by omega) rfl rfl cMm_N ?_
  refine y_ptr yk71 0 10 13 20 rfl rfl rfl (by decide) rfl rfl cMm_R ?_
  refine y_ptr yk71 2 15 18 17 rfl rfl rfl (by decide) rfl rfl cMm_R ?_
  refine y_go yk71 2 20 rfl ?_
  refine Eq.trans (lp_or_1 40 0 rfl) ?_
  exact y_rtv yk71 1 rfl
theorem lp_qu_1 : ∀ (d z : Nat), z + d = 40 → X 119 33 [rR 1 8 1, rR 1 6 1, rR 1 7 1, vI (cn z)] [] (cMm 1 (qu z) (299) B L) = X 119 69 [rR 1 8 1, rR 1 6 1, rR 1 7 1, vI (cn 40)] [] (cMm 1 (qu 40) 299 B L) := by
  intro d
  induction d with
  | zero =>
    intro z h1
    have e9 : z = 40 := by omega
    subst e9
    refine y_gfr yk119 2 35 38 20 2 1 rfl rfl rfl rfl rfl (fc_qu 40 (by decide)).1 (by decide) ?_
    refine y_len yk119 0 38 39 (cn 40) rfl rfl rfl (by decide) ln_20_2_1 ?_
    refine y_icT yk119 0 39 69 rfl rfl rfl (by show cmpI .ge (cn _) (cn ((40 : Nat) : Int)) = _; rw [cn_ge (by omega) (by omega)]; exact decide_eq_true rfl) ?_
    rfl
  | succ d ih =>
    intro z h1
    refine y_gfr yk119 2 35 38 20 2 1 rfl rfl rfl rfl rfl (fc_qu z (by omega)).1 (by decide) ?_
    refine y_len yk119 0 38 39 (cn 40) rfl rfl rfl (by decide) ln_20_2_1 ?_
    refine y_icF yk119 0 39 42 rfl rfl rfl (by decide) (by show cmpI .ge (cn _) (cn ((40 : Nat) : Int)) = _; rw [cn_ge (by omega) (by omega)]; exact decide_eq_false (by omega)) ?_
    refine y_gfr yk119 2 44 47 20 1 1 rfl rfl rfl rfl rfl (fc_qu z (by omega)).2 (by decide) ?_
    refine y_len yk119 0 47 48 (cn 40) rfl rfl rfl (by decide) ln_20_1_1 ?_
    refine y_icF yk119 0 48 51 rfl rfl rfl (by decide) (by show cmpI .ge (cn _) (cn ((40 : Nat) : Int)) = _; rw [cn_ge (by omega) (by omega)]; exact decide_eq_false (by omega)) ?_
    refine y_gfr yk119 1 52 55 20 2 1 rfl rfl rfl rfl rfl (fc_qu z (by omega)).1 (by decide) ?_
    refine y_gfr yk119 2 57 60 20 1 1 rfl rfl rfl rfl rfl (fc_qu z (by omega)).2 (by decide) ?_
    refine y_aal yk119 1 61 62 10 (z + 1) rfl rfl (by decide) rfl (li_20_1_1 (by omega)) rfl (by show (qu z).2.2 20 1 (cn (z : Int)).toNatClampNeg = z + 1; rw [cntk (by omega)]; exact fc_qo z (by omega)) (by omega) ?_
    refine y_aas yk119 0 62 63 10 z rfl rfl (by decide) rfl (by decide) rfl (li_20_2_1 (by omega)) (cntk (by omega)) rfl cMm_R ?_
    refine y_go yk119 2 33 (la' := [rR 1 8 1, rR 1 6 1, rR 1 7 1, vI (cn z + cn 1)]) rfl ?_
    rw [cnsucc]
    exact ih (z + 1) (by omega)
theorem x_mat_1 : X 119 0 [rR 1 8 1, rR 1 6 1, rR 1 7 1, vJ] [] (cMm 1 e15 297 B L) = some (.inl none, (cMm 1 (qu 40) 299 B L)) := by
  refine y_ana yk119 4 7 10 (d := 10) (K := 20) (m := 40) rfl rfl (by decide +kernel) (by decide) rfl (by decide) (by decide) al_142_1 (by omega) rfl rfl cMm_N ?_
  refine y_ptr yk119 0 10 13 20 rfl rfl rfl (by decide) rfl rfl cMm_R ?_
  refine y_nar yk119 2 16 18 (K := 13) (m := 40) rfl rfl rfl (fun _ => rfl) (by decide) (by decide) al_143_1 (by omega) rfl rfl cMm_N ?_
  refine y_ptr yk119 0 18 21 13 rfl rfl rfl (by decide) rfl rfl cMm_R ?_
  refine y_ptr yk119 2 23 26 6 rfl rfl rfl (by decide) rfl rfl cMm_R ?_
  refine y_ptr yk119 2 28 31 7 rfl rfl rfl (by decide) rfl rfl cMm_R ?_
  refine y_go yk119 2 33 rfl ?_
  refine Eq.trans (lp_qu_1 40 0 rfl) ?_
  exact y_rtv yk119 1 rfl
theorem mr_1 : mRows 1 21 1 4 0 (sN (cMm 1 e26 302 B L) 1 21 1) = cMm 1 e27 307 B L := by
  rw [cMm_N, mrs al_148_1, cMm_N, cMm_R, mrs al_149_1, cMm_N, cMm_R, mrs al_150_1, cMm_N, cMm_R, mrs al_151_1, cMm_N, cMm_R]
  rfl
theorem lp_mb_1 : ∀ (d z : Nat), z + d = 4 → X 16 34 [rR 1 2 1, rR 1 6 1, rR 1 7 1, vI (cn z)] [] (cMm 1 (mb z) (307 + z) B L) = X 16 62 [rR 1 2 1, rR 1 6 1, rR 1 7 1, vI (cn 4)] [] (cMm 1 (mb 4) 311 B L) := by
  intro d
  induction d with
  | zero =>
    intro z h1
    have e9 : z = 4 := by omega
    subst e9
    refine y_gfr yk16 2 36 39 19 1 1 rfl rfl rfl rfl rfl (fc_mb 4 (by decide)) (by decide) ?_
    refine y_len yk16 0 39 40 (cn 4) rfl rfl rfl (by decide) ln_19_1_1 ?_
    refine y_icT yk16 0 40 62 rfl rfl rfl (by show cmpI .ge (cn _) (cn ((4 : Nat) : Int)) = _; rw [cn_ge (by omega) (by omega)]; exact decide_eq_true rfl) ?_
    rfl
  | succ d ih =>
    intro z h1
    refine y_gfr yk16 2 36 39 19 1 1 rfl rfl rfl rfl rfl (fc_mb z (by omega)) (by decide) ?_
    refine y_len yk16 0 39 40 (cn 4) rfl rfl rfl (by decide) ln_19_1_1 ?_
    refine y_icF yk16 0 40 43 rfl rfl rfl (by decide) (by show cmpI .ge (cn _) (cn ((4 : Nat) : Int)) = _; rw [cn_ge (by omega) (by omega)]; exact decide_eq_false (by omega)) ?_
    refine y_gfr yk16 1 44 47 19 1 1 rfl rfl rfl rfl rfl (fc_mb z (by omega)) (by decide) ?_
    refine y_new yk16 1 48 51 (K := 9) rfl rfl (by decide +kernel) (by decide) (al_mb_1 z (by omega)) (by omega) rfl rfl cMm_N ?_
    have e0 := x_mb_1 (B := B) (L := L) (p := pN (mb z) 9 (z + 1)) (n := 307 + z + 1) (m := z)
    refine y_ca0 yk16 2 55 rfl e0 ?_
    refine y_aas yk16 0 55 56 9 z rfl rfl (by decide) rfl (by decide) rfl (li_19_1_1 (by omega)) (cntk (by omega)) rfl cMm_R ?_
    refine y_go yk16 2 34 (la' := [rR 1 2 1, rR 1 6 1, rR 1 7 1, vI (cn z + cn 1)]) rfl ?_
    rw [cnsucc]
    have e8 : 307 + z + 1 = 307 + (z + 1) := by omega
    rw [e8]
    exact ih (z + 1) (by omega)
theorem x_cle_1 : X 16 0 [rR 1 2 1, rR 1 6 1, rR 1 7 1, vJ] [] (cMm 1 e25 301 B L) = some (.inl none, (cMm 1 (mb 4) 311 B L)) := by
  refine y_ana yk16 4 6 9 (d := 9) (K := 19) (m := 4) rfl rfl (by decide +kernel) (by decide) rfl (by decide) (by decide) al_146_1 (by omega) rfl rfl cMm_N ?_
  refine y_ptr yk16 0 9 12 19 rfl rfl rfl (by decide) rfl rfl cMm_R ?_
  refine y_mul yk16 3 15 19 rfl rfl (by decide +kernel) (by show 302 ∈ mulA; decide) al_147_1 (by decide) rfl rfl mr_1 ?_
  refine y_ptr yk16 0 19 22 21 rfl rfl rfl (by decide) rfl rfl cMm_R ?_
  refine y_ptr yk16 2 24 27 6 rfl rfl rfl (by decide) rfl rfl cMm_R ?_
  refine y_ptr yk16 2 29 32 7 rfl rfl rfl (by decide) rfl rfl cMm_R ?_
  refine y_go yk16 2 34 rfl ?_
  refine Eq.trans (lp_mb_1 4 0 rfl) ?_
  exact y_rtv yk16 1 rfl
theorem x_exc_1 (hr : g5_restore e31) : X 55 0 [rR 1 5 1, vJ, vJ] [] (cMm 1 e1 157 B L) = some (.inl none, (cMm 1 (v5_restore e31) 311 B L)) := by
  refine y_ana yk55 3 6 9 (d := 1) (K := 17) (m := 6) rfl rfl (by decide +kernel) (by decide) rfl (by decide) (by decide) al_2_1 (by omega) rfl rfl cMm_N ?_
  refine y_go yk55 3 12 rfl ?_
  refine Eq.trans (lp_bk_1 6 0 rfl) ?_
  refine y_new yk55 1 36 39 (K := 7) rfl rfl (by decide +kernel) (by decide) al_9_1 (by omega) rfl rfl cMm_N ?_
  refine y_aal yk55 3 42 43 1 1 rfl rfl (by decide) rfl (li_17_1_1 (z := 0) (by decide)) rfl (by show (bk 6).2.2 17 1 (cn 0).toNatClampNeg = 1; rw [show (cn 0).toNatClampNeg = 0 by decide]; exact fc_bk 6 (by decide) rfl) (by decide) ?_
  have e0 := x_led_1 (B := B) (L := L)
  refine y_ca0 yk55 1 46 rfl e0 ?_
  refine y_ptr yk55 0 46 49 7 rfl rfl rfl (by decide) rfl rfl cMm_R ?_
  refine y_new yk55 1 50 53 (K := 6) rfl rfl (by decide +kernel) (by decide) al_99_1 (by omega) rfl rfl cMm_N ?_
  refine y_gfr yk55 3 56 59 7 1 1 rfl rfl rfl rfl rfl fc_e10.1.1 (by decide) ?_
  have e0 := x_at8_1 (B := B) (L := L) (n := 255)
  refine y_cal yk55 2 64 rfl e0 ?_
  have e0 := x_flo_1 (B := B) (L := L)
  refine y_ca0 yk55 1 67 rfl e0 ?_
  refine y_ptr yk55 0 67 70 6 rfl rfl rfl (by decide) rfl rfl cMm_R ?_
  refine y_new yk55 1 71 74 (K := 8) rfl rfl (by decide +kernel) (by decide) al_141_1 (by omega) rfl rfl cMm_N ?_
  refine y_gfr yk55 2 76 79 6 1 1 rfl rfl rfl rfl rfl fc_e15.1 (by decide) ?_
  refine y_gfr yk55 1 80 83 7 1 1 rfl rfl rfl rfl rfl fc_e15.2 (by decide) ?_
  have e0 := x_mat_1 (B := B) (L := L)
  refine y_ca0 yk55 1 86 rfl e0 ?_
  refine y_ptr yk55 0 86 89 8 rfl rfl rfl (by decide) rfl rfl cMm_R ?_
  refine y_new yk55 1 90 93 (K := 3) rfl rfl (by decide +kernel) (by decide) al_144_1 (by omega) rfl rfl cMm_N ?_
  refine y_gfr yk55 2 95 98 6 1 1 rfl rfl rfl rfl rfl fc_e22.1 (by decide) ?_
  refine y_gfr yk55 1 99 102 7 1 1 rfl rfl rfl rfl rfl fc_e22.2 (by decide) ?_
  have e0 := x_cb_1 (B := B) (L := L)
  refine y_ca0 yk55 1 105 rfl e0 ?_
  refine y_ptr yk55 0 105 108 3 rfl rfl rfl (by decide) rfl rfl cMm_R ?_
  refine y_new yk55 1 109 112 (K := 2) rfl rfl (by decide +kernel) (by decide) al_145_1 (by omega) rfl rfl cMm_N ?_
  refine y_gfr yk55 2 114 117 6 1 1 rfl rfl rfl rfl rfl fc_e25.1 (by decide) ?_
  refine y_gfr yk55 1 118 121 7 1 1 rfl rfl rfl rfl rfl fc_e25.2 (by decide) ?_
  have e0 := x_cle_1 (B := B) (L := L)
  refine y_ca0 yk55 1 124 rfl e0 ?_
  refine y_ptr yk55 0 124 127 2 rfl rfl rfl (by decide) rfl rfl cMm_R ?_
  have e0 := x_hV (M := (cMm 1 e31 311 B L)) okx1 (t5_restore e31 fin_gr hr) cMm_P
  refine y_ca0 yk55 2 131 rfl e0 ?_
  exact y_rtv yk55 1 rfl
end Ctor1
