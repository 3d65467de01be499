/-! methods as functions over one part, by program (wip/p50/lift.py) -/
noncomputable def bv0_restore_2 (kv2 : PM → Nat → Int32 → PM) (p : PM) (v0 : Nat) (v1 : Int32) : PM :=
  if v1 < (cn 4) then (
    if v1 < (cn 4) then (
      let p11 : PM := pI p 13 (2 * v0 - 1) (v1).toNatClampNeg (cn 0)
      let p12 : PM := pI p11 13 (2 * v0) (v1).toNatClampNeg (cn 999)
      kv2 p12 v0 (v1 + (cn 1)))
    else (
      let p6 : PM := pJ p 0 v0 4 (cl 0)
      let p7 : PM := pI p6 0 v0 5 (cn 0)
      let p8 : PM := pI p7 0 v0 6 (cn 0)
      let p9 : PM := pI p8 0 v0 7 (cn 0)
      let p10 : PM := pI p9 0 v0 8 (cn 0)
      p10))
  else (
    let p1 : PM := pJ p 0 v0 4 (cl 0)
    let p2 : PM := pI p1 0 v0 5 (cn 0)
    let p3 : PM := pI p2 0 v0 6 (cn 0)
    let p4 : PM := pI p3 0 v0 7 (cn 0)
    let p5 : PM := pI p4 0 v0 8 (cn 0)
    p5)
noncomputable def v0_restore_2 (n : Nat) : PM → Nat → Int32 → PM := Nat.rec (motive := fun _ => PM → Nat → Int32 → PM) (fun p _ _ => p) (fun _ ih => bv0_restore_2 ih) n
theorem ev0_restore_2 (n : Nat) (p : PM) (v0 : Nat) (v1 : Int32) : v0_restore_2 (n + 1) p v0 v1 = bv0_restore_2 (v0_restore_2 n) p v0 v1 := rfl
noncomputable def bg0_restore_2 (kg2 : PM → Nat → Int32 → Prop) (p : PM) (v0 : Nat) (v1 : Int32) : Prop :=
  ((¬ v0 = 0 ∧ v0 ≤ 9)) ∧ (
  ((¬ (2 * v0 - 1) = 0 ∧ (2 * v0 - 1) ≤ 18)) ∧ (
  if v1 < (cn 4) then (
    ((¬ v0 = 0 ∧ v0 ≤ 9)) ∧ (
    ((¬ (2 * v0) = 0 ∧ (2 * v0) ≤ 18)) ∧ (
    if v1 < (cn 4) then (
      ((¬ v0 = 0 ∧ v0 ≤ 9)) ∧ (
      (((¬ (2 * v0 - 1) = 0 ∧ (2 * v0 - 1) ≤ 18) ∧ inb v1 4)) ∧ (
      let p11 : PM := pI p 13 (2 * v0 - 1) (v1).toNatClampNeg (cn 0)
      ((¬ v0 = 0 ∧ v0 ≤ 9)) ∧ (
      (((¬ (2 * v0) = 0 ∧ (2 * v0) ≤ 18) ∧ inb v1 4)) ∧ (
      let p12 : PM := pI p11 13 (2 * v0) (v1).toNatClampNeg (cn 999)
      kg2 p12 v0 (v1 + (cn 1)))))))
    else (
      (¬ v0 = 0) ∧ (
      let p6 : PM := pJ p 0 v0 4 (cl 0)
      (¬ v0 = 0) ∧ (
      let p7 : PM := pI p6 0 v0 5 (cn 0)
      (¬ v0 = 0) ∧ (
      let p8 : PM := pI p7 0 v0 6 (cn 0)
      (¬ v0 = 0) ∧ (
      let p9 : PM := pI p8 0 v0 7 (cn 0)
      (¬ v0 = 0) ∧ (
      let p10 : PM := pI p9 0 v0 8 (cn 0)
      True)))))))))
  else (
    (¬ v0 = 0) ∧ (
    let p1 : PM := pJ p 0 v0 4 (cl 0)
    (¬ v0 = 0) ∧ (
    let p2 : PM := pI p1 0 v0 5 (cn 0)
    (¬ v0 = 0) ∧ (
    let p3 : PM := pI p2 0 v0 6 (cn 0)
    (¬ v0 = 0) ∧ (
    let p4 : PM := pI p3 0 v0 7 (cn 0)
    (¬ v0 = 0) ∧ (
    let p5 : PM := pI p4 0 v0 8 (cn 0)
    True))))))))
noncomputable def g0_restore_2 (n : Nat) : PM → Nat → Int32 → Prop := Nat.rec (motive := fun _ => PM → Nat → Int32 → Prop) (fun _ _ _ => False) (fun _ ih => bg0_restore_2 ih) n
theorem eg0_restore_2 (n : Nat) (p : PM) (v0 : Nat) (v1 : Int32) : g0_restore_2 (n + 1) p v0 v1 = bg0_restore_2 (g0_restore_2 n) p v0 v1 := rfl
noncomputable def bv0_restore (kv2 : PM → Nat → Int32 → PM) (p : PM) (v0 : Nat) : PM :=
  kv2 p v0 (cn 0)
noncomputable def v0_restore (p : PM) (v0 : Nat) : PM := bv0_restore (v0_restore_2 FU) p v0
noncomputable def bg0_restore (kg2 : PM → Nat → Int32 → Prop) (p : PM) (v0 : Nat) : Prop :=
  kg2 p v0 (cn 0)
noncomputable def g0_restore (p : PM) (v0 : Nat) : Prop := bg0_restore (g0_restore_2 FU) p v0
def R1 : List Row := [(0, .iconst 0, 1, 0, (0, 0, 0, 0, 0, 0)), (1, .istore_n 1, 1, 0, (0, 0, 0, 0, 0, 0)), (2, .iload_n 1, 1, 1, (0, 0, 0, 0, 0, 0)), (3, .aload_n 0, 1, 0, (0, 0, 0, 0, 0, 0)), (4, .getfield 9, 3, 0, (0, 2, 16, 3, 0, 0)), (7, .arraylength, 1, 0, (13, 4, 1, 0, 0, 4)), (8, .if_icmp .ge 34, 3, 0, (0, 0, 0, 0, 0, 0)), (11, .iload_n 1, 1, 0, (0, 0, 0, 0, 0, 0)), (12, .aload_n 0, 1, 0, (0, 0, 0, 0, 0, 0)), (13, .getfield 15, 3, 0, (0, 3, 16, 4, 0, 0)), (16, .arraylength, 1, 0, (13, 4, 1, 0, 0, 4)), (17, .if_icmp .ge 25, 3, 0, (0, 0, 0, 0, 0, 0)), (20, .aload_n 0, 1, 0, (0, 0, 0, 0, 0, 0)), (21, .getfield 9, 3, 0, (0, 2, 16, 3, 0, 0)), (24, .iload_n 1, 1, 0, (0, 0, 0, 0, 0, 0)), (25, .iconst 0, 1, 0, (0, 0, 0, 0, 0, 0)), (26, .iastore, 1, 0, (13, 4, 1, 0, 0, 0)), (27, .aload_n 0, 1, 0, (0, 0, 0, 0, 0, 0)), (28, .getfield 15, 3, 0, (0, 3, 16, 4, 0, 0)), (31, .iload_n 1, 1, 0, (0, 0, 0, 0, 0, 0)), (32, .sipush 999, 3, 0, (0, 0, 0, 0, 0, 999)), (35, .iastore, 1, 0, (13, 4, 1, 0, 0, 0)), (36, .iinc 1 1, 3, 0, (0, 0, 0, 0, 0, 1)), (39, .goto (-37), 3, 0, (0, 0, 0, 0, 0, 0)), (42, .aload_n 0, 1, 0, (0, 0, 0, 0, 0, 0)), (43, .lconst 0, 1, 0, (0, 0, 0, 0, 0, 0)), (44, .putfield 25, 3, 0, (0, 4, 2, 0, 0, 0)), (47, .aload_n 0, 1, 0, (0, 0, 0, 0, 0, 0)), (48, .iconst 0, 1, 0, (0, 0, 0, 0, 0, 0)), (49, .putfield 29, 3, 0, (0, 5, 0, 0, 0, 0)), (52, .aload_n 0, 1, 0, (0, 0, 0, 0, 0, 0)), (53, .iconst 0, 1, 0, (0, 0, 0, 0, 0, 0)), (54, .putfield 32, 3, 0, (0, 6, 0, 0, 0, 0)), (57, .aload_n 0, 1, 0, (0, 0, 0, 0, 0, 0)), (58, .iconst 0, 1, 0, (0, 0, 0, 0, 0, 0)), (59, .putfield 35, 3, 0, (0, 7, 1, 0, 0, 0)), (62, .aload_n 0, 1, 0, (0, 0, 0, 0, 0, 0)), (63, .iconst 0, 1, 0, (0, 0, 0, 0, 0, 0)), (64, .putfield 39, 3, 0, (0, 8, 0, 0, 0, 0)), (67, .return_, 1, 0, (0, 0, 0, 0, 0, 0))]
set_option maxRecDepth 100000 in
theorem rk1 : R1.all (rok 0 1 0 []) = true := by decide +kernel
set_option maxRecDepth 100000 in
theorem tab1 : TabOK 0 1 0 [] R1 := tab_ok (K := K1) rfl rfl (fun h => d1 h) rk1 (by decide +kernel)
set_option maxRecDepth 100000 in
theorem pc1 : cutpc [2] R1 = true := by decide +kernel
set_option maxRecDepth 100000 in
theorem r0_restore_2 (kv2 : PM → Nat → Int32 → PM) (kg2 : PM → Nat → Int32 → Prop) (hk2 : ∀ (p : PM) (v0 : Nat) (v1 : Int32), Gr 0 p → kg2 p v0 v1 → ZJ 0 1 2 [zR 0 v0, zI v1] [] p (hwV (kv2 p v0 v1))) : ∀ (p : PM) (v0 : Nat) (v1 : Int32), Gr 0 p → bg0_restore_2 kg2 p v0 v1 → ZJ 0 1 2 [zR 0 v0, zI v1] [] p (hwV (bv0_restore_2 kv2 p v0 v1)) := by
  intro p v0 v1  hg H
  exact rwV (n := 3000) (q := 2) (la := [zR 0 v0, zI v1]) (sa := []) (ks := [fun la sa s => kv2 s (ar la 0) (ai la 1)]) (gs := [fun la sa s => zsw (tc2 la [(4, 0), (0, 0)] && tc2 sa []) False (kg2 s (ar la 0) (ai la 1))]) (fnil) tab1 pc1 ⟨fun la sa s hg H => zcut H fun H => hk2 s (ar la 0) (ai la 1) hg H, trivial⟩ hg H
theorem t0_restore_2 : ∀ (n : Nat), ∀ (p : PM) (v0 : Nat) (v1 : Int32), Gr 0 p → g0_restore_2 n p v0 v1 → ZJ 0 1 2 [zR 0 v0, zI v1] [] p (hwV (v0_restore_2 n p v0 v1)) := by
  intro n
  induction n with
  | zero =>
    intro p v0 v1  hg H
    exact H.elim
  | succ n ih => exact r0_restore_2 (v0_restore_2 n) (g0_restore_2 n) ih
set_option maxRecDepth 100000 in
theorem r0_restore (kv2 : PM → Nat → Int32 → PM) (kg2 : PM → Nat → Int32 → Prop) (hk2 : ∀ (p : PM) (v0 : Nat) (v1 : Int32), Gr 0 p → kg2 p v0 v1 → ZJ 0 1 2 [zR 0 v0, zI v1] [] p (hwV (kv2 p v0 v1))) : ∀ (p : PM) (v0 : Nat), Gr 0 p → bg0_restore kg2 p v0 → ZJ 0 1 0 [zR 0 v0, zJ] [] p (hwV (bv0_restore kv2 p v0)) := by
  intro p v0  hg H
  exact rwV (n := 3000) (q := 0) (la := [zR 0 v0, zJ]) (sa := []) (ks := [fun la sa s => kv2 s (ar la 0) (ai la 1)]) (gs := [fun la sa s => zsw (tc2 la [(4, 0), (0, 0)] && tc2 sa []) False (kg2 s (ar la 0) (ai la 1))]) (fnil) tab1 pc1 ⟨fun la sa s hg H => zcut H fun H => hk2 s (ar la 0) (ai la 1) hg H, trivial⟩ hg H
theorem t0_restore : ∀ (p : PM) (v0 : Nat), Gr 0 p → g0_restore p v0 → ZJ 0 1 0 [zR 0 v0, zJ] [] p (hwV (v0_restore p v0)) := r0_restore (v0_restore_2 FU) (g0_restore_2 FU) (t0_restore_2 FU)
def CC1 (F : PM → Nat → PM) (G : PM → Nat → Prop) : Cal := (1, [3], 0, false, fun as p => (zJ, (F p (ar as 0))), fun as p => zsw (tc2 as [(4, 0)]) False (G p (ar as 0)))
set_option maxRecDepth 100000 in
theorem okr1 (F : PM → Nat → PM) (G : PM → Nat → Prop) (h : ∀ (p : PM) (v0 : Nat), Gr 0 p → G p v0 → ZJ 0 1 0 [zR 0 v0, zJ] [] p (hwV (F p v0))) : CalOK 0 (CC1 F G) := cal_ok (m := 2) (by unfold mL; rw [mX_1]) (fun as p hg H => h p (ar as 0) hg H)
theorem ok1 : CalOK 0 (CC1 v0_restore g0_restore) := okr1 v0_restore g0_restore t0_restore
noncomputable def bv0_holds (p : PM) (v0 : Nat) (v1 : Int32) : Int32 :=
  if v1 < 0 then (
    (cn 0))
  else (
    if v1 < (cn 4) then (
      (p.1 13 (2 * v0 - 1) (v1).toNatClampNeg))
    else (
      (cn 0)))
noncomputable def v0_holds (p : PM) (v0 : Nat) (v1 : Int32) : Int32 := bv0_holds p v0 v1
noncomputable def bg0_holds (p : PM) (v0 : Nat) (v1 : Int32) : Prop :=
  if v1 < 0 then (
    True)
  else (
    ((¬ v0 = 0 ∧ v0 ≤ 9)) ∧ (
    ((¬ (2 * v0 - 1) = 0 ∧ (2 * v0 - 1) ≤ 18)) ∧ (
    if v1 < (cn 4) then (
      ((¬ v0 = 0 ∧ v0 ≤ 9)) ∧ (
      (((¬ (2 * v0 - 1) = 0 ∧ (2 * v0 - 1) ≤ 18) ∧ inb v1 4)) ∧ (
      True)))
    else (
      True))))
noncomputable def g0_holds (p : PM) (v0 : Nat) (v1 : Int32) : Prop := bg0_holds p v0 v1
def R2 : List Row := [(0, .iload_n 1, 1, 0, (0, 0, 0, 0, 0, 0)), (1, .ifCond .lt 21, 3, 0, (0, 0, 0, 0, 0, 0)), (4, .iload_n 1, 1, 0, (0, 0, 0, 0, 0, 0)), (5, .aload_n 0, 1, 0, (0, 0, 0, 0, 0, 0)), (6, .getfield 9, 3, 0, (0, 2, 16, 3, 0, 0)), (9, .arraylength, 1, 0, (13, 4, 1, 0, 0, 4)), (10, .if_icmp .ge 12, 3, 0, (0, 0, 0, 0, 0, 0)), (13, .aload_n 0, 1, 0, (0, 0, 0, 0, 0, 0)), (14, .getfield 9, 3, 0, (0, 2, 16, 3, 0, 0)), (17, .iload_n 1, 1, 0, (0, 0, 0, 0, 0, 0)), (18, .iaload, 1, 0, (13, 4, 1, 0, 0, 0)), (19, .goto 4, 3, 0, (0, 0, 0, 0, 0, 0)), (22, .iconst 0, 1, 0, (0, 0, 0, 0, 0, 0)), (23, .ireturn, 1, 0, (0, 0, 0, 0, 0, 0))]
set_option maxRecDepth 100000 in
theorem rk2 : R2.all (rok 0 2 1 []) = true := by decide +kernel
set_option maxRecDepth 100000 in
theorem tab2 : TabOK 0 2 1 [] R2 := tab_ok (K := K2) rfl rfl (fun h => d2 h) rk2 (by decide +kernel)
set_option maxRecDepth 100000 in
theorem pc2 : cutpc [] R2 = true := by decide +kernel
set_option maxRecDepth 100000 in
theorem r0_holds (p : PM) (hg : Gr 0 p) : ∀ (v0 : Nat) (v1 : Int32), bg0_holds p v0 v1 → ZJ 0 2 0 [zR 0 v0, zI v1] [] p (hoI p (bv0_holds p v0 v1)) := by
  intro v0 v1  H
  exact roI (n := 3000) (q := 0) (la := [zR 0 v0, zI v1]) (sa := []) (ks := []) (gs := []) (fnil) tab2 pc2 trivial hg H
theorem t0_holds (p : PM) (hg : Gr 0 p) : ∀ (v0 : Nat) (v1 : Int32), g0_holds p v0 v1 → ZJ 0 2 0 [zR 0 v0, zI v1] [] p (hoI p (v0_holds p v0 v1)) := r0_holds p hg
def CC2 (F : PM → Nat → Int32 → Int32) (G : PM → Nat → Int32 → Prop) : Cal := (2, [3, 0], 1, true, fun as p => (zI (F p (ar as 0) (ai as 1)), p), fun as p => zsw (tc2 as [(4, 0), (0, 0)]) False (G p (ar as 0) (ai as 1)))
set_option maxRecDepth 100000 in
theorem okr2 (F : PM → Nat → Int32 → Int32) (G : PM → Nat → Int32 → Prop) (h : ∀ (p : PM) (v0 : Nat) (v1 : Int32), Gr 0 p → G p v0 v1 → ZJ 0 2 0 [zR 0 v0, zI v1] [] p (hoI p (F p v0 v1))) : CalOK 0 (CC2 F G) := cal_ok (m := 2) (by unfold mL; rw [mX_2]) (fun as p hg H => h p (ar as 0) (ai as 1) hg H)
theorem ok2 : CalOK 0 (CC2 v0_holds g0_holds) := okr2 v0_holds g0_holds (fun p v0 v1 hg H => t0_holds p hg v0 v1 H)
noncomputable def bv0_limitOf (p : PM) (v0 : Nat) (v1 : Int32) : Int32 :=
  if v1 < 0 then (
    (cn 0))
  else (
    if v1 < (cn 4) then (
      (p.1 13 (2 * v0) (v1).toNatClampNeg))
    else (
      (cn 0)))
noncomputable def v0_limitOf (p : PM) (v0 : Nat) (v1 : Int32) : Int32 := bv0_limitOf p v0 v1
noncomputable def bg0_limitOf (p : PM) (v0 : Nat) (v1 : Int32) : Prop :=
  if v1 < 0 then (
    True)
  else (
    ((¬ v0 = 0 ∧ v0 ≤ 9)) ∧ (
    ((¬ (2 * v0) = 0 ∧ (2 * v0) ≤ 18)) ∧ (
    if v1 < (cn 4) then (
      ((¬ v0 = 0 ∧ v0 ≤ 9)) ∧ (
      (((¬ (2 * v0) = 0 ∧ (2 * v0) ≤ 18) ∧ inb v1 4)) ∧ (
      True)))
    else (
      True))))
noncomputable def g0_limitOf (p : PM) (v0 : Nat) (v1 : Int32) : Prop := bg0_limitOf p v0 v1
def R3 : List Row := [(0, .iload_n 1, 1, 0, (0, 0, 0, 0, 0, 0)), (1, .ifCond .lt 21, 3, 0, (0, 0, 0, 0, 0, 0)), (4, .iload_n 1, 1, 0, (0, 0, 0, 0, 0, 0)), (5, .aload_n 0, 1, 0, (0, 0, 0, 0, 0, 0)), (6, .getfield 15, 3, 0, (0, 3, 16, 4, 0, 0)), (9, .arraylength, 1, 0, (13, 4, 1, 0, 0, 4)), (10, .if_icmp .ge 12, 3, 0, (0, 0, 0, 0, 0, 0)), (13, .aload_n 0, 1, 0, (0, 0, 0, 0, 0, 0)), (14, .getfield 15, 3, 0, (0, 3, 16, 4, 0, 0)), (17, .iload_n 1, 1, 0, (0, 0, 0, 0, 0, 0)), (18, .iaload, 1, 0, (13, 4, 1, 0, 0, 0)), (19, .goto 4, 3, 0, (0, 0, 0, 0, 0, 0)), (22, .iconst 0, 1, 0, (0, 0, 0, 0, 0, 0)), (23, .ireturn, 1, 0, (0, 0, 0, 0, 0, 0))]
set_option maxRecDepth 100000 in
theorem rk3 : R3.all (rok 0 3 1 []) = true := by decide +kernel
set_option maxRecDepth 100000 in
theorem tab3 : TabOK 0 3 1 [] R3 := tab_ok (K := K3) rfl rfl (fun h => d3 h) rk3 (by decide +kernel)
set_option maxRecDepth 100000 in
theorem pc3 : cutpc [] R3 = true := by decide +kernel
set_option maxRecDepth 100000 in
theorem r0_limitOf (p : PM) (hg : Gr 0 p) : ∀ (v0 : Nat) (v1 : Int32), bg0_limitOf p v0 v1 → ZJ 0 3 0 [zR 0 v0, zI v1] [] p (hoI p (bv0_limitOf p v0 v1)) := by
  intro v0 v1  H
  exact roI (n := 3000) (q := 0) (la := [zR 0 v0, zI v1]) (sa := []) (ks := []) (gs := []) (fnil) tab3 pc3 trivial hg H
theorem t0_limitOf (p : PM) (hg : Gr 0 p) : ∀ (v0 : Nat) (v1 : Int32), g0_limitOf p v0 v1 → ZJ 0 3 0 [zR 0 v0, zI v1] [] p (hoI p (v0_limitOf p v0 v1)) := r0_limitOf p hg
def CC3 (F : PM → Nat → Int32 → Int32) (G : PM → Nat → Int32 → Prop) : Cal := (3, [3, 0], 1, true, fun as p => (zI (F p (ar as 0) (ai as 1)), p), fun as p => zsw (tc2 as [(4, 0), (0, 0)]) False (G p (ar as 0) (ai as 1)))
set_option maxRecDepth 100000 in
theorem okr3 (F : PM → Nat → Int32 → Int32) (G : PM → Nat → Int32 → Prop) (h : ∀ (p : PM) (v0 : Nat) (v1 : Int32), Gr 0 p → G p v0 v1 → ZJ 0 3 0 [zR 0 v0, zI v1] [] p (hoI p (F p v0 v1))) : CalOK 0 (CC3 F G) := cal_ok (m := 2) (by unfold mL; rw [mX_3]) (fun as p hg H => h p (ar as 0) (ai as 1) hg H)
theorem ok3 : CalOK 0 (CC3 v0_limitOf g0_limitOf) := okr3 v0_limitOf g0_limitOf (fun p v0 v1 hg H => t0_limitOf p hg v0 v1 H)
noncomputable def bv0_put (p : PM) (v0 : Nat) (v1 : Int32) (v2 : Int32) : PM :=
  if v1 < 0 then (
    p)
  else (
    if v1 < (cn 4) then (
      let p1 : PM := pI p 13 (2 * v0 - 1) (v1).toNatClampNeg v2
      p1)
    else (
      p))
noncomputable def v0_put (p : PM) (v0 : Nat) (v1 : Int32) (v2 : Int32) : PM := bv0_put p v0 v1 v2
noncomputable def bg0_put (p : PM) (v0 : Nat) (v1 : Int32) (v2 : Int32) : Prop :=
  if v1 < 0 then (
    True)
  else (
    ((¬ v0 = 0 ∧ v0 ≤ 9)) ∧ (
    ((¬ (2 * v0 - 1) = 0 ∧ (2 * v0 - 1) ≤ 18)) ∧ (
    if v1 < (cn 4) then (
      ((¬ v0 = 0 ∧ v0 ≤ 9)) ∧ (
      (((¬ (2 * v0 - 1) = 0 ∧ (2 * v0 - 1) ≤ 18) ∧ inb v1 4)) ∧ (
      let p1 : PM := pI p 13 (2 * v0 - 1) (v1).toNatClampNeg v2
      True)))
    else (
      True))))
noncomputable def g0_put (p : PM) (v0 : Nat) (v1 : Int32) (v2 : Int32) : Prop := bg0_put p v0 v1 v2
def R4 : List Row := [(0, .iload_n 1, 1, 0, (0, 0, 0, 0, 0, 0)), (1, .ifCond .lt 19, 3, 0, (0, 0, 0, 0, 0, 0)), (4, .iload_n 1, 1, 0, (0, 0, 0, 0, 0, 0)), (5, .aload_n 0, 1, 0, (0, 0, 0, 0, 0, 0)), (6, .getfield 9, 3, 0, (0, 2, 16, 3, 0, 0)), (9, .arraylength, 1, 0, (13, 4, 1, 0, 0, 4)), (10, .if_icmp .ge 10, 3, 0, (0, 0, 0, 0, 0, 0)), (13, .aload_n 0, 1, 0, (0, 0, 0, 0, 0, 0)), (14, .getfield 9, 3, 0, (0, 2, 16, 3, 0, 0)), (17, .iload_n 1, 1, 0, (0, 0, 0, 0, 0, 0)), (18, .iload_n 2, 1, 0, (0, 0, 0, 0, 0, 0)), (19, .iastore, 1, 0, (13, 4, 1, 0, 0, 0)), (20, .return_, 1, 0, (0, 0, 0, 0, 0, 0))]
set_option maxRecDepth 100000 in
theorem rk4 : R4.all (rok 0 4 0 []) = true := by decide +kernel
set_option maxRecDepth 100000 in
theorem tab4 : TabOK 0 4 0 [] R4 := tab_ok (K := K4) rfl rfl (fun h => d4 h) rk4 (by decide +kernel)
set_option maxRecDepth 100000 in
theorem pc4 : cutpc [] R4 = true := by decide +kernel
set_option maxRecDepth 100000 in
theorem r0_put : ∀ (p : PM) (v0 : Nat) (v1 : Int32) (v2 : Int32), Gr 0 p → bg0_put p v0 v1 v2 → ZJ 0 4 0 [zR 0 v0, zI v1, zI v2] [] p (hwV (bv0_put p v0 v1 v2)) := by
  intro p v0 v1 v2  hg H
  exact rwV (n := 3000) (q := 0) (la := [zR 0 v0, zI v1, zI v2]) (sa := []) (ks := []) (gs := []) (fnil) tab4 pc4 trivial hg H
theorem t0_put : ∀ (p : PM) (v0 : Nat) (v1 : Int32) (v2 : Int32), Gr 0 p → g0_put p v0 v1 v2 → ZJ 0 4 0 [zR 0 v0, zI v1, zI v2] [] p (hwV (v0_put p v0 v1 v2)) := r0_put
def CC4 (F : PM → Nat → Int32 → Int32 → PM) (G : PM → Nat → Int32 → Int32 → Prop) : Cal := (4, [3, 0, 0], 0, false, fun as p => (zJ, (F p (ar as 0) (ai as 1) (ai as 2))), fun as p => zsw (tc2 as [(4, 0), (0, 0), (0, 0)]) False (G p (ar as 0) (ai as 1) (ai as 2)))
set_option maxRecDepth 100000 in
theorem okr4 (F : PM → Nat → Int32 → Int32 → PM) (G : PM → Nat → Int32 → Int32 → Prop) (h : ∀ (p : PM) (v0 : Nat) (v1 : Int32) (v2 : Int32), Gr 0 p → G p v0 v1 v2 → ZJ 0 4 0 [zR 0 v0, zI v1, zI v2] [] p (hwV (F p v0 v1 v2))) : CalOK 0 (CC4 F G) := cal_ok (m := 3) (by unfold mL; rw [mX_4]) (fun as p hg H => h p (ar as 0) (ai as 1) (ai as 2) hg H)
theorem ok4 : CalOK 0 (CC4 v0_put g0_put) := okr4 v0_put g0_put t0_put
noncomputable def bv0_take (p : PM) (v0 : Nat) (v1 : Nat) (v2 : Int32) (v3 : Int32) : PM :=
  if (p.1 1 v1 1) < 0 then (
    if (p.1 1 v1 2) < 0 then (
      let p1 : PM := pJ p 0 v0 4 ((p.2.1 0 v0 4) - ((v2).toInt64 * (v3).toInt64))
      p1)
    else (
      if (p.1 1 v1 2) < (cn 4) then (
        let p3 : PM := pI p 13 (2 * v0 - 1) ((p.1 1 v1 2)).toNatClampNeg ((p.1 13 (2 * v0 - 1) ((p.1 1 v1 2)).toNatClampNeg) - v2)
        let p4 : PM := pJ p3 0 v0 4 ((p3.2.1 0 v0 4) - ((v2).toInt64 * (v3).toInt64))
        p4)
      else (
        let p2 : PM := pJ p 0 v0 4 ((p.2.1 0 v0 4) - ((v2).toInt64 * (v3).toInt64))
        p2)))
  else (
    if (p.1 1 v1 1) < (cn 4) then (
      let p9 : PM := pI p 13 (2 * v0 - 1) ((p.1 1 v1 1)).toNatClampNeg ((p.1 13 (2 * v0 - 1) ((p.1 1 v1 1)).toNatClampNeg) + v2)
      if (p9.1 1 v1 2) < 0 then (
        let p10 : PM := pJ p9 0 v0 4 ((p9.2.1 0 v0 4) - ((v2).toInt64 * (v3).toInt64))
        p10)
      else (
        if (p9.1 1 v1 2) < (cn 4) then (
          let p12 : PM := pI p9 13 (2 * v0 - 1) ((p9.1 1 v1 2)).toNatClampNeg ((p9.1 13 (2 * v0 - 1) ((p9.1 1 v1 2)).toNatClampNeg) - v2)
          let p13 : PM := pJ p12 0 v0 4 ((p12.2.1 0 v0 4) - ((v2).toInt64 * (v3).toInt64))
          p13)
        else (
          let p11 : PM := pJ p9 0 v0 4 ((p9.2.1 0 v0 4) - ((v2).toInt64 * (v3).toInt64))
          p11)))
    else (
      if (p.1 1 v1 2) < 0 then (
        let p5 : PM := pJ p 0 v0 4 ((p.2.1 0 v0 4) - ((v2).toInt64 * (v3).toInt64))
        p5)
      else (
        if (p.1 1 v1 2) < (cn 4) then (
          let p7 : PM := pI p 13 (2 * v0 - 1) ((p.1 1 v1 2)).toNatClampNeg ((p.1 13 (2 * v0 - 1) ((p.1 1 v1 2)).toNatClampNeg) - v2)
          let p8 : PM := pJ p7 0 v0 4 ((p7.2.1 0 v0 4) - ((v2).toInt64 * (v3).toInt64))
          p8)
        else (
          let p6 : PM := pJ p 0 v0 4 ((p.2.1 0 v0 4) - ((v2).toInt64 * (v3).toInt64))
          p6))))
noncomputable def v0_take (p : PM) (v0 : Nat) (v1 : Nat) (v2 : Int32) (v3 : Int32) : PM := bv0_take p v0 v1 v2 v3
noncomputable def bg0_take (p : PM) (v0 : Nat) (v1 : Nat) (v2 : Int32) (v3 : Int32) : Prop :=
  (¬ v1 = 0) ∧ (
  if (p.1 1 v1 1) < 0 then (
    (¬ v1 = 0) ∧ (
    if (p.1 1 v1 2) < 0 then (
      (¬ v0 = 0) ∧ (
      (¬ v0 = 0) ∧ (
      let p1 : PM := pJ p 0 v0 4 ((p.2.1 0 v0 4) - ((v2).toInt64 * (v3).toInt64))
      True)))
    else (
      (¬ v1 = 0) ∧ (
      ((¬ v0 = 0 ∧ v0 ≤ 9)) ∧ (
      ((¬ (2 * v0 - 1) = 0 ∧ (2 * v0 - 1) ≤ 18)) ∧ (
      if (p.1 1 v1 2) < (cn 4) then (
        ((¬ v0 = 0 ∧ v0 ≤ 9)) ∧ (
        (¬ v1 = 0) ∧ (
        (((¬ (2 * v0 - 1) = 0 ∧ (2 * v0 - 1) ≤ 18) ∧ inb (p.1 1 v1 2) 4)) ∧ (
        (((¬ (2 * v0 - 1) = 0 ∧ (2 * v0 - 1) ≤ 18) ∧ inb (p.1 1 v1 2) 4)) ∧ (
        let p3 : PM := pI p 13 (2 * v0 - 1) ((p.1 1 v1 2)).toNatClampNeg ((p.1 13 (2 * v0 - 1) ((p.1 1 v1 2)).toNatClampNeg) - v2)
        (¬ v0 = 0) ∧ (
        (¬ v0 = 0) ∧ (
        let p4 : PM := pJ p3 0 v0 4 ((p3.2.1 0 v0 4) - ((v2).toInt64 * (v3).toInt64))
        True)))))))
      else (
        (¬ v0 = 0) ∧ (
        (¬ v0 = 0) ∧ (
        let p2 : PM := pJ p 0 v0 4 ((p.2.1 0 v0 4) - ((v2).toInt64 * (v3).toInt64))
        True)))))))))
  else (
    (¬ v1 = 0) ∧ (
    ((¬ v0 = 0 ∧ v0 ≤ 9)) ∧ (
    ((¬ (2 * v0 - 1) = 0 ∧ (2 * v0 - 1) ≤ 18)) ∧ (
    if (p.1 1 v1 1) < (cn 4) then (
      ((¬ v0 = 0 ∧ v0 ≤ 9)) ∧ (
      (¬ v1 = 0) ∧ (
      (((¬ (2 * v0 - 1) = 0 ∧ (2 * v0 - 1) ≤ 18) ∧ inb (p.1 1 v1 1) 4)) ∧ (
      (((¬ (2 * v0 - 1) = 0 ∧ (2 * v0 - 1) ≤ 18) ∧ inb (p.1 1 v1 1) 4)) ∧ (
      let p9 : PM := pI p 13 (2 * v0 - 1) ((p.1 1 v1 1)).toNatClampNeg ((p.1 13 (2 * v0 - 1) ((p.1 1 v1 1)).toNatClampNeg) + v2)
      (¬ v1 = 0) ∧ (
      if (p9.1 1 v1 2) < 0 then (
        (¬ v0 = 0) ∧ (
        (¬ v0 = 0) ∧ (
        let p10 : PM := pJ p9 0 v0 4 ((p9.2.1 0 v0 4) - ((v2).toInt64 * (v3).toInt64))
        True)))
      else (
        (¬ v1 = 0) ∧ (
        ((¬ v0 = 0 ∧ v0 ≤ 9)) ∧ (
        ((¬ (2 * v0 - 1) = 0 ∧ (2 * v0 - 1) ≤ 18)) ∧ (
        if (p9.1 1 v1 2) < (cn 4) then (
          ((¬ v0 = 0 ∧ v0 ≤ 9)) ∧ (
          (¬ v1 = 0) ∧ (
          (((¬ (2 * v0 - 1) = 0 ∧ (2 * v0 - 1) ≤ 18) ∧ inb (p9.1 1 v1 2) 4)) ∧ (
          (((¬ (2 * v0 - 1) = 0 ∧ (2 * v0 - 1) ≤ 18) ∧ inb (p9.1 1 v1 2) 4)) ∧ (
          let p12 : PM := pI p9 13 (2 * v0 - 1) ((p9.1 1 v1 2)).toNatClampNeg ((p9.1 13 (2 * v0 - 1) ((p9.1 1 v1 2)).toNatClampNeg) - v2)
          (¬ v0 = 0) ∧ (
          (¬ v0 = 0) ∧ (
          let p13 : PM := pJ p12 0 v0 4 ((p12.2.1 0 v0 4) - ((v2).toInt64 * (v3).toInt64))
          True)))))))
        else (
          (¬ v0 = 0) ∧ (
          (¬ v0 = 0) ∧ (
          let p11 : PM := pJ p9 0 v0 4 ((p9.2.1 0 v0 4) - ((v2).toInt64 * (v3).toInt64))
          True)))))))))))))
    else (
      (¬ v1 = 0) ∧ (
      if (p.1 1 v1 2) < 0 then (
        (¬ v0 = 0) ∧ (
        (¬ v0 = 0) ∧ (
        let p5 : PM := pJ p 0 v0 4 ((p.2.1 0 v0 4) - ((v2).toInt64 * (v3).toInt64))
        True)))
      else (
        (¬ v1 = 0) ∧ (
        ((¬ v0 = 0 ∧ v0 ≤ 9)) ∧ (
        ((¬ (2 * v0 - 1) = 0 ∧ (2 * v0 - 1) ≤ 18)) ∧ (
        if (p.1 1 v1 2) < (cn 4) then (
          ((¬ v0 = 0 ∧ v0 ≤ 9)) ∧ (
          (¬ v1 = 0) ∧ (
          (((¬ (2 * v0 - 1) = 0 ∧ (2 * v0 - 1) ≤ 18) ∧ inb (p.1 1 v1 2) 4)) ∧ (
          (((¬ (2 * v0 - 1) = 0 ∧ (2 * v0 - 1) ≤ 18) ∧ inb (p.1 1 v1 2) 4)) ∧ (
          let p7 : PM := pI p 13 (2 * v0 - 1) ((p.1 1 v1 2)).toNatClampNeg ((p.1 13 (2 * v0 - 1) ((p.1 1 v1 2)).toNatClampNeg) - v2)
          (¬ v0 = 0) ∧ (
          (¬ v0 = 0) ∧ (
          let p8 : PM := pJ p7 0 v0 4 ((p7.2.1 0 v0 4) - ((v2).toInt64 * (v3).toInt64))
          True)))))))
        else (
          (¬ v0 = 0) ∧ (
          (¬ v0 = 0) ∧ (
          let p6 : PM := pJ p 0 v0 4 ((p.2.1 0 v0 4) - ((v2).toInt64 * (v3).toInt64))
          True))))))))))))))
noncomputable def g0_take (p : PM) (v0 : Nat) (v1 : Nat) (v2 : Int32) (v3 : Int32) : Prop := bg0_take p v0 v1 v2 v3
def R5 : List Row := [(0, .aload_n 1, 1, 0, (0, 0, 0, 0, 0, 0)), (1, .getfield 42, 3, 0, (1, 1, 0, 0, 0, 0)), (4, .ifCond .lt 28, 3, 0, (0, 0, 0, 0, 0, 0)), (7, .aload_n 1, 1, 0, (0, 0, 0, 0, 0, 0)), (8, .getfield 42, 3, 0, (1, 1, 0, 0, 0, 0)), (11, .aload_n 0, 1, 0, (0, 0, 0, 0, 0, 0)), (12, .getfield 9, 3, 0, (0, 2, 16, 3, 0, 0)), (15, .arraylength, 1, 0, (13, 4, 1, 0, 0, 4)), (16, .if_icmp .ge 16, 3, 0, (0, 0, 0, 0, 0, 0)), (19, .aload_n 0, 1, 0, (0, 0, 0, 0, 0, 0)), (20, .getfield 9, 3, 0, (0, 2, 16, 3, 0, 0)), (23, .aload_n 1, 1, 0, (0, 0, 0, 0, 0, 0)), (24, .getfield 42, 3, 0, (1, 1, 0, 0, 0, 0)), (27, .dup2, 1, 0, (0, 0, 0, 0, 0, 0)), (28, .iaload, 1, 0, (13, 4, 1, 0, 0, 0)), (29, .iload_n 2, 1, 0, (0, 0, 0, 0, 0, 0)), (30, .iadd, 1, 0, (0, 0, 0, 0, 0, 0)), (31, .iastore, 1, 0, (13, 4, 1, 0, 0, 0)), (32, .aload_n 1, 1, 0, (0, 0, 0, 0, 0, 0)), (33, .getfield 47, 3, 0, (1, 2, 0, 0, 0, 0)), (36, .ifCond .lt 28, 3, 0, (0, 0, 0, 0, 0, 0)), (39, .aload_n 1, 1, 0, (0, 0, 0, 0, 0, 0)), (40, .getfield 47, 3, 0, (1, 2, 0, 0, 0, 0)), (43, .aload_n 0, 1, 0, (0, 0, 0, 0, 0, 0)), (44, .getfield 9, 3, 0, (0, 2, 16, 3, 0, 0)), (47, .arraylength, 1, 0, (13, 4, 1, 0, 0, 4)), (48, .if_icmp .ge 16, 3, 0, (0, 0, 0, 0, 0, 0)), (51, .aload_n 0, 1, 0, (0, 0, 0, 0, 0, 0)), (52, .getfield 9, 3, 0, (0, 2, 16, 3, 0, 0)), (55, .aload_n 1, 1, 0, (0, 0, 0, 0, 0, 0)), (56, .getfield 47, 3, 0, (1, 2, 0, 0, 0, 0)), (59, .dup2, 1, 0, (0, 0, 0, 0, 0, 0)), (60, .iaload, 1, 0, (13, 4, 1, 0, 0, 0)), (61, .iload_n 2, 1, 0, (0, 0, 0, 0, 0, 0)), (62, .isub, 1, 0, (0, 0, 0, 0, 0, 0)), (63, .iastore, 1, 0, (13, 4, 1, 0, 0, 0)), (64, .aload_n 0, 1, 0, (0, 0, 0, 0, 0, 0)), (65, .dup, 1, 0, (0, 0, 0, 0, 0, 0)), (66, .getfield 25, 3, 0, (0, 4, 2, 0, 0, 0)), (69, .iload_n 2, 1, 0, (0, 0, 0, 0, 0, 0)), (70, .i2l, 1, 0, (0, 0, 0, 0, 0, 0)), (71, .iload_n 3, 1, 0, (0, 0, 0, 0, 0, 0)), (72, .i2l, 1, 0, (0, 0, 0, 0, 0, 0)), (73, .lmul, 1, 0, (0, 0, 0, 0, 0, 0)), (74, .lsub, 1, 0, (0, 0, 0, 0, 0, 0)), (75, .putfield 25, 3, 0, (0, 4, 2, 0, 0, 0)), (78, .return_, 1, 0, (0, 0, 0, 0, 0, 0))]
set_option maxRecDepth 100000 in
theorem rk5 : R5.all (rok 0 5 0 []) = true := by decide +kernel
set_option maxRecDepth 100000 in
theorem tab5 : TabOK 0 5 0 [] R5 := tab_ok (K := K5) rfl rfl (fun h => d5 h) rk5 (by decide +kernel)
set_option maxRecDepth 100000 in
theorem pc5 : cutpc [] R5 = true := by decide +kernel
set_option maxRecDepth 100000 in
theorem r0_take : ∀ (p : PM) (v0 : Nat) (v1 : Nat) (v2 : Int32) (v3 : Int32), Gr 0 p → bg0_take p v0 v1 v2 v3 → ZJ 0 5 0 [zR 0 v0, zR 1 v1, zI v2, zI v3] [] p (hwV (bv0_take p v0 v1 v2 v3)) := by
  intro p v0 v1 v2 v3  hg H
  exact rwV (n := 3000) (q := 0) (la := [zR 0 v0, zR 1 v1, zI v2, zI v3]) (sa := []) (ks := []) (gs := []) (fnil) tab5 pc5 trivial hg H
theorem t0_take : ∀ (p : PM) (v0 : Nat) (v1 : Nat) (v2 : Int32) (v3 : Int32), Gr 0 p → g0_take p v0 v1 v2 v3 → ZJ 0 5 0 [zR 0 v0, zR 1 v1, zI v2, zI v3] [] p (hwV (v0_take p v0 v1 v2 v3)) := r0_take
def CC5 (F : PM → Nat → Nat → Int32 → Int32 → PM) (G : PM → Nat → Nat → Int32 → Int32 → Prop) : Cal := (5, [3, 4, 0, 0], 0, false, fun as p => (zJ, (F p (ar as 0) (ar as 1) (ai as 2) (ai as 3))), fun as p => zsw (tc2 as [(4, 0), (5, 0), (0, 0), (0, 0)]) False (G p (ar as 0) (ar as 1) (ai as 2) (ai as 3)))
set_option maxRecDepth 100000 in
theorem okr5 (F : PM → Nat → Nat → Int32 → Int32 → PM) (G : PM → Nat → Nat → Int32 → Int32 → Prop) (h : ∀ (p : PM) (v0 : Nat) (v1 : Nat) (v2 : Int32) (v3 : Int32), Gr 0 p → G p v0 v1 v2 v3 → ZJ 0 5 0 [zR 0 v0, zR 1 v1, zI v2, zI v3] [] p (hwV (F p v0 v1 v2 v3))) : CalOK 0 (CC5 F G) := cal_ok (m := 4) (by unfold mL; rw [mX_5]) (fun as p hg H => h p (ar as 0) (ar as 1) (ai as 2) (ai as 3) hg H)
theorem ok5 : CalOK 0 (CC5 v0_take g0_take) := okr5 v0_take g0_take t0_take
noncomputable def bv0_changeProtection (p : PM) (v0 : Nat) (v1 : Int32) : Int32 × PM :=
  let p1 : PM := pI p 0 v0 5 v1
  ((p.1 0 v0 5), p1)
noncomputable def v0_changeProtection (p : PM) (v0 : Nat) (v1 : Int32) : Int32 × PM := bv0_changeProtection p v0 v1
noncomputable def bg0_changeProtection (p : PM) (v0 : Nat) (v1 : Int32) : Prop :=
  (¬ v0 = 0) ∧ (
  (¬ v0 = 0) ∧ (
  let p1 : PM := pI p 0 v0 5 v1
  True))
noncomputable def g0_changeProtection (p : PM) (v0 : Nat) (v1 : Int32) : Prop := bg0_changeProtection p v0 v1
def R6 : List Row := [(0, .aload_n 0, 1, 0, (0, 0, 0, 0, 0, 0)), (1, .getfield 29, 3, 0, (0, 5, 0, 0, 0, 0)), (4, .istore_n 2, 1, 0, (0, 0, 0, 0, 0, 0)), (5, .aload_n 0, 1, 0, (0, 0, 0, 0, 0, 0)), (6, .iload_n 1, 1, 0, (0, 0, 0, 0, 0, 0)), (7, .putfield 29, 3, 0, (0, 5, 0, 0, 0, 0)), (10, .iload_n 2, 1, 0, (0, 0, 0, 0, 0, 0)), (11, .ireturn, 1, 0, (0, 0, 0, 0, 0, 0))]
set_option maxRecDepth 100000 in
theorem rk6 : R6.all (rok 0 6 1 []) = true := by decide +kernel
set_option maxRecDepth 100000 in
theorem tab6 : TabOK 0 6 1 [] R6 := tab_ok (K := K6) rfl rfl (fun h => d6 h) rk6 (by decide +kernel)
set_option maxRecDepth 100000 in
theorem pc6 : cutpc [] R6 = true := by decide +kernel
set_option maxRecDepth 100000 in
theorem r0_changeProtection : ∀ (p : PM) (v0 : Nat) (v1 : Int32), Gr 0 p → bg0_changeProtection p v0 v1 → ZJ 0 6 0 [zR 0 v0, zI v1, zJ] [] p (hwI (bv0_changeProtection p v0 v1)) := by
  intro p v0 v1  hg H
  exact rwI (n := 3000) (q := 0) (la := [zR 0 v0, zI v1, zJ]) (sa := []) (ks := []) (gs := []) (fnil) tab6 pc6 trivial hg H
theorem t0_changeProtection : ∀ (p : PM) (v0 : Nat) (v1 : Int32), Gr 0 p → g0_changeProtection p v0 v1 → ZJ 0 6 0 [zR 0 v0, zI v1, zJ] [] p (hwI (v0_changeProtection p v0 v1)) := r0_changeProtection
def CC6 (F : PM → Nat → Int32 → Int32 × PM) (G : PM → Nat → Int32 → Prop) : Cal := (6, [3, 0], 1, false, fun as p => (zI (F p (ar as 0) (ai as 1)).1, (F p (ar as 0) (ai as 1)).2), fun as p => zsw (tc2 as [(4, 0), (0, 0)]) False (G p (ar as 0) (ai as 1)))
set_option maxRecDepth 100000 in
theorem okr6 (F : PM → Nat → Int32 → Int32 × PM) (G : PM → Nat → Int32 → Prop) (h : ∀ (p : PM) (v0 : Nat) (v1 : Int32), Gr 0 p → G p v0 v1 → ZJ 0 6 0 [zR 0 v0, zI v1, zJ] [] p (hwI (F p v0 v1))) : CalOK 0 (CC6 F G) := cal_ok (m := 3) (by unfold mL; rw [mX_6]) (fun as p hg H => h p (ar as 0) (ai as 1) hg H)
theorem ok6 : CalOK 0 (CC6 v0_changeProtection g0_changeProtection) := okr6 v0_changeProtection g0_changeProtection t0_changeProtection
noncomputable def bv0_changeLimit (F3 : PM → Nat → Int32 → Int32) (p : PM) (v0 : Nat) (v1 : Int32) (v2 : Int32) : Int32 × PM :=
  if v1 < 0 then (
    ((F3 p v0 v1), p))
  else (
    if v1 < (cn 4) then (
      let p1 : PM := pI p 13 (2 * v0) (v1).toNatClampNeg v2
      ((F3 p v0 v1), p1))
    else (
      ((F3 p v0 v1), p)))
noncomputable def v0_changeLimit (p : PM) (v0 : Nat) (v1 : Int32) (v2 : Int32) : Int32 × PM := bv0_changeLimit v0_limitOf p v0 v1 v2
noncomputable def bg0_changeLimit (F3 : PM → Nat → Int32 → Int32) (G3 : PM → Nat → Int32 → Prop) (p : PM) (v0 : Nat) (v1 : Int32) (v2 : Int32) : Prop :=
  (¬ v0 = 0) ∧ (
  (G3 p v0 v1) ∧ (
  if v1 < 0 then (
    True)
  else (
    ((¬ v0 = 0 ∧ v0 ≤ 9)) ∧ (
    ((¬ (2 * v0) = 0 ∧ (2 * v0) ≤ 18)) ∧ (
    if v1 < (cn 4) then (
      ((¬ v0 = 0 ∧ v0 ≤ 9)) ∧ (
      (((¬ (2 * v0) = 0 ∧ (2 * v0) ≤ 18) ∧ inb v1 4)) ∧ (
      let p1 : PM := pI p 13 (2 * v0) (v1).toNatClampNeg v2
      True)))
    else (
      True))))))
noncomputable def g0_changeLimit (p : PM) (v0 : Nat) (v1 : Int32) (v2 : Int32) : Prop := bg0_changeLimit v0_limitOf g0_limitOf p v0 v1 v2
def R7 : List Row := [(0, .aload_n 0, 1, 0, (0, 0, 0, 0, 0, 0)), (1, .iload_n 1, 1, 0, (0, 0, 0, 0, 0, 0)), (2, .invokevirtual 50, 3, 0, (0, 2, 0, 0, 2, 0)), (5, .istore_n 3, 1, 0, (0, 0, 0, 0, 0, 0)), (6, .iload_n 1, 1, 0, (0, 0, 0, 0, 0, 0)), (7, .ifCond .lt 19, 3, 0, (0, 0, 0, 0, 0, 0)), (10, .iload_n 1, 1, 0, (0, 0, 0, 0, 0, 0)), (11, .aload_n 0, 1, 0, (0, 0, 0, 0, 0, 0)), (12, .getfield 15, 3, 0, (0, 3, 16, 4, 0, 0)), (15, .arraylength, 1, 0, (13, 4, 1, 0, 0, 4)), (16, .if_icmp .ge 10, 3, 0, (0, 0, 0, 0, 0, 0)), (19, .aload_n 0, 1, 0, (0, 0, 0, 0, 0, 0)), (20, .getfield 15, 3, 0, (0, 3, 16, 4, 0, 0)), (23, .iload_n 1, 1, 0, (0, 0, 0, 0, 0, 0)), (24, .iload_n 2, 1, 0, (0, 0, 0, 0, 0, 0)), (25, .iastore, 1, 0, (13, 4, 1, 0, 0, 0)), (26, .iload_n 3, 1, 0, (0, 0, 0, 0, 0, 0)), (27, .ireturn, 1, 0, (0, 0, 0, 0, 0, 0))]
set_option maxRecDepth 100000 in
theorem rk7 : R7.all (rok 0 7 1 [(3, [3, 0])]) = true := by decide +kernel
set_option maxRecDepth 100000 in
theorem tab7 {F3 : PM → Nat → Int32 → Int32} {G3 : PM → Nat → Int32 → Prop} : TabOK 0 7 1 [CC3 F3 G3] R7 := tab_ok (K := K7) rfl rfl (fun h => d7 h) rk7 (by decide +kernel)
set_option maxRecDepth 100000 in
theorem pc7 : cutpc [] R7 = true := by decide +kernel
set_option maxRecDepth 100000 in
theorem r0_changeLimit (F3 : PM → Nat → Int32 → Int32) (G3 : PM → Nat → Int32 → Prop) (o3 : CalOK 0 (CC3 F3 G3)) : ∀ (p : PM) (v0 : Nat) (v1 : Int32) (v2 : Int32), Gr 0 p → bg0_changeLimit F3 G3 p v0 v1 v2 → ZJ 0 7 0 [zR 0 v0, zI v1, zI v2, zJ] [] p (hwI (bv0_changeLimit F3 p v0 v1 v2)) := by
  intro p v0 v1 v2  hg H
  exact rwI (n := 3000) (q := 0) (la := [zR 0 v0, zI v1, zI v2, zJ]) (sa := []) (ks := []) (gs := []) (fcons o3 (fnil)) tab7 pc7 trivial hg H
theorem t0_changeLimit : ∀ (p : PM) (v0 : Nat) (v1 : Int32) (v2 : Int32), Gr 0 p → g0_changeLimit p v0 v1 v2 → ZJ 0 7 0 [zR 0 v0, zI v1, zI v2, zJ] [] p (hwI (v0_changeLimit p v0 v1 v2)) := r0_changeLimit v0_limitOf g0_limitOf ok3
def CC7 (F : PM → Nat → Int32 → Int32 → Int32 × PM) (G : PM → Nat → Int32 → Int32 → Prop) : Cal := (7, [3, 0, 0], 1, false, fun as p => (zI (F p (ar as 0) (ai as 1) (ai as 2)).1, (F p (ar as 0) (ai as 1) (ai as 2)).2), fun as p => zsw (tc2 as [(4, 0), (0, 0), (0, 0)]) False (G p (ar as 0) (ai as 1) (ai as 2)))
set_option maxRecDepth 100000 in
theorem okr7 (F : PM → Nat → Int32 → Int32 → Int32 × PM) (G : PM → Nat → Int32 → Int32 → Prop) (h : ∀ (p : PM) (v0 : Nat) (v1 : Int32) (v2 : Int32), Gr 0 p → G p v0 v1 v2 → ZJ 0 7 0 [zR 0 v0, zI v1, zI v2, zJ] [] p (hwI (F p v0 v1 v2))) : CalOK 0 (CC7 F G) := cal_ok (m := 4) (by unfold mL; rw [mX_7]) (fun as p hg H => h p (ar as 0) (ai as 1) (ai as 2) hg H)
theorem ok7 : CalOK 0 (CC7 v0_changeLimit g0_changeLimit) := okr7 v0_changeLimit g0_changeLimit t0_changeLimit
noncomputable def bv1_isSpread (p : PM) (v0 : Nat) : Int32 :=
  if (p.1 1 v0 2) = (cn (-100000)) then (
    (cn 0))
  else (
    (cn 1))
noncomputable def v1_isSpread (p : PM) (v0 : Nat) : Int32 := bv1_isSpread p v0
noncomputable def bg1_isSpread (p : PM) (v0 : Nat) : Prop :=
  (¬ v0 = 0) ∧ (
  if (p.1 1 v0 2) = (cn (-100000)) then (
    True)
  else (
    True))
noncomputable def g1_isSpread (p : PM) (v0 : Nat) : Prop := bg1_isSpread p v0
def R10 : List Row := [(0, .aload_n 0, 1, 0, (0, 0, 0, 0, 0, 0)), (1, .getfield 19, 3, 0, (1, 2, 0, 0, 0, 0)), (4, .ldc 18, 2, 0, (0, 0, 0, 0, 0, -100000)), (6, .if_icmp .eq 7, 3, 0, (0, 0, 0, 0, 0, 0)), (9, .iconst 1, 1, 0, (0, 0, 0, 0, 0, 1)), (10, .goto 4, 3, 0, (0, 0, 0, 0, 0, 0)), (13, .iconst 0, 1, 0, (0, 0, 0, 0, 0, 0)), (14, .ireturn, 1, 0, (1, 0, 0, 0, 0, 0))]
set_option maxRecDepth 100000 in
theorem rk10 : R10.all (rok 0 10 1 []) = true := by decide +kernel
set_option maxRecDepth 100000 in
theorem tab10 : TabOK 0 10 1 [] R10 := tab_ok (K := K10) rfl rfl (fun h => d10 h) rk10 (by decide +kernel)
set_option maxRecDepth 100000 in
theorem pc10 : cutpc [] R10 = true := by decide +kernel
set_option maxRecDepth 100000 in
theorem r1_isSpread (p : PM) (hg : Gr 0 p) : ∀ (v0 : Nat), bg1_isSpread p v0 → ZJ 0 10 0 [zR 1 v0] [] p (hoI p (bv1_isSpread p v0)) := by
  intro v0  H
  exact roI (n := 3000) (q := 0) (la := [zR 1 v0]) (sa := []) (ks := []) (gs := []) (fnil) tab10 pc10 trivial hg H
theorem t1_isSpread (p : PM) (hg : Gr 0 p) : ∀ (v0 : Nat), g1_isSpread p v0 → ZJ 0 10 0 [zR 1 v0] [] p (hoI p (v1_isSpread p v0)) := r1_isSpread p hg
def CC10 (F : PM → Nat → Int32) (G : PM → Nat → Prop) : Cal := (10, [4], 1, true, fun as p => (zI (F p (ar as 0)), p), fun as p => zsw (tc2 as [(5, 0)]) False (G p (ar as 0)))
set_option maxRecDepth 100000 in
theorem okr10 (F : PM → Nat → Int32) (G : PM → Nat → Prop) (h : ∀ (p : PM) (v0 : Nat), Gr 0 p → G p v0 → ZJ 0 10 0 [zR 1 v0] [] p (hoI p (F p v0))) : CalOK 0 (CC10 F G) := cal_ok (m := 1) (by unfold mL; rw [mX_10]) (fun as p hg H => h p (ar as 0) hg H)
theorem ok10 : CalOK 0 (CC10 v1_isSpread g1_isSpread) := okr10 v1_isSpread g1_isSpread (fun p v0 hg H => t1_isSpread p hg v0 H)
noncomputable def bv1_restore (F10 : PM → Nat → Int32) (p : PM) (v0 : Nat) : PM :=
  if (F10 p v0) = 0 then (
    let p1 : PM := pI p 1 v0 3 (cn 100)
    let p2 : PM := pI p1 1 v0 4 (p1.1 1 v0 3)
    let p3 : PM := pI p2 1 v0 5 (cn 0)
    let p4 : PM := pI p3 1 v0 6 (cn 0)
    let p5 : PM := pI p4 1 v0 7 (cn 0)
    let p6 : PM := pI p5 1 v0 8 (cn 0)
    let p7 : PM := pI p6 1 v0 9 (cn 0)
    let p8 : PM := pI p7 1 v0 10 (cn 0)
    let p9 : PM := pI p8 1 v0 11 (cn 0)
    let p10 : PM := pI p9 1 v0 12 (cn 0)
    p10)
  else (
    let p11 : PM := pI p 1 v0 3 (cn 0)
    let p12 : PM := pI p11 1 v0 4 (p11.1 1 v0 3)
    let p13 : PM := pI p12 1 v0 5 (cn 0)
    let p14 : PM := pI p13 1 v0 6 (cn 0)
    let p15 : PM := pI p14 1 v0 7 (cn 0)
    let p16 : PM := pI p15 1 v0 8 (cn 0)
    let p17 : PM := pI p16 1 v0 9 (cn 0)
    let p18 : PM := pI p17 1 v0 10 (cn 0)
    let p19 : PM := pI p18 1 v0 11 (cn 0)
    let p20 : PM := pI p19 1 v0 12 (cn 0)
    p20)
noncomputable def v1_restore (p : PM) (v0 : Nat) : PM := bv1_restore v1_isSpread p v0
noncomputable def bg1_restore (F10 : PM → Nat → Int32) (G10 : PM → Nat → Prop) (p : PM) (v0 : Nat) : Prop :=
  (¬ v0 = 0) ∧ (
  (G10 p v0) ∧ (
  if (F10 p v0) = 0 then (
    (¬ v0 = 0) ∧ (
    let p1 : PM := pI p 1 v0 3 (cn 100)
    (¬ v0 = 0) ∧ (
    (¬ v0 = 0) ∧ (
    let p2 : PM := pI p1 1 v0 4 (p1.1 1 v0 3)
    (¬ v0 = 0) ∧ (
    let p3 : PM := pI p2 1 v0 5 (cn 0)
    (¬ v0 = 0) ∧ (
    let p4 : PM := pI p3 1 v0 6 (cn 0)
    (¬ v0 = 0) ∧ (
    let p5 : PM := pI p4 1 v0 7 (cn 0)
    (¬ v0 = 0) ∧ (
    let p6 : PM := pI p5 1 v0 8 (cn 0)
    (¬ v0 = 0) ∧ (
    let p7 : PM := pI p6 1 v0 9 (cn 0)
    (¬ v0 = 0) ∧ (
    let p8 : PM := pI p7 1 v0 10 (cn 0)
    (¬ v0 = 0) ∧ (
    let p9 : PM := pI p8 1 v0 11 (cn 0)
    (¬ v0 = 0) ∧ (
    let p10 : PM := pI p9 1 v0 12 (cn 0)
    True))))))))))))
  else (
    (¬ v0 = 0) ∧ (
    let p11 : PM := pI p 1 v0 3 (cn 0)
    (¬ v0 = 0) ∧ (
    (¬ v0 = 0) ∧ (
    let p12 : PM := pI p11 1 v0 4 (p11.1 1 v0 3)
    (¬ v0 = 0) ∧ (
    let p13 : PM := pI p12 1 v0 5 (cn 0)
    (¬ v0 = 0) ∧ (
    let p14 : PM := pI p13 1 v0 6 (cn 0)
    (¬ v0 = 0) ∧ (
    let p15 : PM := pI p14 1 v0 7 (cn 0)
    (¬ v0 = 0) ∧ (
    let p16 : PM := pI p15 1 v0 8 (cn 0)
    (¬ v0 = 0) ∧ (
    let p17 : PM := pI p16 1 v0 9 (cn 0)
    (¬ v0 = 0) ∧ (
    let p18 : PM := pI p17 1 v0 10 (cn 0)
    (¬ v0 = 0) ∧ (
    let p19 : PM := pI p18 1 v0 11 (cn 0)
    (¬ v0 = 0) ∧ (
    let p20 : PM := pI p19 1 v0 12 (cn 0)
    True))))))))))))))
noncomputable def g1_restore (p : PM) (v0 : Nat) : Prop := bg1_restore v1_isSpread g1_isSpread p v0
def R9 : List Row := [(0, .aload_n 0, 1, 0, (0, 0, 0, 0, 0, 0)), (1, .aload_n 0, 1, 0, (0, 0, 0, 0, 0, 0)), (2, .invokevirtual 22, 3, 0, (0, 1, 0, 0, 2, 0)), (5, .ifCond .eq 7, 3, 0, (0, 0, 0, 0, 0, 0)), (8, .iconst 0, 1, 0, (0, 0, 0, 0, 0, 0)), (9, .goto 5, 3, 0, (0, 0, 0, 0, 0, 0)), (12, .bipush 100, 2, 0, (0, 0, 0, 0, 0, 100)), (14, .putfield 26, 3, 0, (1, 3, 0, 0, 0, 0)), (17, .aload_n 0, 1, 0, (0, 0, 0, 0, 0, 0)), (18, .aload_n 0, 1, 0, (0, 0, 0, 0, 0, 0)), (19, .getfield 26, 3, 0, (1, 3, 0, 0, 0, 0)), (22, .putfield 29, 3, 0, (1, 4, 0, 0, 0, 0)), (25, .aload_n 0, 1, 0, (0, 0, 0, 0, 0, 0)), (26, .iconst 0, 1, 0, (0, 0, 0, 0, 0, 0)), (27, .putfield 32, 3, 0, (1, 5, 1, 0, 0, 0)), (30, .aload_n 0, 1, 0, (0, 0, 0, 0, 0, 0)), (31, .iconst 0, 1, 0, (0, 0, 0, 0, 0, 0)), (32, .putfield 36, 3, 0, (1, 6, 1, 0, 0, 0)), (35, .aload_n 0, 1, 0, (0, 0, 0, 0, 0, 0)), (36, .iconst 0, 1, 0, (0, 0, 0, 0, 0, 0)), (37, .putfield 39, 3, 0, (1, 7, 0, 0, 0, 0)), (40, .aload_n 0, 1, 0, (0, 0, 0, 0, 0, 0)), (41, .iconst 0, 1, 0, (0, 0, 0, 0, 0, 0)), (42, .putfield 42, 3, 0, (1, 8, 0, 0, 0, 0)), (45, .aload_n 0, 1, 0, (0, 0, 0, 0, 0, 0)), (46, .iconst 0, 1, 0, (0, 0, 0, 0, 0, 0)), (47, .putfield 45, 3, 0, (1, 9, 0, 0, 0, 0)), (50, .aload_n 0, 1, 0, (0, 0, 0, 0, 0, 0)), (51, .iconst 0, 1, 0, (0, 0, 0, 0, 0, 0)), (52, .putfield 48, 3, 0, (1, 10, 0, 0, 0, 0)), (55, .aload_n 0, 1, 0, (0, 0, 0, 0, 0, 0)), (56, .iconst 0, 1, 0, (0, 0, 0, 0, 0, 0)), (57, .putfield 51, 3, 0, (1, 11, 0, 0, 0, 0)), (60, .aload_n 0, 1, 0, (0, 0, 0, 0, 0, 0)), (61, .iconst 0, 1, 0, (0, 0, 0, 0, 0, 0)), (62, .putfield 54, 3, 0, (1, 12, 0, 0, 0, 0)), (65, .return_, 1, 0, (0, 0, 0, 0, 0, 0))]
set_option maxRecDepth 100000 in
theorem rk9 : R9.all (rok 0 9 0 [(10, [4])]) = true := by decide +kernel
set_option maxRecDepth 100000 in
theorem tab9 {F10 : PM → Nat → Int32} {G10 : PM → Nat → Prop} : TabOK 0 9 0 [CC10 F10 G10] R9 := tab_ok (K := K9) rfl rfl (fun h => d9 h) rk9 (by decide +kernel)
set_option maxRecDepth 100000 in
theorem pc9 : cutpc [] R9 = true := by decide +kernel
set_option maxRecDepth 100000 in
theorem r1_restore (F10 : PM → Nat → Int32) (G10 : PM → Nat → Prop) (o10 : CalOK 0 (CC10 F10 G10)) : ∀ (p : PM) (v0 : Nat), Gr 0 p → bg1_restore F10 G10 p v0 → ZJ 0 9 0 [zR 1 v0] [] p (hwV (bv1_restore F10 p v0)) := by
  intro p v0  hg H
  exact rwV (n := 3000) (q := 0) (la := [zR 1 v0]) (sa := []) (ks := []) (gs := []) (fcons o10 (fnil)) tab9 pc9 trivial hg H
theorem t1_restore : ∀ (p : PM) (v0 : Nat), Gr 0 p → g1_restore p v0 → ZJ 0 9 0 [zR 1 v0] [] p (hwV (v1_restore p v0)) := r1_restore v1_isSpread g1_isSpread ok10
def CC9 (F : PM → Nat → PM) (G : PM → Nat → Prop) : Cal := (9, [4], 0, false, fun as p => (zJ, (F p (ar as 0))), fun as p => zsw (tc2 as [(5, 0)]) False (G p (ar as 0)))
set_option maxRecDepth 100000 in
theorem okr9 (F : PM → Nat → PM) (G : PM → Nat → Prop) (h : ∀ (p : PM) (v0 : Nat), Gr 0 p → G p v0 → ZJ 0 9 0 [zR 1 v0] [] p (hwV (F p v0))) : CalOK 0 (CC9 F G) := cal_ok (m := 1) (by unfold mL; rw [mX_9]) (fun as p hg H => h p (ar as 0) hg H)
theorem ok9 : CalOK 0 (CC9 v1_restore g1_restore) := okr9 v1_restore g1_restore t1_restore
noncomputable def bv1_hasPrice (p : PM) (F10 : PM → Nat → Int32) (v0 : Nat) (v1 : Int32) : Int32 :=
  if (cn 9999) < v1 then (
    (cn 0))
  else (
    if (F10 p v0) = 0 then (
      if v1 < (cn 1) then (
        (cn 0))
      else (
        (cn 1)))
    else (
      if v1 < (cn (-9999)) then (
        (cn 0))
      else (
        (cn 1))))
noncomputable def v1_hasPrice (p : PM) (v0 : Nat) (v1 : Int32) : Int32 := bv1_hasPrice p v1_isSpread v0 v1
noncomputable def bg1_hasPrice (p : PM) (F10 : PM → Nat → Int32) (G10 : PM → Nat → Prop) (v0 : Nat) (v1 : Int32) : Prop :=
  if (cn 9999) < v1 then (
    True)
  else (
    (¬ v0 = 0) ∧ (
    (G10 p v0) ∧ (
    if (F10 p v0) = 0 then (
      if v1 < (cn 1) then (
        True)
      else (
        True))
    else (
      if v1 < (cn (-9999)) then (
        True)
      else (
        True)))))
noncomputable def g1_hasPrice (p : PM) (v0 : Nat) (v1 : Int32) : Prop := bg1_hasPrice p v1_isSpread g1_isSpread v0 v1
def R11 : List Row := [(0, .iload_n 1, 1, 0, (0, 0, 0, 0, 0, 0)), (1, .sipush 9999, 3, 0, (0, 0, 0, 0, 0, 9999)), (4, .if_icmp .gt 25, 3, 0, (0, 0, 0, 0, 0, 0)), (7, .iload_n 1, 1, 0, (0, 0, 0, 0, 0, 0)), (8, .aload_n 0, 1, 0, (0, 0, 0, 0, 0, 0)), (9, .invokevirtual 22, 3, 0, (0, 1, 0, 0, 2, 0)), (12, .ifCond .eq 9, 3, 0, (0, 0, 0, 0, 0, 0)), (15, .sipush (-9999), 3, 0, (0, 0, 0, 0, 0, -9999)), (18, .goto 4, 3, 0, (0, 0, 0, 0, 0, 0)), (21, .iconst 1, 1, 0, (0, 0, 0, 0, 0, 1)), (22, .if_icmp .lt 7, 3, 0, (0, 0, 0, 0, 0, 0)), (25, .iconst 1, 1, 0, (0, 0, 0, 0, 0, 1)), (26, .goto 4, 3, 0, (0, 0, 0, 0, 0, 0)), (29, .iconst 0, 1, 0, (0, 0, 0, 0, 0, 0)), (30, .ireturn, 1, 0, (1, 0, 0, 0, 0, 0))]
set_option maxRecDepth 100000 in
theorem rk11 : R11.all (rok 0 11 1 [(10, [4])]) = true := by decide +kernel
set_option maxRecDepth 100000 in
theorem tab11 {F10 : PM → Nat → Int32} {G10 : PM → Nat → Prop} : TabOK 0 11 1 [CC10 F10 G10] R11 := tab_ok (K := K11) rfl rfl (fun h => d11 h) rk11 (by decide +kernel)
set_option maxRecDepth 100000 in
theorem pc11 : cutpc [] R11 = true := by decide +kernel
set_option maxRecDepth 100000 in
theorem r1_hasPrice (p : PM) (hg : Gr 0 p) (F10 : PM → Nat → Int32) (G10 : PM → Nat → Prop) (o10 : CalOK 0 (CC10 F10 G10)) : ∀ (v0 : Nat) (v1 : Int32), bg1_hasPrice p F10 G10 v0 v1 → ZJ 0 11 0 [zR 1 v0, zI v1] [] p (hoI p (bv1_hasPrice p F10 v0 v1)) := by
  intro v0 v1  H
  exact roI (n := 3000) (q := 0) (la := [zR 1 v0, zI v1]) (sa := []) (ks := []) (gs := []) (fcons o10 (fnil)) tab11 pc11 trivial hg H
theorem t1_hasPrice (p : PM) (hg : Gr 0 p) : ∀ (v0 : Nat) (v1 : Int32), g1_hasPrice p v0 v1 → ZJ 0 11 0 [zR 1 v0, zI v1] [] p (hoI p (v1_hasPrice p v0 v1)) := r1_hasPrice p hg v1_isSpread g1_isSpread ok10
def CC11 (F : PM → Nat → Int32 → Int32) (G : PM → Nat → Int32 → Prop) : Cal := (11, [4, 0], 1, true, fun as p => (zI (F p (ar as 0) (ai as 1)), p), fun as p => zsw (tc2 as [(5, 0), (0, 0)]) False (G p (ar as 0) (ai as 1)))
set_option maxRecDepth 100000 in
theorem okr11 (F : PM → Nat → Int32 → Int32) (G : PM → Nat → Int32 → Prop) (h : ∀ (p : PM) (v0 : Nat) (v1 : Int32), Gr 0 p → G p v0 v1 → ZJ 0 11 0 [zR 1 v0, zI v1] [] p (hoI p (F p v0 v1))) : CalOK 0 (CC11 F G) := cal_ok (m := 2) (by unfold mL; rw [mX_11]) (fun as p hg H => h p (ar as 0) (ai as 1) hg H)
theorem ok11 : CalOK 0 (CC11 v1_hasPrice g1_hasPrice) := okr11 v1_hasPrice g1_hasPrice (fun p v0 v1 hg H => t1_hasPrice p hg v0 v1 H)
noncomputable def bv1_hasContract (p : PM) (v0 : Nat) (v1 : Int32) : Int32 :=
  if (p.1 1 v0 1) = v1 then (
    (cn 1))
  else (
    if (p.1 1 v0 2) = v1 then (
      (cn 1))
    else (
      (cn 0)))
noncomputable def v1_hasContract (p : PM) (v0 : Nat) (v1 : Int32) : Int32 := bv1_hasContract p v0 v1
noncomputable def bg1_hasContract (p : PM) (v0 : Nat) (v1 : Int32) : Prop :=
  (¬ v0 = 0) ∧ (
  if (p.1 1 v0 1) = v1 then (
    True)
  else (
    (¬ v0 = 0) ∧ (
    if (p.1 1 v0 2) = v1 then (
      True)
    else (
      True))))
noncomputable def g1_hasContract (p : PM) (v0 : Nat) (v1 : Int32) : Prop := bg1_hasContract p v0 v1
def R12 : List Row := [(0, .aload_n 0, 1, 0, (0, 0, 0, 0, 0, 0)), (1, .getfield 15, 3, 0, (1, 1, 0, 0, 0, 0)), (4, .iload_n 1, 1, 0, (0, 0, 0, 0, 0, 0)), (5, .if_icmp .eq 11, 3, 0, (0, 0, 0, 0, 0, 0)), (8, .aload_n 0, 1, 0, (0, 0, 0, 0, 0, 0)), (9, .getfield 19, 3, 0, (1, 2, 0, 0, 0, 0)), (12, .iload_n 1, 1, 0, (0, 0, 0, 0, 0, 0)), (13, .if_icmp .ne 7, 3, 0, (0, 0, 0, 0, 0, 0)), (16, .iconst 1, 1, 0, (0, 0, 0, 0, 0, 1)), (17, .goto 4, 3, 0, (0, 0, 0, 0, 0, 0)), (20, .iconst 0, 1, 0, (0, 0, 0, 0, 0, 0)), (21, .ireturn, 1, 0, (1, 0, 0, 0, 0, 0))]
set_option maxRecDepth 100000 in
theorem rk12 : R12.all (rok 0 12 1 []) = true := by decide +kernel
set_option maxRecDepth 100000 in
theorem tab12 : TabOK 0 12 1 [] R12 := tab_ok (K := K12) rfl rfl (fun h => d12 h) rk12 (by decide +kernel)
set_option maxRecDepth 100000 in
theorem pc12 : cutpc [] R12 = true := by decide +kernel
set_option maxRecDepth 100000 in
theorem r1_hasContract (p : PM) (hg : Gr 0 p) : ∀ (v0 : Nat) (v1 : Int32), bg1_hasContract p v0 v1 → ZJ 0 12 0 [zR 1 v0, zI v1] [] p (hoI p (bv1_hasContract p v0 v1)) := by
  intro v0 v1  H
  exact roI (n := 3000) (q := 0) (la := [zR 1 v0, zI v1]) (sa := []) (ks := []) (gs := []) (fnil) tab12 pc12 trivial hg H
theorem t1_hasContract (p : PM) (hg : Gr 0 p) : ∀ (v0 : Nat) (v1 : Int32), g1_hasContract p v0 v1 → ZJ 0 12 0 [zR 1 v0, zI v1] [] p (hoI p (v1_hasContract p v0 v1)) := r1_hasContract p hg
def CC12 (F : PM → Nat → Int32 → Int32) (G : PM → Nat → Int32 → Prop) : Cal := (12, [4, 0], 1, true, fun as p => (zI (F p (ar as 0) (ai as 1)), p), fun as p => zsw (tc2 as [(5, 0), (0, 0)]) False (G p (ar as 0) (ai as 1)))
set_option maxRecDepth 100000 in
theorem okr12 (F : PM → Nat → Int32 → Int32) (G : PM → Nat → Int32 → Prop) (h : ∀ (p : PM) (v0 : Nat) (v1 : Int32), Gr 0 p → G p v0 v1 → ZJ 0 12 0 [zR 1 v0, zI v1] [] p (hoI p (F p v0 v1))) : CalOK 0 (CC12 F G) := cal_ok (m := 2) (by unfold mL; rw [mX_12]) (fun as p hg H => h p (ar as 0) (ai as 1) hg H)
theorem ok12 : CalOK 0 (CC12 v1_hasContract g1_hasContract) := okr12 v1_hasContract g1_hasContract (fun p v0 v1 hg H => t1_hasContract p hg v0 v1 H)
noncomputable def bv14_abs_0f7a4 (p : PM) (v0 : Int32) : Int32 :=
  if v0 < 0 then (
    (-v0))
  else (
    v0)
noncomputable def v14_abs_0f7a4 (p : PM) (v0 : Int32) : Int32 := bv14_abs_0f7a4 p v0
noncomputable def bg14_abs_0f7a4 (p : PM) (v0 : Int32) : Prop :=
  if v0 < 0 then (
    True)
  else (
    True)
noncomputable def g14_abs_0f7a4 (p : PM) (v0 : Int32) : Prop := bg14_abs_0f7a4 p v0
def R205 : List Row := [(0, .iload_n 0, 1, 0, (0, 0, 0, 0, 0, 0)), (1, .ifCond .ge 8, 3, 0, (0, 0, 0, 0, 0, 0)), (4, .iload_n 0, 1, 0, (0, 0, 0, 0, 0, 0)), (5, .ineg, 1, 0, (0, 0, 0, 0, 0, 0)), (6, .goto 4, 3, 0, (0, 0, 0, 0, 0, 0)), (9, .iload_n 0, 1, 0, (0, 0, 0, 0, 0, 0)), (10, .ireturn, 1, 0, (0, 0, 0, 0, 0, 0))]
set_option maxRecDepth 100000 in
theorem rk205 : R205.all (rok 0 205 1 []) = true := by decide +kernel
set_option maxRecDepth 100000 in
theorem tab205 : TabOK 0 205 1 [] R205 := tab_ok (K := K205) rfl rfl (fun h => d205 h) rk205 (by decide +kernel)
set_option maxRecDepth 100000 in
theorem pc205 : cutpc [] R205 = true := by decide +kernel
set_option maxRecDepth 100000 in
theorem r14_abs_0f7a4 (p : PM) (hg : Gr 0 p) : ∀ (v0 : Int32), bg14_abs_0f7a4 p v0 → ZJ 0 205 0 [zI v0] [] p (hoI p (bv14_abs_0f7a4 p v0)) := by
  intro v0  H
  exact roI (n := 3000) (q := 0) (la := [zI v0]) (sa := []) (ks := []) (gs := []) (fnil) tab205 pc205 trivial hg H
theorem t14_abs_0f7a4 (p : PM) (hg : Gr 0 p) : ∀ (v0 : Int32), g14_abs_0f7a4 p v0 → ZJ 0 205 0 [zI v0] [] p (hoI p (v14_abs_0f7a4 p v0)) := r14_abs_0f7a4 p hg
def CC205 (F : PM → Int32 → Int32) (G : PM → Int32 → Prop) : Cal := (205, [0], 1, true, fun as p => (zI (F p (ai as 0)), p), fun as p => zsw (tc2 as [(0, 0)]) False (G p (ai as 0)))
set_option maxRecDepth 100000 in
theorem okr205 (F : PM → Int32 → Int32) (G : PM → Int32 → Prop) (h : ∀ (p : PM) (v0 : Int32), Gr 0 p → G p v0 → ZJ 0 205 0 [zI v0] [] p (hoI p (F p v0))) : CalOK 0 (CC205 F G) := cal_ok (m := 1) (by unfold mL; rw [mX_205]) (fun as p hg H => h p (ai as 0) hg H)
theorem ok205 : CalOK 0 (CC205 v14_abs_0f7a4 g14_abs_0f7a4) := okr205 v14_abs_0f7a4 g14_abs_0f7a4 (fun p v0 hg H => t14_abs_0f7a4 p hg v0 H)
noncomputable def bv1_isBeyondBand (p : PM) (F205 : PM → Int32 → Int32) (v0 : Nat) (v1 : Int32) : Int32 :=
  if 0 < (p.1 1 v0 12) then (
    if (p.1 1 v0 12) < (F205 p (v1 - (p.1 1 v0 4))) then (
      (cn 1))
    else (
      (cn 0)))
  else (
    (cn 0))
noncomputable def v1_isBeyondBand (p : PM) (v0 : Nat) (v1 : Int32) : Int32 := bv1_isBeyondBand p v14_abs_0f7a4 v0 v1
noncomputable def bg1_isBeyondBand (p : PM) (F205 : PM → Int32 → Int32) (G205 : PM → Int32 → Prop) (v0 : Nat) (v1 : Int32) : Prop :=
  (¬ v0 = 0) ∧ (
  if 0 < (p.1 1 v0 12) then (
    (¬ v0 = 0) ∧ (
    (G205 p (v1 - (p.1 1 v0 4))) ∧ (
    (¬ v0 = 0) ∧ (
    if (p.1 1 v0 12) < (F205 p (v1 - (p.1 1 v0 4))) then (
      True)
    else (
      True)))))
  else (
    True))
noncomputable def g1_isBeyondBand (p : PM) (v0 : Nat) (v1 : Int32) : Prop := bg1_isBeyondBand p v14_abs_0f7a4 g14_abs_0f7a4 v0 v1
def R13 : List Row := [(0, .aload_n 0, 1, 0, (0, 0, 0, 0, 0, 0)), (1, .getfield 54, 3, 0, (1, 12, 0, 0, 0, 0)), (4, .ifCond .le 23, 3, 0, (0, 0, 0, 0, 0, 0)), (7, .iload_n 1, 1, 0, (0, 0, 0, 0, 0, 0)), (8, .aload_n 0, 1, 0, (0, 0, 0, 0, 0, 0)), (9, .getfield 29, 3, 0, (1, 4, 0, 0, 0, 0)), (12, .isub, 1, 0, (0, 0, 0, 0, 0, 0)), (13, .invokestatic 57, 3, 0, (0, 1, 0, 0, 0, 0)), (16, .aload_n 0, 1, 0, (0, 0, 0, 0, 0, 0)), (17, .getfield 54, 3, 0, (1, 12, 0, 0, 0, 0)), (20, .if_icmp .le 7, 3, 0, (0, 0, 0, 0, 0, 0)), (23, .iconst 1, 1, 0, (0, 0, 0, 0, 0, 1)), (24, .goto 4, 3, 0, (0, 0, 0, 0, 0, 0)), (27, .iconst 0, 1, 0, (0, 0, 0, 0, 0, 0)), (28, .ireturn, 1, 0, (1, 0, 0, 0, 0, 0))]
set_option maxRecDepth 100000 in
theorem rk13 : R13.all (rok 0 13 1 [(205, [0])]) = true := by decide +kernel
set_option maxRecDepth 100000 in
theorem tab13 {F205 : PM → Int32 → Int32} {G205 : PM → Int32 → Prop} : TabOK 0 13 1 [CC205 F205 G205] R13 := tab_ok (K := K13) rfl rfl (fun h => d13 h) rk13 (by decide +kernel)
set_option maxRecDepth 100000 in
theorem pc13 : cutpc [] R13 = true := by decide +kernel
set_option maxRecDepth 100000 in
theorem r1_isBeyondBand (p : PM) (hg : Gr 0 p) (F205 : PM → Int32 → Int32) (G205 : PM → Int32 → Prop) (o205 : CalOK 0 (CC205 F205 G205)) : ∀ (v0 : Nat) (v1 : Int32), bg1_isBeyondBand p F205 G205 v0 v1 → ZJ 0 13 0 [zR 1 v0, zI v1] [] p (hoI p (bv1_isBeyondBand p F205 v0 v1)) := by
  intro v0 v1  H
  exact roI (n := 3000) (q := 0) (la := [zR 1 v0, zI v1]) (sa := []) (ks := []) (gs := []) (fcons o205 (fnil)) tab13 pc13 trivial hg H
theorem t1_isBeyondBand (p : PM) (hg : Gr 0 p) : ∀ (v0 : Nat) (v1 : Int32), g1_isBeyondBand p v0 v1 → ZJ 0 13 0 [zR 1 v0, zI v1] [] p (hoI p (v1_isBeyondBand p v0 v1)) := r1_isBeyondBand p hg v14_abs_0f7a4 g14_abs_0f7a4 ok205
def CC13 (F : PM → Nat → Int32 → Int32) (G : PM → Nat → Int32 → Prop) : Cal := (13, [4, 0], 1, true, fun as p => (zI (F p (ar as 0) (ai as 1)), p), fun as p => zsw (tc2 as [(5, 0), (0, 0)]) False (G p (ar as 0) (ai as 1)))
set_option maxRecDepth 100000 in
theorem okr13 (F : PM → Nat → Int32 → Int32) (G : PM → Nat → Int32 → Prop) (h : ∀ (p : PM) (v0 : Nat) (v1 : Int32), Gr 0 p → G p v0 v1 → ZJ 0 13 0 [zR 1 v0, zI v1] [] p (hoI p (F p v0 v1))) : CalOK 0 (CC13 F G) := cal_ok (m := 2) (by unfold mL; rw [mX_13]) (fun as p hg H => h p (ar as 0) (ai as 1) hg H)
theorem ok13 : CalOK 0 (CC13 v1_isBeyondBand g1_isBeyondBand) := okr13 v1_isBeyondBand g1_isBeyondBand (fun p v0 v1 hg H => t1_isBeyondBand p hg v0 v1 H)
noncomputable def bv1_changeRule (p : PM) (v0 : Nat) (v1 : Int32) (v2 : Int32) (v3 : Int32) : Int32 × PM :=
  let p1 : PM := pI p 1 v0 9 v1
  let p2 : PM := pI p1 1 v0 10 v2
  let p3 : PM := pI p2 1 v0 11 v3
  ((p.1 1 v0 9), p3)
noncomputable def v1_changeRule (p : PM) (v0 : Nat) (v1 : Int32) (v2 : Int32) (v3 : Int32) : Int32 × PM := bv1_changeRule p v0 v1 v2 v3
noncomputable def bg1_changeRule (p : PM) (v0 : Nat) (v1 : Int32) (v2 : Int32) (v3 : Int32) : Prop :=
  (¬ v0 = 0) ∧ (
  (¬ v0 = 0) ∧ (
  let p1 : PM := pI p 1 v0 9 v1
  (¬ v0 = 0) ∧ (
  let p2 : PM := pI p1 1 v0 10 v2
  (¬ v0 = 0) ∧ (
  let p3 : PM := pI p2 1 v0 11 v3
  True))))
noncomputable def g1_changeRule (p : PM) (v0 : Nat) (v1 : Int32) (v2 : Int32) (v3 : Int32) : Prop := bg1_changeRule p v0 v1 v2 v3
def R14 : List Row := [(0, .aload_n 0, 1, 0, (0, 0, 0, 0, 0, 0)), (1, .getfield 45, 3, 0, (1, 9, 0, 0, 0, 0)), (4, .istore 4, 2, 0, (0, 0, 0, 0, 0, 0)), (6, .aload_n 0, 1, 0, (0, 0, 0, 0, 0, 0)), (7, .iload_n 1, 1, 0, (0, 0, 0, 0, 0, 0)), (8, .putfield 45, 3, 0, (1, 9, 0, 0, 0, 0)), (11, .aload_n 0, 1, 0, (0, 0, 0, 0, 0, 0)), (12, .iload_n 2, 1, 0, (0, 0, 0, 0, 0, 0)), (13, .putfield 48, 3, 0, (1, 10, 0, 0, 0, 0)), (16, .aload_n 0, 1, 0, (0, 0, 0, 0, 0, 0)), (17, .iload_n 3, 1, 0, (0, 0, 0, 0, 0, 0)), (18, .putfield 51, 3, 0, (1, 11, 0, 0, 0, 0)), (21, .iload 4, 2, 0, (0, 0, 0, 0, 0, 0)), (23, .ireturn, 1, 0, (0, 0, 0, 0, 0, 0))]
set_option maxRecDepth 100000 in
theorem rk14 : R14.all (rok 0 14 1 []) = true := by decide +kernel
set_option maxRecDepth 100000 in
theorem tab14 : TabOK 0 14 1 [] R14 := tab_ok (K := K14) rfl rfl (fun h => d14 h) rk14 (by decide +kernel)
set_option maxRecDepth 100000 in
theorem pc14 : cutpc [] R14 = true := by decide +kernel
set_option maxRecDepth 100000 in
theorem r1_changeRule : ∀ (p : PM) (v0 : Nat) (v1 : Int32) (v2 : Int32) (v3 : Int32), Gr 0 p → bg1_changeRule p v0 v1 v2 v3 → ZJ 0 14 0 [zR 1 v0, zI v1, zI v2, zI v3, zJ] [] p (hwI (bv1_changeRule p v0 v1 v2 v3)) := by
  intro p v0 v1 v2 v3  hg H
  exact rwI (n := 3000) (q := 0) (la := [zR 1 v0, zI v1, zI v2, zI v3, zJ]) (sa := []) (ks := []) (gs := []) (fnil) tab14 pc14 trivial hg H
theorem t1_changeRule : ∀ (p : PM) (v0 : Nat) (v1 : Int32) (v2 : Int32) (v3 : Int32), Gr 0 p → g1_changeRule p v0 v1 v2 v3 → ZJ 0 14 0 [zR 1 v0, zI v1, zI v2, zI v3, zJ] [] p (hwI (v1_changeRule p v0 v1 v2 v3)) := r1_changeRule
def CC14 (F : PM → Nat → Int32 → Int32 → Int32 → Int32 × PM) (G : PM → Nat → Int32 → Int32 → Int32 → Prop) : Cal := (14, [4, 0, 0, 0], 1, false, fun as p => (zI (F p (ar as 0) (ai as 1) (ai as 2) (ai as 3)).1, (F p (ar as 0) (ai as 1) (ai as 2) (ai as 3)).2), fun as p => zsw (tc2 as [(5, 0), (0, 0), (0, 0), (0, 0)]) False (G p (ar as 0) (ai as 1) (ai as 2) (ai as 3)))
set_option maxRecDepth 100000 in
theorem okr14 (F : PM → Nat → Int32 → Int32 → Int32 → Int32 × PM) (G : PM → Nat → Int32 → Int32 → Int32 → Prop) (h : ∀ (p : PM) (v0 : Nat) (v1 : Int32) (v2 : Int32) (v3 : Int32), Gr 0 p → G p v0 v1 v2 v3 → ZJ 0 14 0 [zR 1 v0, zI v1, zI v2, zI v3, zJ] [] p (hwI (F p v0 v1 v2 v3))) : CalOK 0 (CC14 F G) := cal_ok (m := 5) (by unfold mL; rw [mX_14]) (fun as p hg H => h p (ar as 0) (ai as 1) (ai as 2) (ai as 3) hg H)
theorem ok14 : CalOK 0 (CC14 v1_changeRule g1_changeRule) := okr14 v1_changeRule g1_changeRule t1_changeRule
noncomputable def bv1_changeBand (p : PM) (v0 : Nat) (v1 : Int32) : Int32 × PM :=
  let p1 : PM := pI p 1 v0 12 v1
  ((p.1 1 v0 12), p1)
noncomputable def v1_changeBand (p : PM) (v0 : Nat) (v1 : Int32) : Int32 × PM := bv1_changeBand p v0 v1
noncomputable def bg1_changeBand (p : PM) (v0 : Nat) (v1 : Int32) : Prop :=
  (¬ v0 = 0) ∧ (
  (¬ v0 = 0) ∧ (
  let p1 : PM := pI p 1 v0 12 v1
  True))
noncomputable def g1_changeBand (p : PM) (v0 : Nat) (v1 : Int32) : Prop := bg1_changeBand p v0 v1
def R15 : List Row := [(0, .aload_n 0, 1, 0, (0, 0, 0, 0, 0, 0)), (1, .getfield 54, 3, 0, (1, 12, 0, 0, 0, 0)), (4, .istore_n 2, 1, 0, (0, 0, 0, 0, 0, 0)), (5, .aload_n 0, 1, 0, (0, 0, 0, 0, 0, 0)), (6, .iload_n 1, 1, 0, (0, 0, 0, 0, 0, 0)), (7, .putfield 54, 3, 0, (1, 12, 0, 0, 0, 0)), (10, .iload_n 2, 1, 0, (0, 0, 0, 0, 0, 0)), (11, .ireturn, 1, 0, (0, 0, 0, 0, 0, 0))]
set_option maxRecDepth 100000 in
theorem rk15 : R15.all (rok 0 15 1 []) = true := by decide +kernel
set_option maxRecDepth 100000 in
theorem tab15 : TabOK 0 15 1 [] R15 := tab_ok (K := K15) rfl rfl (fun h => d15 h) rk15 (by decide +kernel)
set_option maxRecDepth 100000 in
theorem pc15 : cutpc [] R15 = true := by decide +kernel
set_option maxRecDepth 100000 in
theorem r1_changeBand : ∀ (p : PM) (v0 : Nat) (v1 : Int32), Gr 0 p → bg1_changeBand p v0 v1 → ZJ 0 15 0 [zR 1 v0, zI v1, zJ] [] p (hwI (bv1_changeBand p v0 v1)) := by
  intro p v0 v1  hg H
  exact rwI (n := 3000) (q := 0) (la := [zR 1 v0, zI v1, zJ]) (sa := []) (ks := []) (gs := []) (fnil) tab15 pc15 trivial hg H
theorem t1_changeBand : ∀ (p : PM) (v0 : Nat) (v1 : Int32), Gr 0 p → g1_changeBand p v0 v1 → ZJ 0 15 0 [zR 1 v0, zI v1, zJ] [] p (hwI (v1_changeBand p v0 v1)) := r1_changeBand
def CC15 (F : PM → Nat → Int32 → Int32 × PM) (G : PM → Nat → Int32 → Prop) : Cal := (15, [4, 0], 1, false, fun as p => (zI (F p (ar as 0) (ai as 1)).1, (F p (ar as 0) (ai as 1)).2), fun as p => zsw (tc2 as [(5, 0), (0, 0)]) False (G p (ar as 0) (ai as 1)))
set_option maxRecDepth 100000 in
theorem okr15 (F : PM → Nat → Int32 → Int32 × PM) (G : PM → Nat → Int32 → Prop) (h : ∀ (p : PM) (v0 : Nat) (v1 : Int32), Gr 0 p → G p v0 v1 → ZJ 0 15 0 [zR 1 v0, zI v1, zJ] [] p (hwI (F p v0 v1))) : CalOK 0 (CC15 F G) := cal_ok (m := 3) (by unfold mL; rw [mX_15]) (fun as p hg H => h p (ar as 0) (ai as 1) hg H)
theorem ok15 : CalOK 0 (CC15 v1_changeBand g1_changeBand) := okr15 v1_changeBand g1_changeBand t1_changeBand
noncomputable def bv9_forgetBid (p : PM) (v0 : Nat) : PM :=
  let p1 : PM := pI p 9 v0 4 (cn 0)
  let p2 : PM := pI p1 9 v0 5 (cn 0)
  p2
noncomputable def v9_forgetBid (p : PM) (v0 : Nat) : PM := bv9_forgetBid p v0
noncomputable def bg9_forgetBid (p : PM) (v0 : Nat) : Prop :=
  (¬ v0 = 0) ∧ (
  let p1 : PM := pI p 9 v0 4 (cn 0)
  (¬ v0 = 0) ∧ (
  let p2 : PM := pI p1 9 v0 5 (cn 0)
  True))
noncomputable def g9_forgetBid (p : PM) (v0 : Nat) : Prop := bg9_forgetBid p v0
def R139 : List Row := [(0, .aload_n 0, 1, 0, (0, 0, 0, 0, 0, 0)), (1, .iconst 0, 1, 0, (0, 0, 0, 0, 0, 0)), (2, .putfield 26, 3, 0, (9, 4, 1, 0, 0, 0)), (5, .aload_n 0, 1, 0, (0, 0, 0, 0, 0, 0)), (6, .iconst 0, 1, 0, (0, 0, 0, 0, 0, 0)), (7, .putfield 29, 3, 0, (9, 5, 0, 0, 0, 0)), (10, .return_, 1, 0, (0, 0, 0, 0, 0, 0))]
set_option maxRecDepth 100000 in
theorem rk139 : R139.all (rok 0 139 0 []) = true := by decide +kernel
set_option maxRecDepth 100000 in
theorem tab139 : TabOK 0 139 0 [] R139 := tab_ok (K := K139) rfl rfl (fun h => d139 h) rk139 (by decide +kernel)
set_option maxRecDepth 100000 in
theorem pc139 : cutpc [] R139 = true := by decide +kernel
set_option maxRecDepth 100000 in
theorem r9_forgetBid : ∀ (p : PM) (v0 : Nat), Gr 0 p → bg9_forgetBid p v0 → ZJ 0 139 0 [zR 9 v0] [] p (hwV (bv9_forgetBid p v0)) := by
  intro p v0  hg H
  exact rwV (n := 3000) (q := 0) (la := [zR 9 v0]) (sa := []) (ks := []) (gs := []) (fnil) tab139 pc139 trivial hg H
theorem t9_forgetBid : ∀ (p : PM) (v0 : Nat), Gr 0 p → g9_forgetBid p v0 → ZJ 0 139 0 [zR 9 v0] [] p (hwV (v9_forgetBid p v0)) := r9_forgetBid
def CC139 (F : PM → Nat → PM) (G : PM → Nat → Prop) : Cal := (139, [12], 0, false, fun as p => (zJ, (F p (ar as 0))), fun as p => zsw (tc2 as [(13, 0)]) False (G p (ar as 0)))
set_option maxRecDepth 100000 in
theorem okr139 (F : PM → Nat → PM) (G : PM → Nat → Prop) (h : ∀ (p : PM) (v0 : Nat), Gr 0 p → G p v0 → ZJ 0 139 0 [zR 9 v0] [] p (hwV (F p v0))) : CalOK 0 (CC139 F G) := cal_ok (m := 1) (by unfold mL; rw [mX_139]) (fun as p hg H => h p (ar as 0) hg H)
theorem ok139 : CalOK 0 (CC139 v9_forgetBid g9_forgetBid) := okr139 v9_forgetBid g9_forgetBid t9_forgetBid
noncomputable def bv9_restore (F139 : PM → Nat → PM) (p : PM) (v0 : Nat) : PM :=
  let p1 : PM := pI p 9 v0 0 (cn 0)
  let p2 : PM := pI p1 9 v0 1 (cn 0)
  let p3 : PM := pI p2 9 v0 2 (cn 200)
  let p4 : PM := pI p3 9 v0 3 (cn 0)
  let p5 : PM := F139 p4 v0
  p5
noncomputable def v9_restore (p : PM) (v0 : Nat) : PM := bv9_restore v9_forgetBid p v0
noncomputable def bg9_restore (F139 : PM → Nat → PM) (G139 : PM → Nat → Prop) (p : PM) (v0 : Nat) : Prop :=
  (¬ v0 = 0) ∧ (
  let p1 : PM := pI p 9 v0 0 (cn 0)
  (¬ v0 = 0) ∧ (
  let p2 : PM := pI p1 9 v0 1 (cn 0)
  (¬ v0 = 0) ∧ (
  let p3 : PM := pI p2 9 v0 2 (cn 200)
  (¬ v0 = 0) ∧ (
  let p4 : PM := pI p3 9 v0 3 (cn 0)
  (¬ v0 = 0) ∧ (
  (G139 p4 v0) ∧ (
  let p5 : PM := F139 p4 v0
  True))))))
noncomputable def g9_restore (p : PM) (v0 : Nat) : Prop := bg9_restore v9_forgetBid g9_forgetBid p v0
def R138 : List Row := [(0, .aload_n 0, 1, 0, (0, 0, 0, 0, 0, 0)), (1, .iconst 0, 1, 0, (0, 0, 0, 0, 0, 0)), (2, .putfield 7, 3, 0, (9, 0, 0, 0, 0, 0)), (5, .aload_n 0, 1, 0, (0, 0, 0, 0, 0, 0)), (6, .iconst 0, 1, 0, (0, 0, 0, 0, 0, 0)), (7, .putfield 13, 3, 0, (9, 1, 0, 0, 0, 0)), (10, .aload_n 0, 1, 0, (0, 0, 0, 0, 0, 0)), (11, .sipush 200, 3, 0, (0, 0, 0, 0, 0, 200)), (14, .putfield 16, 3, 0, (9, 2, 0, 0, 0, 0)), (17, .aload_n 0, 1, 0, (0, 0, 0, 0, 0, 0)), (18, .iconst 0, 1, 0, (0, 0, 0, 0, 0, 0)), (19, .putfield 19, 3, 0, (9, 3, 1, 0, 0, 0)), (22, .aload_n 0, 1, 0, (0, 0, 0, 0, 0, 0)), (23, .invokevirtual 23, 3, 0, (0, 1, 0, 0, 2, 0)), (26, .return_, 1, 0, (0, 0, 0, 0, 0, 0))]
set_option maxRecDepth 100000 in
theorem rk138 : R138.all (rok 0 138 0 [(139, [12])]) = true := by decide +kernel
set_option maxRecDepth 100000 in
theorem tab138 {F139 : PM → Nat → PM} {G139 : PM → Nat → Prop} : TabOK 0 138 0 [CC139 F139 G139] R138 := tab_ok (K := K138) rfl rfl (fun h => d138 h) rk138 (by decide +kernel)
set_option maxRecDepth 100000 in
theorem pc138 : cutpc [] R138 = true := by decide +kernel
set_option maxRecDepth 100000 in
theorem r9_restore (F139 : PM → Nat → PM) (G139 : PM → Nat → Prop) (o139 : CalOK 0 (CC139 F139 G139)) : ∀ (p : PM) (v0 : Nat), Gr 0 p → bg9_restore F139 G139 p v0 → ZJ 0 138 0 [zR 9 v0] [] p (hwV (bv9_restore F139 p v0)) := by
  intro p v0  hg H
  exact rwV (n := 3000) (q := 0) (la := [zR 9 v0]) (sa := []) (ks := []) (gs := []) (fcons o139 (fnil)) tab138 pc138 trivial hg H
theorem t9_restore : ∀ (p : PM) (v0 : Nat), Gr 0 p → g9_restore p v0 → ZJ 0 138 0 [zR 9 v0] [] p (hwV (v9_restore p v0)) := r9_restore v9_forgetBid g9_forgetBid ok139
def CC138 (F : PM → Nat → PM) (G : PM → Nat → Prop) : Cal := (138, [12], 0, false, fun as p => (zJ, (F p (ar as 0))), fun as p => zsw (tc2 as [(13, 0)]) False (G p (ar as 0)))
set_option maxRecDepth 100000 in
theorem okr138 (F : PM → Nat → PM) (G : PM → Nat → Prop) (h : ∀ (p : PM) (v0 : Nat), Gr 0 p → G p v0 → ZJ 0 138 0 [zR 9 v0] [] p (hwV (F p v0))) : CalOK 0 (CC138 F G) := cal_ok (m := 1) (by unfold mL; rw [mX_138]) (fun as p hg H => h p (ar as 0) hg H)
theorem ok138 : CalOK 0 (CC138 v9_restore g9_restore) := okr138 v9_restore g9_restore t9_restore
noncomputable def bv2_restore_54 (kv41 : PM → Int32 → PM) (kv54 : PM → Int32 → Nat → Int32 → PM) (p : PM) (v3 : Int32) (v4 : Nat) (v5 : Int32) : PM :=
  if v5 < (cn 4) then (
    let p1 : PM := pI p 13 v4 (v5).toNatClampNeg (cn 0)
    kv54 p1 v3 v4 (v5 + (cn 1)))
  else (
    kv41 p (v3 + (cn 1)))
noncomputable def v2_restore_54 (kv41 : PM → Int32 → PM) (n : Nat) : PM → Int32 → Nat → Int32 → PM := Nat.rec (motive := fun _ => PM → Int32 → Nat → Int32 → PM) (fun p _ _ _ => p) (fun _ ih => bv2_restore_54 kv41 ih) n
theorem ev2_restore_54 (kv41 : PM → Int32 → PM) (n : Nat) (p : PM) (v3 : Int32) (v4 : Nat) (v5 : Int32) : v2_restore_54 kv41 (n + 1) p v3 v4 v5 = bv2_restore_54 kv41 (v2_restore_54 kv41 n) p v3 v4 v5 := rfl
noncomputable def bg2_restore_54 (kg41 : PM → Int32 → Prop) (kg54 : PM → Int32 → Nat → Int32 → Prop) (p : PM) (v3 : Int32) (v4 : Nat) (v5 : Int32) : Prop :=
  ((20 ≤ v4 ∧ v4 ≤ 23)) ∧ (
  if v5 < (cn 4) then (
    (((20 ≤ v4 ∧ v4 ≤ 23) ∧ inb v5 4)) ∧ (
    let p1 : PM := pI p 13 v4 (v5).toNatClampNeg (cn 0)
    kg54 p1 v3 v4 (v5 + (cn 1))))
  else (
    kg41 p (v3 + (cn 1))))
noncomputable def g2_restore_54 (kg41 : PM → Int32 → Prop) (n : Nat) : PM → Int32 → Nat → Int32 → Prop := Nat.rec (motive := fun _ => PM → Int32 → Nat → Int32 → Prop) (fun _ _ _ _ => False) (fun _ ih => bg2_restore_54 kg41 ih) n
theorem eg2_restore_54 (kg41 : PM → Int32 → Prop) (n : Nat) (p : PM) (v3 : Int32) (v4 : Nat) (v5 : Int32) : g2_restore_54 kg41 (n + 1) p v3 v4 v5 = bg2_restore_54 kg41 (g2_restore_54 kg41 n) p v3 v4 v5 := rfl
noncomputable def bv2_restore_41 (kv54 : PM → Int32 → Nat → Int32 → PM) (p : PM) (v3 : Int32) : PM :=
  if v3 < (cn 4) then (
    kv54 p v3 ((v3).toNatClampNeg + 20) (cn 0))
  else (
    let p1 : PM := pI p 2 1 4 (cn 0)
    let p2 : PM := pI p1 2 1 5 (cn 500)
    let p3 : PM := pI p2 2 1 6 (cn (-100000))
    p3)
noncomputable def v2_restore_41 (n : Nat) : PM → Int32 → PM := Nat.rec (motive := fun _ => PM → Int32 → PM) (fun p _ => p) (fun _ ih => bv2_restore_41 (v2_restore_54 ih FU)) n
theorem ev2_restore_41 (n : Nat) (p : PM) (v3 : Int32) : v2_restore_41 (n + 1) p v3 = bv2_restore_41 (v2_restore_54 (v2_restore_41 n) FU) p v3 := rfl
noncomputable def bg2_restore_41 (kg54 : PM → Int32 → Nat → Int32 → Prop) (p : PM) (v3 : Int32) : Prop :=
  if v3 < (cn 4) then (
    (inb v3 4) ∧ (
    kg54 p v3 ((v3).toNatClampNeg + 20) (cn 0)))
  else (
    let p1 : PM := pI p 2 1 4 (cn 0)
    let p2 : PM := pI p1 2 1 5 (cn 500)
    let p3 : PM := pI p2 2 1 6 (cn (-100000))
    True)
noncomputable def g2_restore_41 (n : Nat) : PM → Int32 → Prop := Nat.rec (motive := fun _ => PM → Int32 → Prop) (fun _ _ => False) (fun _ ih => bg2_restore_41 (g2_restore_54 ih FU)) n
theorem eg2_restore_41 (n : Nat) (p : PM) (v3 : Int32) : g2_restore_41 (n + 1) p v3 = bg2_restore_41 (g2_restore_54 (g2_restore_41 n) FU) p v3 := rfl
noncomputable def bv2_restore_10 (F138 : PM → Nat → PM) (kv10 : PM → Int32 → PM) (kv41 : PM → Int32 → PM) (p : PM) (v3 : Int32) : PM :=
  if v3 < (cn 4) then (
    let p1 : PM := F138 p ((v3).toNatClampNeg + 1)
    kv10 p1 (v3 + (cn 1)))
  else (
    kv41 p (cn 0))
noncomputable def v2_restore_10 (n : Nat) : PM → Int32 → PM := Nat.rec (motive := fun _ => PM → Int32 → PM) (fun p _ => p) (fun _ ih => bv2_restore_10 v9_restore ih (v2_restore_41 FU)) n
theorem ev2_restore_10 (n : Nat) (p : PM) (v3 : Int32) : v2_restore_10 (n + 1) p v3 = bv2_restore_10 v9_restore (v2_restore_10 n) (v2_restore_41 FU) p v3 := rfl
noncomputable def bg2_restore_10 (F138 : PM → Nat → PM) (G138 : PM → Nat → Prop) (kg10 : PM → Int32 → Prop) (kg41 : PM → Int32 → Prop) (p : PM) (v3 : Int32) : Prop :=
  if v3 < (cn 4) then (
    (inb v3 4) ∧ (
    (G138 p ((v3).toNatClampNeg + 1)) ∧ (
    let p1 : PM := F138 p ((v3).toNatClampNeg + 1)
    kg10 p1 (v3 + (cn 1)))))
  else (
    kg41 p (cn 0))
noncomputable def g2_restore_10 (n : Nat) : PM → Int32 → Prop := Nat.rec (motive := fun _ => PM → Int32 → Prop) (fun _ _ => False) (fun _ ih => bg2_restore_10 v9_restore g9_restore ih (g2_restore_41 FU)) n
theorem eg2_restore_10 (n : Nat) (p : PM) (v3 : Int32) : g2_restore_10 (n + 1) p v3 = bg2_restore_10 v9_restore g9_restore (g2_restore_10 n) (g2_restore_41 FU) p v3 := rfl
noncomputable def bv2_restore (kv10 : PM → Int32 → PM) (p : PM) : PM :=
  kv10 p (cn 0)
noncomputable def v2_restore (p : PM) : PM := bv2_restore (v2_restore_10 FU) p
noncomputable def bg2_restore (kg10 : PM → Int32 → Prop) (p : PM) : Prop :=
  kg10 p (cn 0)
noncomputable def g2_restore (p : PM) : Prop := bg2_restore (g2_restore_10 FU) p
def R17 : List Row := [(0, .aload_n 0, 1, 0, (0, 0, 0, 0, 0, 0)), (1, .getfield 11, 3, 0, (2, 2, 22, 2, 1, 0)), (4, .astore_n 1, 1, 0, (0, 0, 0, 0, 0, 0)), (5, .aload_n 1, 1, 0, (0, 0, 0, 0, 0, 0)), (6, .arraylength, 1, 0, (19, 4, 0, 0, 0, 4)), (7, .istore_n 2, 1, 0, (0, 0, 0, 0, 0, 0)), (8, .iconst 0, 1, 0, (0, 0, 0, 0, 0, 0)), (9, .istore_n 3, 1, 0, (0, 0, 0, 0, 0, 0)), (10, .iload_n 3, 1, 1, (0, 0, 0, 0, 0, 0)), (11, .iload_n 2, 1, 0, (0, 0, 0, 0, 0, 0)), (12, .if_icmp .ge 19, 3, 0, (0, 0, 0, 0, 0, 0)), (15, .aload_n 1, 1, 0, (0, 0, 0, 0, 0, 0)), (16, .iload_n 3, 1, 0, (0, 0, 0, 0, 0, 0)), (17, .aaload, 1, 0, (19, 4, 0, 1, 1, 0)), (18, .astore 4, 2, 0, (0, 0, 0, 0, 0, 0)), (20, .aload 4, 2, 0, (0, 0, 0, 0, 0, 0)), (22, .invokevirtual 31, 3, 0, (0, 1, 0, 0, 1, 0)), (25, .iinc 3 1, 3, 0, (0, 0, 0, 0, 0, 1)), (28, .goto (-18), 3, 0, (0, 0, 0, 0, 0, 0)), (31, .aload_n 0, 1, 0, (0, 0, 0, 0, 0, 0)), (32, .getfield 19, 3, 0, (2, 3, 24, 2, 1, 0)), (35, .astore_n 1, 1, 0, (0, 0, 0, 0, 0, 0)), (36, .aload_n 1, 1, 0, (0, 0, 0, 0, 0, 0)), (37, .arraylength, 1, 0, (21, 4, 0, 0, 0, 4)), (38, .istore_n 2, 1, 0, (0, 0, 0, 0, 0, 0)), (39, .iconst 0, 1, 0, (0, 0, 0, 0, 0, 0)), (40, .istore_n 3, 1, 0, (0, 0, 0, 0, 0, 0)), (41, .iload_n 3, 1, 2, (0, 0, 0, 0, 0, 0)), (42, .iload_n 2, 1, 0, (0, 0, 0, 0, 0, 0)), (43, .if_icmp .ge 37, 3, 0, (0, 0, 0, 0, 0, 0)), (46, .aload_n 1, 1, 0, (0, 0, 0, 0, 0, 0)), (47, .iload_n 3, 1, 0, (0, 0, 0, 0, 0, 0)), (48, .aaload, 1, 0, (21, 4, 0, 1, 20, 0)), (49, .astore 4, 2, 0, (0, 0, 0, 0, 0, 0)), (51, .iconst 0, 1, 0, (0, 0, 0, 0, 0, 0)), (52, .istore 5, 2, 0, (0, 0, 0, 0, 0, 0)), (54, .iload 5, 2, 3, (0, 0, 0, 0, 0, 0)), (56, .aload 4, 2, 0, (0, 0, 0, 0, 0, 0)), (58, .arraylength, 1, 0, (13, 4, 2, 0, 0, 4)), (59, .if_icmp .ge 15, 3, 0, (0, 0, 0, 0, 0, 0)), (62, .aload 4, 2, 0, (0, 0, 0, 0, 0, 0)), (64, .iload 5, 2, 0, (0, 0, 0, 0, 0, 0)), (66, .iconst 0, 1, 0, (0, 0, 0, 0, 0, 0)), (67, .iastore, 1, 0, (13, 4, 2, 0, 0, 0)), (68, .iinc 5 1, 3, 0, (0, 0, 0, 0, 0, 1)), (71, .goto (-17), 3, 0, (0, 0, 0, 0, 0, 0)), (74, .iinc 3 1, 3, 0, (0, 0, 0, 0, 0, 1)), (77, .goto (-36), 3, 0, (0, 0, 0, 0, 0, 0)), (80, .aload_n 0, 1, 0, (0, 0, 0, 0, 0, 0)), (81, .iconst 0, 1, 0, (0, 0, 0, 0, 0, 0)), (82, .putfield 34, 3, 0, (2, 4, 0, 1, 0, 0)), (85, .aload_n 0, 1, 0, (0, 0, 0, 0, 0, 0)), (86, .sipush 500, 3, 0, (0, 0, 0, 0, 0, 500)), (89, .putfield 38, 3, 0, (2, 5, 0, 1, 0, 0)), (92, .aload_n 0, 1, 0, (0, 0, 0, 0, 0, 0)), (93, .ldc 41, 2, 0, (0, 0, 0, 0, 0, -100000)), (95, .putfield 42, 3, 0, (2, 6, 0, 1, 0, 0)), (98, .return_, 1, 0, (0, 0, 0, 0, 0, 0))]
set_option maxRecDepth 100000 in
theorem rk17 : R17.all (rok 0 17 0 [(138, [12])]) = true := by decide +kernel
set_option maxRecDepth 100000 in
theorem tab17 {F138 : PM → Nat → PM} {G138 : PM → Nat → Prop} : TabOK 0 17 0 [CC138 F138 G138] R17 := tab_ok (K := K17) rfl rfl (fun h => d17 h) rk17 (by decide +kernel)
set_option maxRecDepth 100000 in
theorem pc17 : cutpc [10, 41, 54] R17 = true := by decide +kernel
set_option maxRecDepth 100000 in
theorem r2_restore_54 (F138 : PM → Nat → PM) (G138 : PM → Nat → Prop) (o138 : CalOK 0 (CC138 F138 G138)) (kv41 : PM → Int32 → PM) (kg41 : PM → Int32 → Prop) (hk41 : ∀ (p : PM) (v3 : Int32) (d4 d5 : ZV), Gr 0 p → kg41 p v3 → ZJ 0 17 41 [zR 2 1, zR 21 1, zC 4, zI v3, d4, d5] [] p (hwV (kv41 p v3))) (kv54 : PM → Int32 → Nat → Int32 → PM) (kg54 : PM → Int32 → Nat → Int32 → Prop) (hk54 : ∀ (p : PM) (v3 : Int32) (v4 : Nat) (v5 : Int32), Gr 0 p → kg54 p v3 v4 v5 → ZJ 0 17 54 [zR 2 1, zR 21 1, zC 4, zI v3, zR 13 v4, zI v5] [] p (hwV (kv54 p v3 v4 v5))) : ∀ (p : PM) (v3 : Int32) (v4 : Nat) (v5 : Int32), Gr 0 p → bg2_restore_54 kg41 kg54 p v3 v4 v5 → ZJ 0 17 54 [zR 2 1, zR 21 1, zC 4, zI v3, zR 13 v4, zI v5] [] p (hwV (bv2_restore_54 kv41 kv54 p v3 v4 v5)) := by
  intro p v3 v4 v5  hg H
  exact rwV (n := 3000) (q := 54) (la := [zR 2 1, zR 21 1, zC 4, zI v3, zR 13 v4, zI v5]) (sa := []) (ks := [fun _ _ s => s, fun la sa s => kv41 s (ai la 3), fun la sa s => kv54 s (ai la 3) (ar la 4) (ai la 5)]) (gs := [fun _ _ _ => False, fun la sa s => zsw (tc2 la [(102, 1), (121, 1), (3, 4), (0, 0), (2, 0), (2, 0)] && tc2 sa []) False (kg41 s (ai la 3)), fun la sa s => zsw (tc2 la [(102, 1), (121, 1), (3, 4), (0, 0), (17, 0), (0, 0)] && tc2 sa []) False (kg54 s (ai la 3) (ar la 4) (ai la 5))]) (fcons o138 (fnil)) tab17 pc17 ⟨fun _ _ _ _ H => H.elim, fun la sa s hg H => zcut H fun H => hk41 s (ai la 3) (zld la 4) (zld la 5) hg H, fun la sa s hg H => zcut H fun H => hk54 s (ai la 3) (ar la 4) (ai la 5) hg H, trivial⟩ hg H
theorem t2_restore_54 (kv41 : PM → Int32 → PM) (kg41 : PM → Int32 → Prop) (hk41 : ∀ (p : PM) (v3 : Int32) (d4 d5 : ZV), Gr 0 p → kg41 p v3 → ZJ 0 17 41 [zR 2 1, zR 21 1, zC 4, zI v3, d4, d5] [] p (hwV (kv41 p v3))) : ∀ (n : Nat), ∀ (p : PM) (v3 : Int32) (v4 : Nat) (v5 : Int32), Gr 0 p → g2_restore_54 kg41 n p v3 v4 v5 → ZJ 0 17 54 [zR 2 1, zR 21 1, zC 4, zI v3, zR 13 v4, zI v5] [] p (hwV (v2_restore_54 kv41 n p v3 v4 v5)) := by
  intro n
  induction n with
  | zero =>
    intro p v3 v4 v5  hg H
    exact H.elim
  | succ n ih => exact r2_restore_54 v9_restore g9_restore ok138 kv41 kg41 hk41 (v2_restore_54 kv41 n) (g2_restore_54 kg41 n) ih
set_option maxRecDepth 100000 in
theorem r2_restore_41 (F138 : PM → Nat → PM) (G138 : PM → Nat → Prop) (o138 : CalOK 0 (CC138 F138 G138)) (kv54 : PM → Int32 → Nat → Int32 → PM) (kg54 : PM → Int32 → Nat → Int32 → Prop) (hk54 : ∀ (p : PM) (v3 : Int32) (v4 : Nat) (v5 : Int32), Gr 0 p → kg54 p v3 v4 v5 → ZJ 0 17 54 [zR 2 1, zR 21 1, zC 4, zI v3, zR 13 v4, zI v5] [] p (hwV (kv54 p v3 v4 v5))) : ∀ (p : PM) (v3 : Int32) (d4 d5 : ZV), Gr 0 p → bg2_restore_41 kg54 p v3 → ZJ 0 17 41 [zR 2 1, zR 21 1, zC 4, zI v3, d4, d5] [] p (hwV (bv2_restore_41 kv54 p v3)) := by
  intro p v3 d4 d5 hg H
  exact rwV (n := 3000) (q := 41) (la := [zR 2 1, zR 21 1, zC 4, zI v3, d4, d5]) (sa := []) (ks := [fun _ _ s => s, fun _ _ s => s, fun la sa s => kv54 s (ai la 3) (ar la 4) (ai la 5)]) (gs := [fun _ _ _ => False, fun _ _ _ => False, fun la sa s => zsw (tc2 la [(102, 1), (121, 1), (3, 4), (0, 0), (17, 0), (0, 0)] && tc2 sa []) False (kg54 s (ai la 3) (ar la 4) (ai la 5))]) (fcons o138 (fnil)) tab17 pc17 ⟨fun _ _ _ _ H => H.elim, fun _ _ _ _ H => H.elim, fun la sa s hg H => zcut H fun H => hk54 s (ai la 3) (ar la 4) (ai la 5) hg H, trivial⟩ hg H
theorem t2_restore_41 : ∀ (n : Nat), ∀ (p : PM) (v3 : Int32) (d4 d5 : ZV), Gr 0 p → g2_restore_41 n p v3 → ZJ 0 17 41 [zR 2 1, zR 21 1, zC 4, zI v3, d4, d5] [] p (hwV (v2_restore_41 n p v3)) := by
  intro n
  induction n with
  | zero =>
    intro p v3 d4 d5 hg H
    exact H.elim
  | succ n ih => exact r2_restore_41 v9_restore g9_restore ok138 (v2_restore_54 (v2_restore_41 n) FU) (g2_restore_54 (g2_restore_41 n) FU) (t2_restore_54 (v2_restore_41 n) (g2_restore_41 n) ih FU)
set_option maxRecDepth 100000 in
theorem r2_restore_10 (F138 : PM → Nat → PM) (G138 : PM → Nat → Prop) (o138 : CalOK 0 (CC138 F138 G138)) (kv10 : PM → Int32 → PM) (kg10 : PM → Int32 → Prop) (hk10 : ∀ (p : PM) (v3 : Int32) (d4 d5 : ZV), Gr 0 p → kg10 p v3 → ZJ 0 17 10 [zR 2 1, zR 19 1, zC 4, zI v3, d4, d5] [] p (hwV (kv10 p v3))) (kv41 : PM → Int32 → PM) (kg41 : PM → Int32 → Prop) (hk41 : ∀ (p : PM) (v3 : Int32) (d4 d5 : ZV), Gr 0 p → kg41 p v3 → ZJ 0 17 41 [zR 2 1, zR 21 1, zC 4, zI v3, d4, d5] [] p (hwV (kv41 p v3))) : ∀ (p : PM) (v3 : Int32) (d4 d5 : ZV), Gr 0 p → bg2_restore_10 F138 G138 kg10 kg41 p v3 → ZJ 0 17 10 [zR 2 1, zR 19 1, zC 4, zI v3, d4, d5] [] p (hwV (bv2_restore_10 F138 kv10 kv41 p v3)) := by
  intro p v3 d4 d5 hg H
  exact rwV (n := 3000) (q := 10) (la := [zR 2 1, zR 19 1, zC 4, zI v3, d4, d5]) (sa := []) (ks := [fun la sa s => kv10 s (ai la 3), fun la sa s => kv41 s (ai la 3), fun _ _ s => s]) (gs := [fun la sa s => zsw (tc2 la [(102, 1), (119, 1), (3, 4), (0, 0), (2, 0), (2, 0)] && tc2 sa []) False (kg10 s (ai la 3)), fun la sa s => zsw (tc2 la [(102, 1), (121, 1), (3, 4), (0, 0), (2, 0), (2, 0)] && tc2 sa []) False (kg41 s (ai la 3)), fun _ _ _ => False]) (fcons o138 (fnil)) tab17 pc17 ⟨fun la sa s hg H => zcut H fun H => hk10 s (ai la 3) (zld la 4) (zld la 5) hg H, fun la sa s hg H => zcut H fun H => hk41 s (ai la 3) (zld la 4) (zld la 5) hg H, fun _ _ _ _ H => H.elim, trivial⟩ hg H
theorem t2_restore_10 : ∀ (n : Nat), ∀ (p : PM) (v3 : Int32) (d4 d5 : ZV), Gr 0 p → g2_restore_10 n p v3 → ZJ 0 17 10 [zR 2 1, zR 19 1, zC 4, zI v3, d4, d5] [] p (hwV (v2_restore_10 n p v3)) := by
  intro n
  induction n with
  | zero =>
    intro p v3 d4 d5 hg H
    exact H.elim
  | succ n ih => exact r2_restore_10 v9_restore g9_restore ok138 (v2_restore_10 n) (g2_restore_10 n) ih (v2_restore_41 FU) (g2_restore_41 FU) (t2_restore_41 FU)
set_option maxRecDepth 100000 in
theorem r2_restore (F138 : PM → Nat → PM) (G138 : PM → Nat → Prop) (o138 : CalOK 0 (CC138 F138 G138)) (kv10 : PM → Int32 → PM) (kg10 : PM → Int32 → Prop) (hk10 : ∀ (p : PM) (v3 : Int32) (d4 d5 : ZV), Gr 0 p → kg10 p v3 → ZJ 0 17 10 [zR 2 1, zR 19 1, zC 4, zI v3, d4, d5] [] p (hwV (kv10 p v3))) : ∀ (p : PM), Gr 0 p → bg2_restore kg10 p → ZJ 0 17 0 [zR 2 1, zJ, zJ, zJ, zJ, zJ] [] p (hwV (bv2_restore kv10 p)) := by
  intro p   hg H
  exact rwV (n := 3000) (q := 0) (la := [zR 2 1, zJ, zJ, zJ, zJ, zJ]) (sa := []) (ks := [fun la sa s => kv10 s (ai la 3), fun _ _ s => s, fun _ _ s => s]) (gs := [fun la sa s => zsw (tc2 la [(102, 1), (119, 1), (3, 4), (0, 0), (2, 0), (2, 0)] && tc2 sa []) False (kg10 s (ai la 3)), fun _ _ _ => False, fun _ _ _ => False]) (fcons o138 (fnil)) tab17 pc17 ⟨fun la sa s hg H => zcut H fun H => hk10 s (ai la 3) (zld la 4) (zld la 5) hg H, fun _ _ _ _ H => H.elim, fun _ _ _ _ H => H.elim, trivial⟩ hg H
theorem t2_restore : ∀ (p : PM), Gr 0 p → g2_restore p → ZJ 0 17 0 [zR 2 1, zJ, zJ, zJ, zJ, zJ] [] p (hwV (v2_restore p)) := r2_restore v9_restore g9_restore ok138 (v2_restore_10 FU) (g2_restore_10 FU) (t2_restore_10 FU)
def CC17 (F : PM → PM) (G : PM → Prop) : Cal := (17, [5], 0, false, fun as p => (zJ, (F p )), fun as p => zsw (tc2 as [(102, 1)]) False (G p ))
set_option maxRecDepth 100000 in
theorem okr17 (F : PM → PM) (G : PM → Prop) (h : ∀ (p : PM), Gr 0 p → G p  → ZJ 0 17 0 [zR 2 1, zJ, zJ, zJ, zJ, zJ] [] p (hwV (F p ))) : CalOK 0 (CC17 F G) := cal_ok (m := 6) (by unfold mL; rw [mX_17]) (fun as p hg H => h p  hg H)
theorem ok17 : CalOK 0 (CC17 v2_restore g2_restore) := okr17 v2_restore g2_restore t2_restore
noncomputable def bv2_memberAt (p : PM) (v1 : Int32) : Nat :=
  if v1 < 0 then (
    1)
  else (
    if v1 < (cn 4) then (
      ((v1).toNatClampNeg + 1))
    else (
      1))
noncomputable def v2_memberAt (p : PM) (v1 : Int32) : Nat := bv2_memberAt p v1
noncomputable def bg2_memberAt (p : PM) (v1 : Int32) : Prop :=
  if v1 < 0 then (
    True)
  else (
    if v1 < (cn 4) then (
      (inb v1 4) ∧ (
      True))
    else (
      True))
noncomputable def g2_memberAt (p : PM) (v1 : Int32) : Prop := bg2_memberAt p v1
def R18 : List Row := [(0, .aload_n 0, 1, 0, (0, 0, 0, 0, 0, 0)), (1, .getfield 11, 3, 0, (2, 2, 22, 2, 1, 0)), (4, .iload_n 1, 1, 0, (0, 0, 0, 0, 0, 0)), (5, .ifCond .lt 16, 3, 0, (0, 0, 0, 0, 0, 0)), (8, .iload_n 1, 1, 0, (0, 0, 0, 0, 0, 0)), (9, .aload_n 0, 1, 0, (0, 0, 0, 0, 0, 0)), (10, .getfield 11, 3, 0, (2, 2, 22, 2, 1, 0)), (13, .arraylength, 1, 0, (19, 4, 0, 0, 0, 4)), (14, .if_icmp .ge 7, 3, 0, (0, 0, 0, 0, 0, 0)), (17, .iload_n 1, 1, 0, (0, 0, 0, 0, 0, 0)), (18, .goto 4, 3, 0, (0, 0, 0, 0, 0, 0)), (21, .iconst 0, 1, 0, (0, 0, 0, 0, 0, 0)), (22, .aaload, 1, 0, (19, 4, 0, 1, 1, 0)), (23, .areturn, 1, 0, (9, 0, 0, 0, 0, 0))]
set_option maxRecDepth 100000 in
theorem rk18 : R18.all (rok 0 18 (3 + 9) []) = true := by decide +kernel
set_option maxRecDepth 100000 in
theorem tab18 : TabOK 0 18 (3 + 9) [] R18 := tab_ok (K := K18) rfl rfl (fun h => d18 h) rk18 (by decide +kernel)
set_option maxRecDepth 100000 in
theorem pc18 : cutpc [] R18 = true := by decide +kernel
set_option maxRecDepth 100000 in
theorem r2_memberAt (p : PM) (hg : Gr 0 p) : ∀ (v1 : Int32), bg2_memberAt p v1 → ZJ 0 18 0 [zR 2 1, zI v1] [] p (hoR 9 p (bv2_memberAt p v1)) := by
  intro v1  H
  exact roR 9 (n := 3000) (q := 0) (la := [zR 2 1, zI v1]) (sa := []) (ks := []) (gs := []) (fnil) tab18 pc18 trivial hg H
theorem t2_memberAt (p : PM) (hg : Gr 0 p) : ∀ (v1 : Int32), g2_memberAt p v1 → ZJ 0 18 0 [zR 2 1, zI v1] [] p (hoR 9 p (v2_memberAt p v1)) := r2_memberAt p hg
def CC18 (F : PM → Int32 → Nat) (G : PM → Int32 → Prop) : Cal := (18, [5, 0], (3 + 9), true, fun as p => (zR 9 (F p (ai as 1)), p), fun as p => zsw (tc2 as [(102, 1), (0, 0)]) False (G p (ai as 1)))
set_option maxRecDepth 100000 in
theorem okr18 (F : PM → Int32 → Nat) (G : PM → Int32 → Prop) (h : ∀ (p : PM) (v1 : Int32), Gr 0 p → G p v1 → ZJ 0 18 0 [zR 2 1, zI v1] [] p (hoR 9 p (F p v1))) : CalOK 0 (CC18 F G) := cal_ok (m := 2) (by unfold mL; rw [mX_18]) (fun as p hg H => h p (ai as 1) hg H)
theorem ok18 : CalOK 0 (CC18 v2_memberAt g2_memberAt) := okr18 v2_memberAt g2_memberAt (fun p v1 hg H => t2_memberAt p hg v1 H)
noncomputable def bv7_accountAt (p : PM) (v1 : Int32) : Nat :=
  if v1 < 0 then (
    9)
  else (
    if v1 < (cn 9) then (
      ((v1).toNatClampNeg + 1))
    else (
      9))
noncomputable def v7_accountAt (p : PM) (v1 : Int32) : Nat := bv7_accountAt p v1
noncomputable def bg7_accountAt (p : PM) (v1 : Int32) : Prop :=
  if v1 < 0 then (
    True)
  else (
    if v1 < (cn 9) then (
      (inb v1 9) ∧ (
      True))
    else (
      True))
noncomputable def g7_accountAt (p : PM) (v1 : Int32) : Prop := bg7_accountAt p v1
def R104 : List Row := [(0, .aload_n 0, 1, 0, (0, 0, 0, 0, 0, 0)), (1, .getfield 11, 3, 0, (7, 0, 19, 2, 1, 0)), (4, .iload_n 1, 1, 0, (0, 0, 0, 0, 0, 0)), (5, .ifCond .lt 16, 3, 0, (0, 0, 0, 0, 0, 0)), (8, .iload_n 1, 1, 0, (0, 0, 0, 0, 0, 0)), (9, .aload_n 0, 1, 0, (0, 0, 0, 0, 0, 0)), (10, .getfield 11, 3, 0, (7, 0, 19, 2, 1, 0)), (13, .arraylength, 1, 0, (16, 9, 0, 0, 0, 9)), (14, .if_icmp .ge 7, 3, 0, (0, 0, 0, 0, 0, 0)), (17, .iload_n 1, 1, 0, (0, 0, 0, 0, 0, 0)), (18, .goto 5, 3, 0, (0, 0, 0, 0, 0, 0)), (21, .bipush 8, 2, 0, (0, 0, 0, 0, 0, 8)), (23, .aaload, 1, 0, (16, 9, 0, 1, 1, 0)), (24, .areturn, 1, 0, (0, 0, 0, 0, 0, 0))]
set_option maxRecDepth 100000 in
theorem rk104 : R104.all (rok 0 104 (3 + 0) []) = true := by decide +kernel
set_option maxRecDepth 100000 in
theorem tab104 : TabOK 0 104 (3 + 0) [] R104 := tab_ok (K := K104) rfl rfl (fun h => d104 h) rk104 (by decide +kernel)
set_option maxRecDepth 100000 in
theorem pc104 : cutpc [] R104 = true := by decide +kernel
set_option maxRecDepth 100000 in
theorem r7_accountAt (p : PM) (hg : Gr 0 p) : ∀ (v1 : Int32), bg7_accountAt p v1 → ZJ 0 104 0 [zR 7 1, zI v1] [] p (hoR 0 p (bv7_accountAt p v1)) := by
  intro v1  H
  exact roR 0 (n := 3000) (q := 0) (la := [zR 7 1, zI v1]) (sa := []) (ks := []) (gs := []) (fnil) tab104 pc104 trivial hg H
theorem t7_accountAt (p : PM) (hg : Gr 0 p) : ∀ (v1 : Int32), g7_accountAt p v1 → ZJ 0 104 0 [zR 7 1, zI v1] [] p (hoR 0 p (v7_accountAt p v1)) := r7_accountAt p hg
def CC104 (F : PM → Int32 → Nat) (G : PM → Int32 → Prop) : Cal := (104, [10, 0], (3 + 0), true, fun as p => (zR 0 (F p (ai as 1)), p), fun as p => zsw (tc2 as [(107, 1), (0, 0)]) False (G p (ai as 1)))
set_option maxRecDepth 100000 in
theorem okr104 (F : PM → Int32 → Nat) (G : PM → Int32 → Prop) (h : ∀ (p : PM) (v1 : Int32), Gr 0 p → G p v1 → ZJ 0 104 0 [zR 7 1, zI v1] [] p (hoR 0 p (F p v1))) : CalOK 0 (CC104 F G) := cal_ok (m := 2) (by unfold mL; rw [mX_104]) (fun as p hg H => h p (ai as 1) hg H)
theorem ok104 : CalOK 0 (CC104 v7_accountAt g7_accountAt) := okr104 v7_accountAt g7_accountAt (fun p v1 hg H => t7_accountAt p hg v1 H)
noncomputable def bv2_lowerOf (p : PM) (F104 : PM → Int32 → Nat) (v1 : Int32) : Nat :=
  (F104 p ((cn 2) * v1))
noncomputable def v2_lowerOf (p : PM) (v1 : Int32) : Nat := bv2_lowerOf p v7_accountAt v1
noncomputable def bg2_lowerOf (p : PM) (F104 : PM → Int32 → Nat) (G104 : PM → Int32 → Prop) (v1 : Int32) : Prop :=
  (G104 p ((cn 2) * v1)) ∧ (
  True)
noncomputable def g2_lowerOf (p : PM) (v1 : Int32) : Prop := bg2_lowerOf p v7_accountAt g7_accountAt v1
def R19 : List Row := [(0, .aload_n 0, 1, 0, (0, 0, 0, 0, 0, 0)), (1, .getfield 26, 3, 0, (2, 1, 10, 2, 1, 0)), (4, .iconst 2, 1, 0, (0, 0, 0, 0, 0, 2)), (5, .iload_n 1, 1, 0, (0, 0, 0, 0, 0, 0)), (6, .imul, 1, 0, (0, 0, 0, 0, 0, 0)), (7, .invokevirtual 45, 3, 0, (0, 2, 0, 0, 1, 0)), (10, .areturn, 1, 0, (0, 0, 0, 0, 0, 0))]
set_option maxRecDepth 100000 in
theorem rk19 : R19.all (rok 0 19 (3 + 0) [(104, [10, 0])]) = true := by decide +kernel
set_option maxRecDepth 100000 in
theorem tab19 {F104 : PM → Int32 → Nat} {G104 : PM → Int32 → Prop} : TabOK 0 19 (3 + 0) [CC104 F104 G104] R19 := tab_ok (K := K19) rfl rfl (fun h => d19 h) rk19 (by decide +kernel)
set_option maxRecDepth 100000 in
theorem pc19 : cutpc [] R19 = true := by decide +kernel
set_option maxRecDepth 100000 in
theorem r2_lowerOf (p : PM) (hg : Gr 0 p) (F104 : PM → Int32 → Nat) (G104 : PM → Int32 → Prop) (o104 : CalOK 0 (CC104 F104 G104)) : ∀ (v1 : Int32), bg2_lowerOf p F104 G104 v1 → ZJ 0 19 0 [zR 2 1, zI v1] [] p (hoR 0 p (bv2_lowerOf p F104 v1)) := by
  intro v1  H
  exact roR 0 (n := 3000) (q := 0) (la := [zR 2 1, zI v1]) (sa := []) (ks := []) (gs := []) (fcons o104 (fnil)) tab19 pc19 trivial hg H
theorem t2_lowerOf (p : PM) (hg : Gr 0 p) : ∀ (v1 : Int32), g2_lowerOf p v1 → ZJ 0 19 0 [zR 2 1, zI v1] [] p (hoR 0 p (v2_lowerOf p v1)) := r2_lowerOf p hg v7_accountAt g7_accountAt ok104
def CC19 (F : PM → Int32 → Nat) (G : PM → Int32 → Prop) : Cal := (19, [5, 0], (3 + 0), true, fun as p => (zR 0 (F p (ai as 1)), p), fun as p => zsw (tc2 as [(102, 1), (0, 0)]) False (G p (ai as 1)))
set_option maxRecDepth 100000 in
theorem okr19 (F : PM → Int32 → Nat) (G : PM → Int32 → Prop) (h : ∀ (p : PM) (v1 : Int32), Gr 0 p → G p v1 → ZJ 0 19 0 [zR 2 1, zI v1] [] p (hoR 0 p (F p v1))) : CalOK 0 (CC19 F G) := cal_ok (m := 2) (by unfold mL; rw [mX_19]) (fun as p hg H => h p (ai as 1) hg H)
theorem ok19 : CalOK 0 (CC19 v2_lowerOf g2_lowerOf) := okr19 v2_lowerOf g2_lowerOf (fun p v1 hg H => t2_lowerOf p hg v1 H)
noncomputable def bv2_upperOf (p : PM) (F104 : PM → Int32 → Nat) (v1 : Int32) : Nat :=
  (F104 p (((cn 2) * v1) + (cn 1)))
noncomputable def v2_upperOf (p : PM) (v1 : Int32) : Nat := bv2_upperOf p v7_accountAt v1
noncomputable def bg2_upperOf (p : PM) (F104 : PM → Int32 → Nat) (G104 : PM → Int32 → Prop) (v1 : Int32) : Prop :=
  (G104 p (((cn 2) * v1) + (cn 1))) ∧ (
  True)
noncomputable def g2_upperOf (p : PM) (v1 : Int32) : Prop := bg2_upperOf p v7_accountAt g7_accountAt v1
def R20 : List Row := [(0, .aload_n 0, 1, 0, (0, 0, 0, 0, 0, 0)), (1, .getfield 26, 3, 0, (2, 1, 10, 2, 1, 0)), (4, .iconst 2, 1, 0, (0, 0, 0, 0, 0, 2)), (5, .iload_n 1, 1, 0, (0, 0, 0, 0, 0, 0)), (6, .imul, 1, 0, (0, 0, 0, 0, 0, 0)), (7, .iconst 1, 1, 0, (0, 0, 0, 0, 0, 1)), (8, .iadd, 1, 0, (0, 0, 0, 0, 0, 0)), (9, .invokevirtual 45, 3, 0, (0, 2, 0, 0, 1, 0)), (12, .areturn, 1, 0, (0, 0, 0, 0, 0, 0))]
set_option maxRecDepth 100000 in
theorem rk20 : R20.all (rok 0 20 (3 + 0) [(104, [10, 0])]) = true := by decide +kernel
set_option maxRecDepth 100000 in
theorem tab20 {F104 : PM → Int32 → Nat} {G104 : PM → Int32 → Prop} : TabOK 0 20 (3 + 0) [CC104 F104 G104] R20 := tab_ok (K := K20) rfl rfl (fun h => d20 h) rk20 (by decide +kernel)
set_option maxRecDepth 100000 in
theorem pc20 : cutpc [] R20 = true := by decide +kernel
set_option maxRecDepth 100000 in
theorem r2_upperOf (p : PM) (hg : Gr 0 p) (F104 : PM → Int32 → Nat) (G104 : PM → Int32 → Prop) (o104 : CalOK 0 (CC104 F104 G104)) : ∀ (v1 : Int32), bg2_upperOf p F104 G104 v1 → ZJ 0 20 0 [zR 2 1, zI v1] [] p (hoR 0 p (bv2_upperOf p F104 v1)) := by
  intro v1  H
  exact roR 0 (n := 3000) (q := 0) (la := [zR 2 1, zI v1]) (sa := []) (ks := []) (gs := []) (fcons o104 (fnil)) tab20 pc20 trivial hg H
theorem t2_upperOf (p : PM) (hg : Gr 0 p) : ∀ (v1 : Int32), g2_upperOf p v1 → ZJ 0 20 0 [zR 2 1, zI v1] [] p (hoR 0 p (v2_upperOf p v1)) := r2_upperOf p hg v7_accountAt g7_accountAt ok104
def CC20 (F : PM → Int32 → Nat) (G : PM → Int32 → Prop) : Cal := (20, [5, 0], (3 + 0), true, fun as p => (zR 0 (F p (ai as 1)), p), fun as p => zsw (tc2 as [(102, 1), (0, 0)]) False (G p (ai as 1)))
set_option maxRecDepth 100000 in
theorem okr20 (F : PM → Int32 → Nat) (G : PM → Int32 → Prop) (h : ∀ (p : PM) (v1 : Int32), Gr 0 p → G p v1 → ZJ 0 20 0 [zR 2 1, zI v1] [] p (hoR 0 p (F p v1))) : CalOK 0 (CC20 F G) := cal_ok (m := 2) (by unfold mL; rw [mX_20]) (fun as p hg H => h p (ai as 1) hg H)
theorem ok20 : CalOK 0 (CC20 v2_upperOf g2_upperOf) := okr20 v2_upperOf g2_upperOf (fun p v1 hg H => t2_upperOf p hg v1 H)
noncomputable def bv2_moveOf (p : PM) (v1 : Int32) (v2 : Int32) : Int32 :=
  if v1 < 0 then (
    (cn 0))
  else (
    if v1 < (cn 4) then (
      if v2 < 0 then (
        (cn 0))
      else (
        if v2 < (cn 4) then (
          (p.1 13 ((v1).toNatClampNeg + 20) (v2).toNatClampNeg))
        else (
          (cn 0))))
    else (
      (cn 0)))
noncomputable def v2_moveOf (p : PM) (v1 : Int32) (v2 : Int32) : Int32 := bv2_moveOf p v1 v2
noncomputable def bg2_moveOf (p : PM) (v1 : Int32) (v2 : Int32) : Prop :=
  if v1 < 0 then (
    True)
  else (
    if v1 < (cn 4) then (
      (inb v1 4) ∧ (
      if v2 < 0 then (
        True)
      else (
        ((20 ≤ ((v1).toNatClampNeg + 20) ∧ ((v1).toNatClampNeg + 20) ≤ 23)) ∧ (
        if v2 < (cn 4) then (
          (((20 ≤ ((v1).toNatClampNeg + 20) ∧ ((v1).toNatClampNeg + 20) ≤ 23) ∧ inb v2 4)) ∧ (
          True))
        else (
          True)))))
    else (
      True))
noncomputable def g2_moveOf (p : PM) (v1 : Int32) (v2 : Int32) : Prop := bg2_moveOf p v1 v2
def R23 : List Row := [(0, .iload_n 1, 1, 0, (0, 0, 0, 0, 0, 0)), (1, .ifCond .lt 12, 3, 0, (0, 0, 0, 0, 0, 0)), (4, .iload_n 1, 1, 0, (0, 0, 0, 0, 0, 0)), (5, .aload_n 0, 1, 0, (0, 0, 0, 0, 0, 0)), (6, .getfield 19, 3, 0, (2, 3, 24, 2, 1, 0)), (9, .arraylength, 1, 0, (21, 4, 0, 0, 0, 4)), (10, .if_icmp .lt 5, 3, 0, (0, 0, 0, 0, 0, 0)), (13, .iconst 0, 1, 0, (0, 0, 0, 0, 0, 0)), (14, .ireturn, 1, 0, (0, 0, 0, 0, 0, 0)), (15, .aload_n 0, 1, 0, (0, 0, 0, 0, 0, 0)), (16, .getfield 19, 3, 0, (2, 3, 24, 2, 1, 0)), (19, .iload_n 1, 1, 0, (0, 0, 0, 0, 0, 0)), (20, .aaload, 1, 0, (21, 4, 0, 1, 20, 0)), (21, .astore_n 3, 1, 0, (0, 0, 0, 0, 0, 0)), (22, .iload_n 2, 1, 0, (0, 0, 0, 0, 0, 0)), (23, .ifCond .lt 15, 3, 0, (0, 0, 0, 0, 0, 0)), (26, .iload_n 2, 1, 0, (0, 0, 0, 0, 0, 0)), (27, .aload_n 3, 1, 0, (0, 0, 0, 0, 0, 0)), (28, .arraylength, 1, 0, (13, 4, 2, 0, 0, 4)), (29, .if_icmp .ge 9, 3, 0, (0, 0, 0, 0, 0, 0)), (32, .aload_n 3, 1, 0, (0, 0, 0, 0, 0, 0)), (33, .iload_n 2, 1, 0, (0, 0, 0, 0, 0, 0)), (34, .iaload, 1, 0, (13, 4, 2, 0, 0, 0)), (35, .goto 4, 3, 0, (0, 0, 0, 0, 0, 0)), (38, .iconst 0, 1, 0, (0, 0, 0, 0, 0, 0)), (39, .ireturn, 1, 0, (0, 0, 0, 0, 0, 0))]
set_option maxRecDepth 100000 in
theorem rk23 : R23.all (rok 0 23 1 []) = true := by decide +kernel
set_option maxRecDepth 100000 in
theorem tab23 : TabOK 0 23 1 [] R23 := tab_ok (K := K23) rfl rfl (fun h => d23 h) rk23 (by decide +kernel)
set_option maxRecDepth 100000 in
theorem pc23 : cutpc [] R23 = true := by decide +kernel
set_option maxRecDepth 100000 in
theorem r2_moveOf (p : PM) (hg : Gr 0 p) : ∀ (v1 : Int32) (v2 : Int32), bg2_moveOf p v1 v2 → ZJ 0 23 0 [zR 2 1, zI v1, zI v2, zJ] [] p (hoI p (bv2_moveOf p v1 v2)) := by
  intro v1 v2  H
  exact roI (n := 3000) (q := 0) (la := [zR 2 1, zI v1, zI v2, zJ]) (sa := []) (ks := []) (gs := []) (fnil) tab23 pc23 trivial hg H
theorem t2_moveOf (p : PM) (hg : Gr 0 p) : ∀ (v1 : Int32) (v2 : Int32), g2_moveOf p v1 v2 → ZJ 0 23 0 [zR 2 1, zI v1, zI v2, zJ] [] p (hoI p (v2_moveOf p v1 v2)) := r2_moveOf p hg
def CC23 (F : PM → Int32 → Int32 → Int32) (G : PM → Int32 → Int32 → Prop) : Cal := (23, [5, 0, 0], 1, true, fun as p => (zI (F p (ai as 1) (ai as 2)), p), fun as p => zsw (tc2 as [(102, 1), (0, 0), (0, 0)]) False (G p (ai as 1) (ai as 2)))
set_option maxRecDepth 100000 in
theorem okr23 (F : PM → Int32 → Int32 → Int32) (G : PM → Int32 → Int32 → Prop) (h : ∀ (p : PM) (v1 : Int32) (v2 : Int32), Gr 0 p → G p v1 v2 → ZJ 0 23 0 [zR 2 1, zI v1, zI v2, zJ] [] p (hoI p (F p v1 v2))) : CalOK 0 (CC23 F G) := cal_ok (m := 4) (by unfold mL; rw [mX_23]) (fun as p hg H => h p (ai as 1) (ai as 2) hg H)
theorem ok23 : CalOK 0 (CC23 v2_moveOf g2_moveOf) := okr23 v2_moveOf g2_moveOf (fun p v1 v2 hg H => t2_moveOf p hg v1 v2 H)
noncomputable def bv2_netOf (p : PM) (F2 : PM → Nat → Int32 → Int32) (F104 : PM → Int32 → Nat) (v1 : Int32) (v2 : Int32) : Int64 :=
  let x1 : Nat := (F104 p ((cn 2) * v1))
  let x2 : Nat := (F104 p (((cn 2) * v1) + (cn 1)))
  (((F2 p x1 v2)).toInt64 + ((F2 p x2 v2)).toInt64)
noncomputable def v2_netOf (p : PM) (v1 : Int32) (v2 : Int32) : Int64 := bv2_netOf p v0_holds v7_accountAt v1 v2
noncomputable def bg2_netOf (p : PM) (F2 : PM → Nat → Int32 → Int32) (G2 : PM → Nat → Int32 → Prop) (F104 : PM → Int32 → Nat) (G104 : PM → Int32 → Prop) (v1 : Int32) (v2 : Int32) : Prop :=
  (G104 p ((cn 2) * v1)) ∧ (
  let x1 : Nat := (F104 p ((cn 2) * v1))
  (G104 p (((cn 2) * v1) + (cn 1))) ∧ (
  let x2 : Nat := (F104 p (((cn 2) * v1) + (cn 1)))
  (¬ x1 = 0) ∧ (
  (G2 p x1 v2) ∧ (
  (¬ x2 = 0) ∧ (
  (G2 p x2 v2) ∧ (
  True))))))
noncomputable def g2_netOf (p : PM) (v1 : Int32) (v2 : Int32) : Prop := bg2_netOf p v0_holds g0_holds v7_accountAt g7_accountAt v1 v2
def R22 : List Row := [(0, .aload_n 0, 1, 0, (0, 0, 0, 0, 0, 0)), (1, .getfield 26, 3, 0, (2, 1, 10, 2, 1, 0)), (4, .iconst 2, 1, 0, (0, 0, 0, 0, 0, 2)), (5, .iload_n 1, 1, 0, (0, 0, 0, 0, 0, 0)), (6, .imul, 1, 0, (0, 0, 0, 0, 0, 0)), (7, .invokevirtual 45, 3, 0, (0, 2, 0, 0, 1, 0)), (10, .astore_n 3, 1, 0, (0, 0, 0, 0, 0, 0)), (11, .aload_n 0, 1, 0, (0, 0, 0, 0, 0, 0)), (12, .getfield 26, 3, 0, (2, 1, 10, 2, 1, 0)), (15, .iconst 2, 1, 0, (0, 0, 0, 0, 0, 2)), (16, .iload_n 1, 1, 0, (0, 0, 0, 0, 0, 0)), (17, .imul, 1, 0, (0, 0, 0, 0, 0, 0)), (18, .iconst 1, 1, 0, (0, 0, 0, 0, 0, 1)), (19, .iadd, 1, 0, (0, 0, 0, 0, 0, 0)), (20, .invokevirtual 45, 3, 0, (0, 2, 0, 0, 1, 0)), (23, .astore 4, 2, 0, (0, 0, 0, 0, 0, 0)), (25, .aload_n 3, 1, 0, (0, 0, 0, 0, 0, 0)), (26, .iload_n 2, 1, 0, (0, 0, 0, 0, 0, 0)), (27, .invokevirtual 80, 3, 0, (1, 2, 0, 0, 2, 0)), (30, .i2l, 1, 0, (0, 0, 0, 0, 0, 0)), (31, .aload 4, 2, 0, (0, 0, 0, 0, 0, 0)), (33, .iload_n 2, 1, 0, (0, 0, 0, 0, 0, 0)), (34, .invokevirtual 80, 3, 0, (1, 2, 0, 0, 2, 0)), (37, .i2l, 1, 0, (0, 0, 0, 0, 0, 0)), (38, .ladd, 1, 0, (0, 0, 0, 0, 0, 0)), (39, .lreturn, 1, 0, (0, 0, 0, 0, 0, 0))]
set_option maxRecDepth 100000 in
theorem rk22 : R22.all (rok 0 22 2 [(104, [10, 0]), (2, [3, 0])]) = true := by decide +kernel
set_option maxRecDepth 100000 in
theorem tab22 {F104 : PM → Int32 → Nat} {G104 : PM → Int32 → Prop} {F2 : PM → Nat → Int32 → Int32} {G2 : PM → Nat → Int32 → Prop} : TabOK 0 22 2 [CC104 F104 G104, CC2 F2 G2] R22 := tab_ok (K := K22) rfl rfl (fun h => d22 h) rk22 (by decide +kernel)
set_option maxRecDepth 100000 in
theorem pc22 : cutpc [] R22 = true := by decide +kernel
set_option maxRecDepth 100000 in
theorem r2_netOf (p : PM) (hg : Gr 0 p) (F104 : PM → Int32 → Nat) (G104 : PM → Int32 → Prop) (o104 : CalOK 0 (CC104 F104 G104)) (F2 : PM → Nat → Int32 → Int32) (G2 : PM → Nat → Int32 → Prop) (o2 : CalOK 0 (CC2 F2 G2)) : ∀ (v1 : Int32) (v2 : Int32), bg2_netOf p F2 G2 F104 G104 v1 v2 → ZJ 0 22 0 [zR 2 1, zI v1, zI v2, zJ, zJ] [] p (hoL p (bv2_netOf p F2 F104 v1 v2)) := by
  intro v1 v2  H
  exact roL (n := 3000) (q := 0) (la := [zR 2 1, zI v1, zI v2, zJ, zJ]) (sa := []) (ks := []) (gs := []) (fcons o104 (fcons o2 (fnil))) tab22 pc22 trivial hg H
theorem t2_netOf (p : PM) (hg : Gr 0 p) : ∀ (v1 : Int32) (v2 : Int32), g2_netOf p v1 v2 → ZJ 0 22 0 [zR 2 1, zI v1, zI v2, zJ, zJ] [] p (hoL p (v2_netOf p v1 v2)) := r2_netOf p hg v7_accountAt g7_accountAt ok104 v0_holds g0_holds ok2
def CC22 (F : PM → Int32 → Int32 → Int64) (G : PM → Int32 → Int32 → Prop) : Cal := (22, [5, 0, 0], 2, true, fun as p => (zL (F p (ai as 1) (ai as 2)), p), fun as p => zsw (tc2 as [(102, 1), (0, 0), (0, 0)]) False (G p (ai as 1) (ai as 2)))
set_option maxRecDepth 100000 in
theorem okr22 (F : PM → Int32 → Int32 → Int64) (G : PM → Int32 → Int32 → Prop) (h : ∀ (p : PM) (v1 : Int32) (v2 : Int32), Gr 0 p → G p v1 v2 → ZJ 0 22 0 [zR 2 1, zI v1, zI v2, zJ, zJ] [] p (hoL p (F p v1 v2))) : CalOK 0 (CC22 F G) := cal_ok (m := 5) (by unfold mL; rw [mX_22]) (fun as p hg H => h p (ai as 1) (ai as 2) hg H)
theorem ok22 : CalOK 0 (CC22 v2_netOf g2_netOf) := okr22 v2_netOf g2_netOf (fun p v1 v2 hg H => t2_netOf p hg v1 v2 H)
noncomputable def bv14_max_f86c9 (p : PM) (v0 : Int64) (v2 : Int64) : Int64 :=
  if (lg_cmp v0 v2) < 0 then (
    v2)
  else (
    v0)
noncomputable def v14_max_f86c9 (p : PM) (v0 : Int64) (v2 : Int64) : Int64 := bv14_max_f86c9 p v0 v2
noncomputable def bg14_max_f86c9 (p : PM) (v0 : Int64) (v2 : Int64) : Prop :=
  if (lg_cmp v0 v2) < 0 then (
    True)
  else (
    True)
noncomputable def g14_max_f86c9 (p : PM) (v0 : Int64) (v2 : Int64) : Prop := bg14_max_f86c9 p v0 v2
def R208 : List Row := [(0, .lload_n 0, 1, 0, (0, 0, 0, 0, 0, 0)), (1, .lload_n 2, 1, 0, (0, 0, 0, 0, 0, 0)), (2, .lcmp, 1, 0, (0, 0, 0, 0, 0, 0)), (3, .ifCond .lt 7, 3, 0, (0, 0, 0, 0, 0, 0)), (6, .lload_n 0, 1, 0, (0, 0, 0, 0, 0, 0)), (7, .goto 4, 3, 0, (0, 0, 0, 0, 0, 0)), (10, .lload_n 2, 1, 0, (0, 0, 0, 0, 0, 0)), (11, .lreturn, 1, 0, (0, 0, 0, 0, 0, 0))]
set_option maxRecDepth 100000 in
theorem rk208 : R208.all (rok 0 208 2 []) = true := by decide +kernel
set_option maxRecDepth 100000 in
theorem tab208 : TabOK 0 208 2 [] R208 := tab_ok (K := K208) rfl rfl (fun h => d208 h) rk208 (by decide +kernel)
set_option maxRecDepth 100000 in
theorem pc208 : cutpc [] R208 = true := by decide +kernel
set_option maxRecDepth 100000 in
theorem r14_max_f86c9 (p : PM) (hg : Gr 0 p) : ∀ (v0 : Int64) (v2 : Int64), bg14_max_f86c9 p v0 v2 → ZJ 0 208 0 [zL v0, zJ, zL v2, zJ] [] p (hoL p (bv14_max_f86c9 p v0 v2)) := by
  intro v0 v2  H
  exact roL (n := 3000) (q := 0) (la := [zL v0, zJ, zL v2, zJ]) (sa := []) (ks := []) (gs := []) (fnil) tab208 pc208 trivial hg H
theorem t14_max_f86c9 (p : PM) (hg : Gr 0 p) : ∀ (v0 : Int64) (v2 : Int64), g14_max_f86c9 p v0 v2 → ZJ 0 208 0 [zL v0, zJ, zL v2, zJ] [] p (hoL p (v14_max_f86c9 p v0 v2)) := r14_max_f86c9 p hg
def CC208 (F : PM → Int64 → Int64 → Int64) (G : PM → Int64 → Int64 → Prop) : Cal := (208, [1, 1], 2, true, fun as p => (zL (F p (al as 0) (al as 1)), p), fun as p => zsw (tc2 as [(1, 0), (1, 0)]) False (G p (al as 0) (al as 1)))
set_option maxRecDepth 100000 in
theorem okr208 (F : PM → Int64 → Int64 → Int64) (G : PM → Int64 → Int64 → Prop) (h : ∀ (p : PM) (v0 : Int64) (v2 : Int64), Gr 0 p → G p v0 v2 → ZJ 0 208 0 [zL v0, zJ, zL v2, zJ] [] p (hoL p (F p v0 v2))) : CalOK 0 (CC208 F G) := cal_ok (m := 4) (by unfold mL; rw [mX_208]) (fun as p hg H => h p (al as 0) (al as 1) hg H)
theorem ok208 : CalOK 0 (CC208 v14_max_f86c9 g14_max_f86c9) := okr208 v14_max_f86c9 g14_max_f86c9 (fun p v0 v2 hg H => t14_max_f86c9 p hg v0 v2 H)
noncomputable def bv14_abs_067f4 (p : PM) (v0 : Int64) : Int64 :=
  if (lg_cmp v0 (cl 0)) < 0 then (
    (-v0))
  else (
    v0)
noncomputable def v14_abs_067f4 (p : PM) (v0 : Int64) : Int64 := bv14_abs_067f4 p v0
noncomputable def bg14_abs_067f4 (p : PM) (v0 : Int64) : Prop :=
  if (lg_cmp v0 (cl 0)) < 0 then (
    True)
  else (
    True)
noncomputable def g14_abs_067f4 (p : PM) (v0 : Int64) : Prop := bg14_abs_067f4 p v0
def R206 : List Row := [(0, .lload_n 0, 1, 0, (0, 0, 0, 0, 0, 0)), (1, .lconst 0, 1, 0, (0, 0, 0, 0, 0, 0)), (2, .lcmp, 1, 0, (0, 0, 0, 0, 0, 0)), (3, .ifCond .ge 8, 3, 0, (0, 0, 0, 0, 0, 0)), (6, .lload_n 0, 1, 0, (0, 0, 0, 0, 0, 0)), (7, .lneg, 1, 0, (0, 0, 0, 0, 0, 0)), (8, .goto 4, 3, 0, (0, 0, 0, 0, 0, 0)), (11, .lload_n 0, 1, 0, (0, 0, 0, 0, 0, 0)), (12, .lreturn, 1, 0, (0, 0, 0, 0, 0, 0))]
set_option maxRecDepth 100000 in
theorem rk206 : R206.all (rok 0 206 2 []) = true := by decide +kernel
set_option maxRecDepth 100000 in
theorem tab206 : TabOK 0 206 2 [] R206 := tab_ok (K := K206) rfl rfl (fun h => d206 h) rk206 (by decide +kernel)
set_option maxRecDepth 100000 in
theorem pc206 : cutpc [] R206 = true := by decide +kernel
set_option maxRecDepth 100000 in
theorem r14_abs_067f4 (p : PM) (hg : Gr 0 p) : ∀ (v0 : Int64), bg14_abs_067f4 p v0 → ZJ 0 206 0 [zL v0, zJ] [] p (hoL p (bv14_abs_067f4 p v0)) := by
  intro v0  H
  exact roL (n := 3000) (q := 0) (la := [zL v0, zJ]) (sa := []) (ks := []) (gs := []) (fnil) tab206 pc206 trivial hg H
theorem t14_abs_067f4 (p : PM) (hg : Gr 0 p) : ∀ (v0 : Int64), g14_abs_067f4 p v0 → ZJ 0 206 0 [zL v0, zJ] [] p (hoL p (v14_abs_067f4 p v0)) := r14_abs_067f4 p hg
def CC206 (F : PM → Int64 → Int64) (G : PM → Int64 → Prop) : Cal := (206, [1], 2, true, fun as p => (zL (F p (al as 0)), p), fun as p => zsw (tc2 as [(1, 0)]) False (G p (al as 0)))
set_option maxRecDepth 100000 in
theorem okr206 (F : PM → Int64 → Int64) (G : PM → Int64 → Prop) (h : ∀ (p : PM) (v0 : Int64), Gr 0 p → G p v0 → ZJ 0 206 0 [zL v0, zJ] [] p (hoL p (F p v0))) : CalOK 0 (CC206 F G) := cal_ok (m := 2) (by unfold mL; rw [mX_206]) (fun as p hg H => h p (al as 0) hg H)
theorem ok206 : CalOK 0 (CC206 v14_abs_067f4 g14_abs_067f4) := okr206 v14_abs_067f4 g14_abs_067f4 (fun p v0 hg H => t14_abs_067f4 p hg v0 H)
noncomputable def bv2_riskOf_27 (p : PM) (F22 : PM → Int32 → Int32 → Int64) (F23 : PM → Int32 → Int32 → Int32) (F208 : PM → Int64 → Int64 → Int64) (kv5 : Int32 → Int32 → Int64 → Int32 → Int64) (kv27 : Int32 → Int32 → Int64 → Int32 → Int64 → Int32 → Int64) (v1 : Int32) (v2 : Int32) (v3 : Int64) (v5 : Int32) (v6 : Int64) (v8 : Int32) : Int64 :=
  if v8 < (cn 4) then (
    let x2 : Int64 := (v6 + ((F22 p v1 v8) * ((F23 p v5 v8)).toInt64))
    kv27 v1 v2 v3 v5 x2 (v8 + (cn 1)))
  else (
    let x1 : Int64 := (F208 p v3 (-v6))
    kv5 v1 v2 x1 (v5 + (cn 1)))
noncomputable def v2_riskOf_27 (p : PM) (kv5 : Int32 → Int32 → Int64 → Int32 → Int64) (n : Nat) : Int32 → Int32 → Int64 → Int32 → Int64 → Int32 → Int64 := Nat.rec (motive := fun _ => Int32 → Int32 → Int64 → Int32 → Int64 → Int32 → Int64) (fun _ _ _ _ _ _ => 0) (fun _ ih => bv2_riskOf_27 p v2_netOf v2_moveOf v14_max_f86c9 kv5 ih) n
theorem ev2_riskOf_27 (p : PM) (kv5 : Int32 → Int32 → Int64 → Int32 → Int64) (n : Nat) (v1 : Int32) (v2 : Int32) (v3 : Int64) (v5 : Int32) (v6 : Int64) (v8 : Int32) : v2_riskOf_27 p kv5 (n + 1) v1 v2 v3 v5 v6 v8 = bv2_riskOf_27 p v2_netOf v2_moveOf v14_max_f86c9 kv5 (v2_riskOf_27 p kv5 n) v1 v2 v3 v5 v6 v8 := rfl
noncomputable def bg2_riskOf_27 (p : PM) (F22 : PM → Int32 → Int32 → Int64) (G22 : PM → Int32 → Int32 → Prop) (F23 : PM → Int32 → Int32 → Int32) (G23 : PM → Int32 → Int32 → Prop) (F208 : PM → Int64 → Int64 → Int64) (G208 : PM → Int64 → Int64 → Prop) (kg5 : Int32 → Int32 → Int64 → Int32 → Prop) (kg27 : Int32 → Int32 → Int64 → Int32 → Int64 → Int32 → Prop) (v1 : Int32) (v2 : Int32) (v3 : Int64) (v5 : Int32) (v6 : Int64) (v8 : Int32) : Prop :=
  if v8 < (cn 4) then (
    (G22 p v1 v8) ∧ (
    (G23 p v5 v8) ∧ (
    let x2 : Int64 := (v6 + ((F22 p v1 v8) * ((F23 p v5 v8)).toInt64))
    kg27 v1 v2 v3 v5 x2 (v8 + (cn 1)))))
  else (
    (G208 p v3 (-v6)) ∧ (
    let x1 : Int64 := (F208 p v3 (-v6))
    kg5 v1 v2 x1 (v5 + (cn 1))))
noncomputable def g2_riskOf_27 (p : PM) (kg5 : Int32 → Int32 → Int64 → Int32 → Prop) (n : Nat) : Int32 → Int32 → Int64 → Int32 → Int64 → Int32 → Prop := Nat.rec (motive := fun _ => Int32 → Int32 → Int64 → Int32 → Int64 → Int32 → Prop) (fun _ _ _ _ _ _ => False) (fun _ ih => bg2_riskOf_27 p v2_netOf g2_netOf v2_moveOf g2_moveOf v14_max_f86c9 g14_max_f86c9 kg5 ih) n
theorem eg2_riskOf_27 (p : PM) (kg5 : Int32 → Int32 → Int64 → Int32 → Prop) (n : Nat) (v1 : Int32) (v2 : Int32) (v3 : Int64) (v5 : Int32) (v6 : Int64) (v8 : Int32) : g2_riskOf_27 p kg5 (n + 1) v1 v2 v3 v5 v6 v8 = bg2_riskOf_27 p v2_netOf g2_netOf v2_moveOf g2_moveOf v14_max_f86c9 g14_max_f86c9 kg5 (g2_riskOf_27 p kg5 n) v1 v2 v3 v5 v6 v8 := rfl
noncomputable def bv2_riskOf_78 (p : PM) (F22 : PM → Int32 → Int32 → Int64) (F206 : PM → Int64 → Int64) (F208 : PM → Int64 → Int64 → Int64) (kv78 : Int32 → Int64 → Int32 → Int64) (v1 : Int32) (v3 : Int64) (v5 : Int32) : Int64 :=
  if v5 < (cn 4) then (
    let x1 : Int64 := (v3 + ((cl 5) * (F208 p (cl 0) ((F206 p (F22 p v1 v5)) - (cl 30)))))
    kv78 v1 x1 (v5 + (cn 1)))
  else (
    v3)
noncomputable def v2_riskOf_78 (p : PM) (n : Nat) : Int32 → Int64 → Int32 → Int64 := Nat.rec (motive := fun _ => Int32 → Int64 → Int32 → Int64) (fun _ _ _ => 0) (fun _ ih => bv2_riskOf_78 p v2_netOf v14_abs_067f4 v14_max_f86c9 ih) n
theorem ev2_riskOf_78 (p : PM) (n : Nat) (v1 : Int32) (v3 : Int64) (v5 : Int32) : v2_riskOf_78 p (n + 1) v1 v3 v5 = bv2_riskOf_78 p v2_netOf v14_abs_067f4 v14_max_f86c9 (v2_riskOf_78 p n) v1 v3 v5 := rfl
noncomputable def bg2_riskOf_78 (p : PM) (F22 : PM → Int32 → Int32 → Int64) (G22 : PM → Int32 → Int32 → Prop) (F206 : PM → Int64 → Int64) (G206 : PM → Int64 → Prop) (F208 : PM → Int64 → Int64 → Int64) (G208 : PM → Int64 → Int64 → Prop) (kg78 : Int32 → Int64 → Int32 → Prop) (v1 : Int32) (v3 : Int64) (v5 : Int32) : Prop :=
  if v5 < (cn 4) then (
    (G22 p v1 v5) ∧ (
    (G206 p (F22 p v1 v5)) ∧ (
    (G208 p (cl 0) ((F206 p (F22 p v1 v5)) - (cl 30))) ∧ (
    let x1 : Int64 := (v3 + ((cl 5) * (F208 p (cl 0) ((F206 p (F22 p v1 v5)) - (cl 30)))))
    kg78 v1 x1 (v5 + (cn 1))))))
  else (
    True)
noncomputable def g2_riskOf_78 (p : PM) (n : Nat) : Int32 → Int64 → Int32 → Prop := Nat.rec (motive := fun _ => Int32 → Int64 → Int32 → Prop) (fun _ _ _ => False) (fun _ ih => bg2_riskOf_78 p v2_netOf g2_netOf v14_abs_067f4 g14_abs_067f4 v14_max_f86c9 g14_max_f86c9 ih) n
theorem eg2_riskOf_78 (p : PM) (n : Nat) (v1 : Int32) (v3 : Int64) (v5 : Int32) : g2_riskOf_78 p (n + 1) v1 v3 v5 = bg2_riskOf_78 p v2_netOf g2_netOf v14_abs_067f4 g14_abs_067f4 v14_max_f86c9 g14_max_f86c9 (g2_riskOf_78 p n) v1 v3 v5 := rfl
noncomputable def bv2_riskOf_5 (p : PM) (F23 : PM → Int32 → Int32 → Int32) (kv27 : Int32 → Int32 → Int64 → Int32 → Int64 → Int32 → Int64) (kv78 : Int32 → Int64 → Int32 → Int64) (v1 : Int32) (v2 : Int32) (v3 : Int64) (v5 : Int32) : Int64 :=
  if v5 < (cn 4) then (
    let x1 : Int64 := ((v2).toInt64 * ((F23 p v5 (cn 1))).toInt64)
    kv27 v1 v2 v3 v5 x1 (cn 0))
  else (
    kv78 v1 v3 (cn 0))
noncomputable def v2_riskOf_5 (p : PM) (n : Nat) : Int32 → Int32 → Int64 → Int32 → Int64 := Nat.rec (motive := fun _ => Int32 → Int32 → Int64 → Int32 → Int64) (fun _ _ _ _ => 0) (fun _ ih => bv2_riskOf_5 p v2_moveOf (v2_riskOf_27 p ih FU) (v2_riskOf_78 p FU)) n
theorem ev2_riskOf_5 (p : PM) (n : Nat) (v1 : Int32) (v2 : Int32) (v3 : Int64) (v5 : Int32) : v2_riskOf_5 p (n + 1) v1 v2 v3 v5 = bv2_riskOf_5 p v2_moveOf (v2_riskOf_27 p (v2_riskOf_5 p n) FU) (v2_riskOf_78 p FU) v1 v2 v3 v5 := rfl
noncomputable def bg2_riskOf_5 (p : PM) (F23 : PM → Int32 → Int32 → Int32) (G23 : PM → Int32 → Int32 → Prop) (kg27 : Int32 → Int32 → Int64 → Int32 → Int64 → Int32 → Prop) (kg78 : Int32 → Int64 → Int32 → Prop) (v1 : Int32) (v2 : Int32) (v3 : Int64) (v5 : Int32) : Prop :=
  if v5 < (cn 4) then (
    (G23 p v5 (cn 1)) ∧ (
    let x1 : Int64 := ((v2).toInt64 * ((F23 p v5 (cn 1))).toInt64)
    kg27 v1 v2 v3 v5 x1 (cn 0)))
  else (
    kg78 v1 v3 (cn 0))
noncomputable def g2_riskOf_5 (p : PM) (n : Nat) : Int32 → Int32 → Int64 → Int32 → Prop := Nat.rec (motive := fun _ => Int32 → Int32 → Int64 → Int32 → Prop) (fun _ _ _ _ => False) (fun _ ih => bg2_riskOf_5 p v2_moveOf g2_moveOf (g2_riskOf_27 p ih FU) (g2_riskOf_78 p FU)) n
theorem eg2_riskOf_5 (p : PM) (n : Nat) (v1 : Int32) (v2 : Int32) (v3 : Int64) (v5 : Int32) : g2_riskOf_5 p (n + 1) v1 v2 v3 v5 = bg2_riskOf_5 p v2_moveOf g2_moveOf (g2_riskOf_27 p (g2_riskOf_5 p n) FU) (g2_riskOf_78 p FU) v1 v2 v3 v5 := rfl
noncomputable def bv2_riskOf (p : PM) (kv5 : Int32 → Int32 → Int64 → Int32 → Int64) (v1 : Int32) (v2 : Int32) : Int64 :=
  kv5 v1 v2 (cl 0) (cn 0)
noncomputable def v2_riskOf (p : PM) (v1 : Int32) (v2 : Int32) : Int64 := bv2_riskOf p (v2_riskOf_5 p FU) v1 v2
noncomputable def bg2_riskOf (p : PM) (kg5 : Int32 → Int32 → Int64 → Int32 → Prop) (v1 : Int32) (v2 : Int32) : Prop :=
  kg5 v1 v2 (cl 0) (cn 0)
noncomputable def g2_riskOf (p : PM) (v1 : Int32) (v2 : Int32) : Prop := bg2_riskOf p (g2_riskOf_5 p FU) v1 v2
def R24 : List Row := [(0, .lconst 0, 1, 0, (0, 0, 0, 0, 0, 0)), (1, .lstore_n 3, 1, 0, (0, 0, 0, 0, 0, 0)), (2, .iconst 0, 1, 0, (0, 0, 0, 0, 0, 0)), (3, .istore 5, 2, 0, (0, 0, 0, 0, 0, 0)), (5, .iload 5, 2, 1, (0, 0, 0, 0, 0, 0)), (7, .iconst 4, 1, 0, (0, 0, 0, 0, 0, 4)), (8, .if_icmp .ge 67, 3, 0, (0, 0, 0, 0, 0, 0)), (11, .iload_n 2, 1, 0, (0, 0, 0, 0, 0, 0)), (12, .i2l, 1, 0, (0, 0, 0, 0, 0, 0)), (13, .aload_n 0, 1, 0, (0, 0, 0, 0, 0, 0)), (14, .iload 5, 2, 0, (0, 0, 0, 0, 0, 0)), (16, .iconst 1, 1, 0, (0, 0, 0, 0, 0, 1)), (17, .invokevirtual 86, 3, 0, (0, 3, 0, 0, 1, 0)), (20, .i2l, 1, 0, (0, 0, 0, 0, 0, 0)), (21, .lmul, 1, 0, (0, 0, 0, 0, 0, 0)), (22, .lstore 6, 2, 0, (0, 0, 0, 0, 0, 0)), (24, .iconst 0, 1, 0, (0, 0, 0, 0, 0, 0)), (25, .istore 8, 2, 0, (0, 0, 0, 0, 0, 0)), (27, .iload 8, 2, 2, (0, 0, 0, 0, 0, 0)), (29, .iconst 4, 1, 0, (0, 0, 0, 0, 0, 4)), (30, .if_icmp .ge 31, 3, 0, (0, 0, 0, 0, 0, 0)), (33, .lload 6, 2, 0, (0, 0, 0, 0, 0, 0)), (35, .aload_n 0, 1, 0, (0, 0, 0, 0, 0, 0)), (36, .iload_n 1, 1, 0, (0, 0, 0, 0, 0, 0)), (37, .iload 8, 2, 0, (0, 0, 0, 0, 0, 0)), (39, .invokevirtual 90, 3, 0, (1, 3, 0, 0, 1, 0)), (42, .aload_n 0, 1, 0, (0, 0, 0, 0, 0, 0)), (43, .iload 5, 2, 0, (0, 0, 0, 0, 0, 0)), (45, .iload 8, 2, 0, (0, 0, 0, 0, 0, 0)), (47, .invokevirtual 86, 3, 0, (0, 3, 0, 0, 1, 0)), (50, .i2l, 1, 0, (0, 0, 0, 0, 0, 0)), (51, .lmul, 1, 0, (0, 0, 0, 0, 0, 0)), (52, .ladd, 1, 0, (0, 0, 0, 0, 0, 0)), (53, .lstore 6, 2, 0, (0, 0, 0, 0, 0, 0)), (55, .iinc 8 1, 3, 0, (0, 0, 0, 0, 0, 1)), (58, .goto (-31), 3, 0, (0, 0, 0, 0, 0, 0)), (61, .lload_n 3, 1, 0, (0, 0, 0, 0, 0, 0)), (62, .lload 6, 2, 0, (0, 0, 0, 0, 0, 0)), (64, .lneg, 1, 0, (0, 0, 0, 0, 0, 0)), (65, .invokestatic 93, 3, 0, (3, 2, 0, 0, 0, 0)), (68, .lstore_n 3, 1, 0, (0, 0, 0, 0, 0, 0)), (69, .iinc 5 1, 3, 0, (0, 0, 0, 0, 0, 1)), (72, .goto (-67), 3, 0, (0, 0, 0, 0, 0, 0)), (75, .iconst 0, 1, 0, (0, 0, 0, 0, 0, 0)), (76, .istore 5, 2, 0, (0, 0, 0, 0, 0, 0)), (78, .iload 5, 2, 3, (0, 0, 0, 0, 0, 0)), (80, .iconst 4, 1, 0, (0, 0, 0, 0, 0, 4)), (81, .if_icmp .ge 34, 3, 0, (0, 0, 0, 0, 0, 0)), (84, .lload_n 3, 1, 0, (0, 0, 0, 0, 0, 0)), (85, .ldc2_w 99, 3, 0, (0, 0, 0, 0, 0, 5)), (88, .lconst 0, 1, 0, (0, 0, 0, 0, 0, 0)), (89, .aload_n 0, 1, 0, (0, 0, 0, 0, 0, 0)), (90, .iload_n 1, 1, 0, (0, 0, 0, 0, 0, 0)), (91, .iload 5, 2, 0, (0, 0, 0, 0, 0, 0)), (93, .invokevirtual 90, 3, 0, (1, 3, 0, 0, 1, 0)), (96, .invokestatic 101, 3, 0, (2, 1, 0, 0, 0, 0)), (99, .ldc2_w 105, 3, 0, (0, 0, 0, 0, 0, 30)), (102, .lsub, 1, 0, (0, 0, 0, 0, 0, 0)), (103, .invokestatic 93, 3, 0, (3, 2, 0, 0, 0, 0)), (106, .lmul, 1, 0, (0, 0, 0, 0, 0, 0)), (107, .ladd, 1, 0, (0, 0, 0, 0, 0, 0)), (108, .lstore_n 3, 1, 0, (0, 0, 0, 0, 0, 0)), (109, .iinc 5 1, 3, 0, (0, 0, 0, 0, 0, 1)), (112, .goto (-34), 3, 0, (0, 0, 0, 0, 0, 0)), (115, .lload_n 3, 1, 0, (0, 0, 0, 0, 0, 0)), (116, .lreturn, 1, 0, (0, 0, 0, 0, 0, 0))]
set_option maxRecDepth 100000 in
theorem rk24 : R24.all (rok 0 24 2 [(23, [5, 0, 0]), (22, [5, 0, 0]), (206, [1]), (208, [1, 1])]) = true := by decide +kernel
set_option maxRecDepth 100000 in
theorem tab24 {F23 : PM → Int32 → Int32 → Int32} {G23 : PM → Int32 → Int32 → Prop} {F22 : PM → Int32 → Int32 → Int64} {G22 : PM → Int32 → Int32 → Prop} {F206 : PM → Int64 → Int64} {G206 : PM → Int64 → Prop} {F208 : PM → Int64 → Int64 → Int64} {G208 : PM → Int64 → Int64 → Prop} : TabOK 0 24 2 [CC23 F23 G23, CC22 F22 G22, CC206 F206 G206, CC208 F208 G208] R24 := tab_ok (K := K24) rfl rfl (fun h => d24 h) rk24 (by decide +kernel)
set_option maxRecDepth 100000 in
theorem pc24 : cutpc [5, 27, 78] R24 = true := by decide +kernel
set_option maxRecDepth 100000 in
theorem r2_riskOf_27 (p : PM) (hg : Gr 0 p) (F23 : PM → Int32 → Int32 → Int32) (G23 : PM → Int32 → Int32 → Prop) (o23 : CalOK 0 (CC23 F23 G23)) (F22 : PM → Int32 → Int32 → Int64) (G22 : PM → Int32 → Int32 → Prop) (o22 : CalOK 0 (CC22 F22 G22)) (F206 : PM → Int64 → Int64) (G206 : PM → Int64 → Prop) (o206 : CalOK 0 (CC206 F206 G206)) (F208 : PM → Int64 → Int64 → Int64) (G208 : PM → Int64 → Int64 → Prop) (o208 : CalOK 0 (CC208 F208 G208)) (kv5 : Int32 → Int32 → Int64 → Int32 → Int64) (kg5 : Int32 → Int32 → Int64 → Int32 → Prop) (hk5 : ∀ (v1 : Int32) (v2 : Int32) (v3 : Int64) (v5 : Int32) (d4 d6 d7 d8 : ZV), kg5 v1 v2 v3 v5 → ZJ 0 24 5 [zR 2 1, zI v1, zI v2, zL v3, d4, zI v5, d6, d7, d8] [] p (hoL p (kv5 v1 v2 v3 v5))) (kv27 : Int32 → Int32 → Int64 → Int32 → Int64 → Int32 → Int64) (kg27 : Int32 → Int32 → Int64 → Int32 → Int64 → Int32 → Prop) (hk27 : ∀ (v1 : Int32) (v2 : Int32) (v3 : Int64) (v5 : Int32) (v6 : Int64) (v8 : Int32) (d4 d7 : ZV), kg27 v1 v2 v3 v5 v6 v8 → ZJ 0 24 27 [zR 2 1, zI v1, zI v2, zL v3, d4, zI v5, zL v6, d7, zI v8] [] p (hoL p (kv27 v1 v2 v3 v5 v6 v8))) : ∀ (v1 : Int32) (v2 : Int32) (v3 : Int64) (v5 : Int32) (v6 : Int64) (v8 : Int32) (d4 d7 : ZV), bg2_riskOf_27 p F22 G22 F23 G23 F208 G208 kg5 kg27 v1 v2 v3 v5 v6 v8 → ZJ 0 24 27 [zR 2 1, zI v1, zI v2, zL v3, d4, zI v5, zL v6, d7, zI v8] [] p (hoL p (bv2_riskOf_27 p F22 F23 F208 kv5 kv27 v1 v2 v3 v5 v6 v8)) := by
  intro v1 v2 v3 v5 v6 v8 d4 d7 H
  exact roL (n := 3000) (q := 27) (la := [zR 2 1, zI v1, zI v2, zL v3, d4, zI v5, zL v6, d7, zI v8]) (sa := []) (ks := [fun la sa _ => kv5 (ai la 1) (ai la 2) (al la 3) (ai la 5), fun la sa _ => kv27 (ai la 1) (ai la 2) (al la 3) (ai la 5) (al la 6) (ai la 8), fun _ _ _ => 0]) (gs := [fun la sa _ => zsw (tc2 la [(102, 1), (0, 0), (0, 0), (1, 0), (2, 0), (0, 0), (2, 0), (2, 0), (2, 0)] && tc2 sa []) False (kg5 (ai la 1) (ai la 2) (al la 3) (ai la 5)), fun la sa _ => zsw (tc2 la [(102, 1), (0, 0), (0, 0), (1, 0), (2, 0), (0, 0), (1, 0), (2, 0), (0, 0)] && tc2 sa []) False (kg27 (ai la 1) (ai la 2) (al la 3) (ai la 5) (al la 6) (ai la 8)), fun _ _ _ => False]) (fcons o23 (fcons o22 (fcons o206 (fcons o208 (fnil))))) tab24 pc24 ⟨fun la sa s hg H => zcut H fun H => hk5 (ai la 1) (ai la 2) (al la 3) (ai la 5) (zld la 4) (zld la 6) (zld la 7) (zld la 8) H, fun la sa s hg H => zcut H fun H => hk27 (ai la 1) (ai la 2) (al la 3) (ai la 5) (al la 6) (ai la 8) (zld la 4) (zld la 7) H, fun _ _ _ _ H => H.elim, trivial⟩ hg H
theorem t2_riskOf_27 (p : PM) (hg : Gr 0 p) (kv5 : Int32 → Int32 → Int64 → Int32 → Int64) (kg5 : Int32 → Int32 → Int64 → Int32 → Prop) (hk5 : ∀ (v1 : Int32) (v2 : Int32) (v3 : Int64) (v5 : Int32) (d4 d6 d7 d8 : ZV), kg5 v1 v2 v3 v5 → ZJ 0 24 5 [zR 2 1, zI v1, zI v2, zL v3, d4, zI v5, d6, d7, d8] [] p (hoL p (kv5 v1 v2 v3 v5))) : ∀ (n : Nat), ∀ (v1 : Int32) (v2 : Int32) (v3 : Int64) (v5 : Int32) (v6 : Int64) (v8 : Int32) (d4 d7 : ZV), g2_riskOf_27 p kg5 n v1 v2 v3 v5 v6 v8 → ZJ 0 24 27 [zR 2 1, zI v1, zI v2, zL v3, d4, zI v5, zL v6, d7, zI v8] [] p (hoL p (v2_riskOf_27 p kv5 n v1 v2 v3 v5 v6 v8)) := by
  intro n
  induction n with
  | zero =>
    intro v1 v2 v3 v5 v6 v8 d4 d7 H
    exact H.elim
  | succ n ih => exact r2_riskOf_27 p hg v2_moveOf g2_moveOf ok23 v2_netOf g2_netOf ok22 v14_abs_067f4 g14_abs_067f4 ok206 v14_max_f86c9 g14_max_f86c9 ok208 kv5 kg5 hk5 (v2_riskOf_27 p kv5 n) (g2_riskOf_27 p kg5 n) ih
set_option maxRecDepth 100000 in
theorem r2_riskOf_78 (p : PM) (hg : Gr 0 p) (F23 : PM → Int32 → Int32 → Int32) (G23 : PM → Int32 → Int32 → Prop) (o23 : CalOK 0 (CC23 F23 G23)) (F22 : PM → Int32 → Int32 → Int64) (G22 : PM → Int32 → Int32 → Prop) (o22 : CalOK 0 (CC22 F22 G22)) (F206 : PM → Int64 → Int64) (G206 : PM → Int64 → Prop) (o206 : CalOK 0 (CC206 F206 G206)) (F208 : PM → Int64 → Int64 → Int64) (G208 : PM → Int64 → Int64 → Prop) (o208 : CalOK 0 (CC208 F208 G208)) (kv78 : Int32 → Int64 → Int32 → Int64) (kg78 : Int32 → Int64 → Int32 → Prop) (hk78 : ∀ (v1 : Int32) (v3 : Int64) (v5 : Int32) (d2 d4 d6 d7 d8 : ZV), kg78 v1 v3 v5 → ZJ 0 24 78 [zR 2 1, zI v1, d2, zL v3, d4, zI v5, d6, d7, d8] [] p (hoL p (kv78 v1 v3 v5))) : ∀ (v1 : Int32) (v3 : Int64) (v5 : Int32) (d2 d4 d6 d7 d8 : ZV), bg2_riskOf_78 p F22 G22 F206 G206 F208 G208 kg78 v1 v3 v5 → ZJ 0 24 78 [zR 2 1, zI v1, d2, zL v3, d4, zI v5, d6, d7, d8] [] p (hoL p (bv2_riskOf_78 p F22 F206 F208 kv78 v1 v3 v5)) := by
  intro v1 v3 v5 d2 d4 d6 d7 d8 H
  exact roL (n := 3000) (q := 78) (la := [zR 2 1, zI v1, d2, zL v3, d4, zI v5, d6, d7, d8]) (sa := []) (ks := [fun _ _ _ => 0, fun _ _ _ => 0, fun la sa _ => kv78 (ai la 1) (al la 3) (ai la 5)]) (gs := [fun _ _ _ => False, fun _ _ _ => False, fun la sa _ => zsw (tc2 la [(102, 1), (0, 0), (2, 0), (1, 0), (2, 0), (0, 0), (2, 0), (2, 0), (2, 0)] && tc2 sa []) False (kg78 (ai la 1) (al la 3) (ai la 5))]) (fcons o23 (fcons o22 (fcons o206 (fcons o208 (fnil))))) tab24 pc24 ⟨fun _ _ _ _ H => H.elim, fun _ _ _ _ H => H.elim, fun la sa s hg H => zcut H fun H => hk78 (ai la 1) (al la 3) (ai la 5) (zld la 2) (zld la 4) (zld la 6) (zld la 7) (zld la 8) H, trivial⟩ hg H
theorem t2_riskOf_78 (p : PM) (hg : Gr 0 p) : ∀ (n : Nat), ∀ (v1 : Int32) (v3 : Int64) (v5 : Int32) (d2 d4 d6 d7 d8 : ZV), g2_riskOf_78 p n v1 v3 v5 → ZJ 0 24 78 [zR 2 1, zI v1, d2, zL v3, d4, zI v5, d6, d7, d8] [] p (hoL p (v2_riskOf_78 p n v1 v3 v5)) := by
  intro n
  induction n with
  | zero =>
    intro v1 v3 v5 d2 d4 d6 d7 d8 H
    exact H.elim
  | succ n ih => exact r2_riskOf_78 p hg v2_moveOf g2_moveOf ok23 v2_netOf g2_netOf ok22 v14_abs_067f4 g14_abs_067f4 ok206 v14_max_f86c9 g14_max_f86c9 ok208 (v2_riskOf_78 p n) (g2_riskOf_78 p n) ih
set_option maxRecDepth 100000 in
theorem r2_riskOf_5 (p : PM) (hg : Gr 0 p) (F23 : PM → Int32 → Int32 → Int32) (G23 : PM → Int32 → Int32 → Prop) (o23 : CalOK 0 (CC23 F23 G23)) (F22 : PM → Int32 → Int32 → Int64) (G22 : PM → Int32 → Int32 → Prop) (o22 : CalOK 0 (CC22 F22 G22)) (F206 : PM → Int64 → Int64) (G206 : PM → Int64 → Prop) (o206 : CalOK 0 (CC206 F206 G206)) (F208 : PM → Int64 → Int64 → Int64) (G208 : PM → Int64 → Int64 → Prop) (o208 : CalOK 0 (CC208 F208 G208)) (kv27 : Int32 → Int32 → Int64 → Int32 → Int64 → Int32 → Int64) (kg27 : Int32 → Int32 → Int64 → Int32 → Int64 → Int32 → Prop) (hk27 : ∀ (v1 : Int32) (v2 : Int32) (v3 : Int64) (v5 : Int32) (v6 : Int64) (v8 : Int32) (d4 d7 : ZV), kg27 v1 v2 v3 v5 v6 v8 → ZJ 0 24 27 [zR 2 1, zI v1, zI v2, zL v3, d4, zI v5, zL v6, d7, zI v8] [] p (hoL p (kv27 v1 v2 v3 v5 v6 v8))) (kv78 : Int32 → Int64 → Int32 → Int64) (kg78 : Int32 → Int64 → Int32 → Prop) (hk78 : ∀ (v1 : Int32) (v3 : Int64) (v5 : Int32) (d2 d4 d6 d7 d8 : ZV), kg78 v1 v3 v5 → ZJ 0 24 78 [zR 2 1, zI v1, d2, zL v3, d4, zI v5, d6, d7, d8] [] p (hoL p (kv78 v1 v3 v5))) : ∀ (v1 : Int32) (v2 : Int32) (v3 : Int64) (v5 : Int32) (d4 d6 d7 d8 : ZV), bg2_riskOf_5 p F23 G23 kg27 kg78 v1 v2 v3 v5 → ZJ 0 24 5 [zR 2 1, zI v1, zI v2, zL v3, d4, zI v5, d6, d7, d8] [] p (hoL p (bv2_riskOf_5 p F23 kv27 kv78 v1 v2 v3 v5)) := by
  intro v1 v2 v3 v5 d4 d6 d7 d8 H
  exact roL (n := 3000) (q := 5) (la := [zR 2 1, zI v1, zI v2, zL v3, d4, zI v5, d6, d7, d8]) (sa := []) (ks := [fun _ _ _ => 0, fun la sa _ => kv27 (ai la 1) (ai la 2) (al la 3) (ai la 5) (al la 6) (ai la 8), fun la sa _ => kv78 (ai la 1) (al la 3) (ai la 5)]) (gs := [fun _ _ _ => False, fun la sa _ => zsw (tc2 la [(102, 1), (0, 0), (0, 0), (1, 0), (2, 0), (0, 0), (1, 0), (2, 0), (0, 0)] && tc2 sa []) False (kg27 (ai la 1) (ai la 2) (al la 3) (ai la 5) (al la 6) (ai la 8)), fun la sa _ => zsw (tc2 la [(102, 1), (0, 0), (2, 0), (1, 0), (2, 0), (0, 0), (2, 0), (2, 0), (2, 0)] && tc2 sa []) False (kg78 (ai la 1) (al la 3) (ai la 5))]) (fcons o23 (fcons o22 (fcons o206 (fcons o208 (fnil))))) tab24 pc24 ⟨fun _ _ _ _ H => H.elim, fun la sa s hg H => zcut H fun H => hk27 (ai la 1) (ai la 2) (al la 3) (ai la 5) (al la 6) (ai la 8) (zld la 4) (zld la 7) H, fun la sa s hg H => zcut H fun H => hk78 (ai la 1) (al la 3) (ai la 5) (zld la 2) (zld la 4) (zld la 6) (zld la 7) (zld la 8) H, trivial⟩ hg H
theorem t2_riskOf_5 (p : PM) (hg : Gr 0 p) : ∀ (n : Nat), ∀ (v1 : Int32) (v2 : Int32) (v3 : Int64) (v5 : Int32) (d4 d6 d7 d8 : ZV), g2_riskOf_5 p n v1 v2 v3 v5 → ZJ 0 24 5 [zR 2 1, zI v1, zI v2, zL v3, d4, zI v5, d6, d7, d8] [] p (hoL p (v2_riskOf_5 p n v1 v2 v3 v5)) := by
  intro n
  induction n with
  | zero =>
    intro v1 v2 v3 v5 d4 d6 d7 d8 H
    exact H.elim
  | succ n ih => exact r2_riskOf_5 p hg v2_moveOf g2_moveOf ok23 v2_netOf g2_netOf ok22 v14_abs_067f4 g14_abs_067f4 ok206 v14_max_f86c9 g14_max_f86c9 ok208 (v2_riskOf_27 p (v2_riskOf_5 p n) FU) (g2_riskOf_27 p (g2_riskOf_5 p n) FU) (t2_riskOf_27 p hg (v2_riskOf_5 p n) (g2_riskOf_5 p n) ih FU) (v2_riskOf_78 p FU) (g2_riskOf_78 p FU) (t2_riskOf_78 p hg FU)
set_option maxRecDepth 100000 in
theorem r2_riskOf (p : PM) (hg : Gr 0 p) (F23 : PM → Int32 → Int32 → Int32) (G23 : PM → Int32 → Int32 → Prop) (o23 : CalOK 0 (CC23 F23 G23)) (F22 : PM → Int32 → Int32 → Int64) (G22 : PM → Int32 → Int32 → Prop) (o22 : CalOK 0 (CC22 F22 G22)) (F206 : PM → Int64 → Int64) (G206 : PM → Int64 → Prop) (o206 : CalOK 0 (CC206 F206 G206)) (F208 : PM → Int64 → Int64 → Int64) (G208 : PM → Int64 → Int64 → Prop) (o208 : CalOK 0 (CC208 F208 G208)) (kv5 : Int32 → Int32 → Int64 → Int32 → Int64) (kg5 : Int32 → Int32 → Int64 → Int32 → Prop) (hk5 : ∀ (v1 : Int32) (v2 : Int32) (v3 : Int64) (v5 : Int32) (d4 d6 d7 d8 : ZV), kg5 v1 v2 v3 v5 → ZJ 0 24 5 [zR 2 1, zI v1, zI v2, zL v3, d4, zI v5, d6, d7, d8] [] p (hoL p (kv5 v1 v2 v3 v5))) : ∀ (v1 : Int32) (v2 : Int32), bg2_riskOf p kg5 v1 v2 → ZJ 0 24 0 [zR 2 1, zI v1, zI v2, zJ, zJ, zJ, zJ, zJ, zJ] [] p (hoL p (bv2_riskOf p kv5 v1 v2)) := by
  intro v1 v2  H
  exact roL (n := 3000) (q := 0) (la := [zR 2 1, zI v1, zI v2, zJ, zJ, zJ, zJ, zJ, zJ]) (sa := []) (ks := [fun la sa _ => kv5 (ai la 1) (ai la 2) (al la 3) (ai la 5), fun _ _ _ => 0, fun _ _ _ => 0]) (gs := [fun la sa _ => zsw (tc2 la [(102, 1), (0, 0), (0, 0), (1, 0), (2, 0), (0, 0), (2, 0), (2, 0), (2, 0)] && tc2 sa []) False (kg5 (ai la 1) (ai la 2) (al la 3) (ai la 5)), fun _ _ _ => False, fun _ _ _ => False]) (fcons o23 (fcons o22 (fcons o206 (fcons o208 (fnil))))) tab24 pc24 ⟨fun la sa s hg H => zcut H fun H => hk5 (ai la 1) (ai la 2) (al la 3) (ai la 5) (zld la 4) (zld la 6) (zld la 7) (zld la 8) H, fun _ _ _ _ H => H.elim, fun _ _ _ _ H => H.elim, trivial⟩ hg H
theorem t2_riskOf (p : PM) (hg : Gr 0 p) : ∀ (v1 : Int32) (v2 : Int32), g2_riskOf p v1 v2 → ZJ 0 24 0 [zR 2 1, zI v1, zI v2, zJ, zJ, zJ, zJ, zJ, zJ] [] p (hoL p (v2_riskOf p v1 v2)) := r2_riskOf p hg v2_moveOf g2_moveOf ok23 v2_netOf g2_netOf ok22 v14_abs_067f4 g14_abs_067f4 ok206 v14_max_f86c9 g14_max_f86c9 ok208 (v2_riskOf_5 p FU) (g2_riskOf_5 p FU) (t2_riskOf_5 p hg FU)
def CC24 (F : PM → Int32 → Int32 → Int64) (G : PM → Int32 → Int32 → Prop) : Cal := (24, [5, 0, 0], 2, true, fun as p => (zL (F p (ai as 1) (ai as 2)), p), fun as p => zsw (tc2 as [(102, 1), (0, 0), (0, 0)]) False (G p (ai as 1) (ai as 2)))
set_option maxRecDepth 100000 in
theorem okr24 (F : PM → Int32 → Int32 → Int64) (G : PM → Int32 → Int32 → Prop) (h : ∀ (p : PM) (v1 : Int32) (v2 : Int32), Gr 0 p → G p v1 v2 → ZJ 0 24 0 [zR 2 1, zI v1, zI v2, zJ, zJ, zJ, zJ, zJ, zJ] [] p (hoL p (F p v1 v2))) : CalOK 0 (CC24 F G) := cal_ok (m := 9) (by unfold mL; rw [mX_24]) (fun as p hg H => h p (ai as 1) (ai as 2) hg H)
theorem ok24 : CalOK 0 (CC24 v2_riskOf g2_riskOf) := okr24 v2_riskOf g2_riskOf (fun p v1 v2 hg H => t2_riskOf p hg v1 v2 H)
noncomputable def bv6_bookAt (p : PM) (v1 : Int32) : Nat :=
  if v1 < 0 then (
    1)
  else (
    if v1 < (cn 6) then (
      ((v1).toNatClampNeg + 1))
    else (
      1))
noncomputable def v6_bookAt (p : PM) (v1 : Int32) : Nat := bv6_bookAt p v1
noncomputable def bg6_bookAt (p : PM) (v1 : Int32) : Prop :=
  if v1 < 0 then (
    True)
  else (
    if v1 < (cn 6) then (
      (inb v1 6) ∧ (
      True))
    else (
      True))
noncomputable def g6_bookAt (p : PM) (v1 : Int32) : Prop := bg6_bookAt p v1
def R73 : List Row := [(0, .aload_n 0, 1, 0, (0, 0, 0, 0, 0, 0)), (1, .getfield 17, 3, 0, (6, 0, 20, 2, 1, 0)), (4, .iload_n 1, 1, 0, (0, 0, 0, 0, 0, 0)), (5, .ifCond .lt 16, 3, 0, (0, 0, 0, 0, 0, 0)), (8, .iload_n 1, 1, 0, (0, 0, 0, 0, 0, 0)), (9, .aload_n 0, 1, 0, (0, 0, 0, 0, 0, 0)), (10, .getfield 17, 3, 0, (6, 0, 20, 2, 1, 0)), (13, .arraylength, 1, 0, (17, 6, 0, 0, 0, 6)), (14, .if_icmp .ge 7, 3, 0, (0, 0, 0, 0, 0, 0)), (17, .iload_n 1, 1, 0, (0, 0, 0, 0, 0, 0)), (18, .goto 4, 3, 0, (0, 0, 0, 0, 0, 0)), (21, .iconst 0, 1, 0, (0, 0, 0, 0, 0, 0)), (22, .aaload, 1, 0, (17, 6, 0, 1, 1, 0)), (23, .areturn, 1, 0, (1, 0, 0, 0, 0, 0))]
set_option maxRecDepth 100000 in
theorem rk73 : R73.all (rok 0 73 (3 + 1) []) = true := by decide +kernel
set_option maxRecDepth 100000 in
theorem tab73 : TabOK 0 73 (3 + 1) [] R73 := tab_ok (K := K73) rfl rfl (fun h => d73 h) rk73 (by decide +kernel)
set_option maxRecDepth 100000 in
theorem pc73 : cutpc [] R73 = true := by decide +kernel
set_option maxRecDepth 100000 in
theorem r6_bookAt (p : PM) (hg : Gr 0 p) : ∀ (v1 : Int32), bg6_bookAt p v1 → ZJ 0 73 0 [zR 6 1, zI v1] [] p (hoR 1 p (bv6_bookAt p v1)) := by
  intro v1  H
  exact roR 1 (n := 3000) (q := 0) (la := [zR 6 1, zI v1]) (sa := []) (ks := []) (gs := []) (fnil) tab73 pc73 trivial hg H
theorem t6_bookAt (p : PM) (hg : Gr 0 p) : ∀ (v1 : Int32), g6_bookAt p v1 → ZJ 0 73 0 [zR 6 1, zI v1] [] p (hoR 1 p (v6_bookAt p v1)) := r6_bookAt p hg
def CC73 (F : PM → Int32 → Nat) (G : PM → Int32 → Prop) : Cal := (73, [9, 0], (3 + 1), true, fun as p => (zR 1 (F p (ai as 1)), p), fun as p => zsw (tc2 as [(106, 1), (0, 0)]) False (G p (ai as 1)))
set_option maxRecDepth 100000 in
theorem okr73 (F : PM → Int32 → Nat) (G : PM → Int32 → Prop) (h : ∀ (p : PM) (v1 : Int32), Gr 0 p → G p v1 → ZJ 0 73 0 [zR 6 1, zI v1] [] p (hoR 1 p (F p v1))) : CalOK 0 (CC73 F G) := cal_ok (m := 2) (by unfold mL; rw [mX_73]) (fun as p hg H => h p (ai as 1) hg H)
theorem ok73 : CalOK 0 (CC73 v6_bookAt g6_bookAt) := okr73 v6_bookAt g6_bookAt (fun p v1 hg H => t6_bookAt p hg v1 H)
noncomputable def bv2_worthOf_5 (p : PM) (F22 : PM → Int32 → Int32 → Int64) (F73 : PM → Int32 → Nat) (kv5 : Int32 → Int64 → Int32 → Int64) (v1 : Int32) (v2 : Int64) (v4 : Int32) : Int64 :=
  if v4 < (cn 4) then (
    let x1 : Int64 := (v2 + ((F22 p v1 v4) * ((p.1 1 (F73 p v4) 3)).toInt64))
    kv5 v1 x1 (v4 + (cn 1)))
  else (
    v2)
noncomputable def v2_worthOf_5 (p : PM) (n : Nat) : Int32 → Int64 → Int32 → Int64 := Nat.rec (motive := fun _ => Int32 → Int64 → Int32 → Int64) (fun _ _ _ => 0) (fun _ ih => bv2_worthOf_5 p v2_netOf v6_bookAt ih) n
theorem ev2_worthOf_5 (p : PM) (n : Nat) (v1 : Int32) (v2 : Int64) (v4 : Int32) : v2_worthOf_5 p (n + 1) v1 v2 v4 = bv2_worthOf_5 p v2_netOf v6_bookAt (v2_worthOf_5 p n) v1 v2 v4 := rfl
noncomputable def bg2_worthOf_5 (p : PM) (F22 : PM → Int32 → Int32 → Int64) (G22 : PM → Int32 → Int32 → Prop) (F73 : PM → Int32 → Nat) (G73 : PM → Int32 → Prop) (kg5 : Int32 → Int64 → Int32 → Prop) (v1 : Int32) (v2 : Int64) (v4 : Int32) : Prop :=
  if v4 < (cn 4) then (
    (G22 p v1 v4) ∧ (
    (G73 p v4) ∧ (
    (¬ (F73 p v4) = 0) ∧ (
    let x1 : Int64 := (v2 + ((F22 p v1 v4) * ((p.1 1 (F73 p v4) 3)).toInt64))
    kg5 v1 x1 (v4 + (cn 1))))))
  else (
    True)
noncomputable def g2_worthOf_5 (p : PM) (n : Nat) : Int32 → Int64 → Int32 → Prop := Nat.rec (motive := fun _ => Int32 → Int64 → Int32 → Prop) (fun _ _ _ => False) (fun _ ih => bg2_worthOf_5 p v2_netOf g2_netOf v6_bookAt g6_bookAt ih) n
theorem eg2_worthOf_5 (p : PM) (n : Nat) (v1 : Int32) (v2 : Int64) (v4 : Int32) : g2_worthOf_5 p (n + 1) v1 v2 v4 = bg2_worthOf_5 p v2_netOf g2_netOf v6_bookAt g6_bookAt (g2_worthOf_5 p n) v1 v2 v4 := rfl
noncomputable def bv2_worthOf (p : PM) (kv5 : Int32 → Int64 → Int32 → Int64) (v1 : Int32) : Int64 :=
  kv5 v1 (cl 0) (cn 0)
noncomputable def v2_worthOf (p : PM) (v1 : Int32) : Int64 := bv2_worthOf p (v2_worthOf_5 p FU) v1
noncomputable def bg2_worthOf (p : PM) (kg5 : Int32 → Int64 → Int32 → Prop) (v1 : Int32) : Prop :=
  kg5 v1 (cl 0) (cn 0)
noncomputable def g2_worthOf (p : PM) (v1 : Int32) : Prop := bg2_worthOf p (g2_worthOf_5 p FU) v1
def R25 : List Row := [(0, .lconst 0, 1, 0, (0, 0, 0, 0, 0, 0)), (1, .lstore_n 2, 1, 0, (0, 0, 0, 0, 0, 0)), (2, .iconst 0, 1, 0, (0, 0, 0, 0, 0, 0)), (3, .istore 4, 2, 0, (0, 0, 0, 0, 0, 0)), (5, .iload 4, 2, 1, (0, 0, 0, 0, 0, 0)), (7, .iconst 4, 1, 0, (0, 0, 0, 0, 0, 4)), (8, .if_icmp .ge 33, 3, 0, (0, 0, 0, 0, 0, 0)), (11, .lload_n 2, 1, 0, (0, 0, 0, 0, 0, 0)), (12, .aload_n 0, 1, 0, (0, 0, 0, 0, 0, 0)), (13, .iload_n 1, 1, 0, (0, 0, 0, 0, 0, 0)), (14, .iload 4, 2, 0, (0, 0, 0, 0, 0, 0)), (16, .invokevirtual 90, 3, 0, (0, 3, 0, 0, 1, 0)), (19, .aload_n 0, 1, 0, (0, 0, 0, 0, 0, 0)), (20, .getfield 22, 3, 0, (2, 0, 9, 2, 1, 0)), (23, .iload 4, 2, 0, (0, 0, 0, 0, 0, 0)), (25, .invokevirtual 107, 3, 0, (1, 2, 0, 0, 1, 0)), (28, .getfield 113, 3, 0, (1, 3, 0, 0, 0, 0)), (31, .i2l, 1, 0, (0, 0, 0, 0, 0, 0)), (32, .lmul, 1, 0, (0, 0, 0, 0, 0, 0)), (33, .ladd, 1, 0, (0, 0, 0, 0, 0, 0)), (34, .lstore_n 2, 1, 0, (0, 0, 0, 0, 0, 0)), (35, .iinc 4 1, 3, 0, (0, 0, 0, 0, 0, 1)), (38, .goto (-33), 3, 0, (0, 0, 0, 0, 0, 0)), (41, .lload_n 2, 1, 0, (0, 0, 0, 0, 0, 0)), (42, .lreturn, 1, 0, (0, 0, 0, 0, 0, 0))]
set_option maxRecDepth 100000 in
theorem rk25 : R25.all (rok 0 25 2 [(22, [5, 0, 0]), (73, [9, 0])]) = true := by decide +kernel
set_option maxRecDepth 100000 in
theorem tab25 {F22 : PM → Int32 → Int32 → Int64} {G22 : PM → Int32 → Int32 → Prop} {F73 : PM → Int32 → Nat} {G73 : PM → Int32 → Prop} : TabOK 0 25 2 [CC22 F22 G22, CC73 F73 G73] R25 := tab_ok (K := K25) rfl rfl (fun h => d25 h) rk25 (by decide +kernel)
set_option maxRecDepth 100000 in
theorem pc25 : cutpc [5] R25 = true := by decide +kernel
set_option maxRecDepth 100000 in
theorem r2_worthOf_5 (p : PM) (hg : Gr 0 p) (F22 : PM → Int32 → Int32 → Int64) (G22 : PM → Int32 → Int32 → Prop) (o22 : CalOK 0 (CC22 F22 G22)) (F73 : PM → Int32 → Nat) (G73 : PM → Int32 → Prop) (o73 : CalOK 0 (CC73 F73 G73)) (kv5 : Int32 → Int64 → Int32 → Int64) (kg5 : Int32 → Int64 → Int32 → Prop) (hk5 : ∀ (v1 : Int32) (v2 : Int64) (v4 : Int32) (d3 : ZV), kg5 v1 v2 v4 → ZJ 0 25 5 [zR 2 1, zI v1, zL v2, d3, zI v4] [] p (hoL p (kv5 v1 v2 v4))) : ∀ (v1 : Int32) (v2 : Int64) (v4 : Int32) (d3 : ZV), bg2_worthOf_5 p F22 G22 F73 G73 kg5 v1 v2 v4 → ZJ 0 25 5 [zR 2 1, zI v1, zL v2, d3, zI v4] [] p (hoL p (bv2_worthOf_5 p F22 F73 kv5 v1 v2 v4)) := by
  intro v1 v2 v4 d3 H
  exact roL (n := 3000) (q := 5) (la := [zR 2 1, zI v1, zL v2, d3, zI v4]) (sa := []) (ks := [fun la sa _ => kv5 (ai la 1) (al la 2) (ai la 4)]) (gs := [fun la sa _ => zsw (tc2 la [(102, 1), (0, 0), (1, 0), (2, 0), (0, 0)] && tc2 sa []) False (kg5 (ai la 1) (al la 2) (ai la 4))]) (fcons o22 (fcons o73 (fnil))) tab25 pc25 ⟨fun la sa s hg H => zcut H fun H => hk5 (ai la 1) (al la 2) (ai la 4) (zld la 3) H, trivial⟩ hg H
theorem t2_worthOf_5 (p : PM) (hg : Gr 0 p) : ∀ (n : Nat), ∀ (v1 : Int32) (v2 : Int64) (v4 : Int32) (d3 : ZV), g2_worthOf_5 p n v1 v2 v4 → ZJ 0 25 5 [zR 2 1, zI v1, zL v2, d3, zI v4] [] p (hoL p (v2_worthOf_5 p n v1 v2 v4)) := by
  intro n
  induction n with
  | zero =>
    intro v1 v2 v4 d3 H
    exact H.elim
  | succ n ih => exact r2_worthOf_5 p hg v2_netOf g2_netOf ok22 v6_bookAt g6_bookAt ok73 (v2_worthOf_5 p n) (g2_worthOf_5 p n) ih
set_option maxRecDepth 100000 in
theorem r2_worthOf (p : PM) (hg : Gr 0 p) (F22 : PM → Int32 → Int32 → Int64) (G22 : PM → Int32 → Int32 → Prop) (o22 : CalOK 0 (CC22 F22 G22)) (F73 : PM → Int32 → Nat) (G73 : PM → Int32 → Prop) (o73 : CalOK 0 (CC73 F73 G73)) (kv5 : Int32 → Int64 → Int32 → Int64) (kg5 : Int32 → Int64 → Int32 → Prop) (hk5 : ∀ (v1 : Int32) (v2 : Int64) (v4 : Int32) (d3 : ZV), kg5 v1 v2 v4 → ZJ 0 25 5 [zR 2 1, zI v1, zL v2, d3, zI v4] [] p (hoL p (kv5 v1 v2 v4))) : ∀ (v1 : Int32), bg2_worthOf p kg5 v1 → ZJ 0 25 0 [zR 2 1, zI v1, zJ, zJ, zJ] [] p (hoL p (bv2_worthOf p kv5 v1)) := by
  intro v1  H
  exact roL (n := 3000) (q := 0) (la := [zR 2 1, zI v1, zJ, zJ, zJ]) (sa := []) (ks := [fun la sa _ => kv5 (ai la 1) (al la 2) (ai la 4)]) (gs := [fun la sa _ => zsw (tc2 la [(102, 1), (0, 0), (1, 0), (2, 0), (0, 0)] && tc2 sa []) False (kg5 (ai la 1) (al la 2) (ai la 4))]) (fcons o22 (fcons o73 (fnil))) tab25 pc25 ⟨fun la sa s hg H => zcut H fun H => hk5 (ai la 1) (al la 2) (ai la 4) (zld la 3) H, trivial⟩ hg H
theorem t2_worthOf (p : PM) (hg : Gr 0 p) : ∀ (v1 : Int32), g2_worthOf p v1 → ZJ 0 25 0 [zR 2 1, zI v1, zJ, zJ, zJ] [] p (hoL p (v2_worthOf p v1)) := r2_worthOf p hg v2_netOf g2_netOf ok22 v6_bookAt g6_bookAt ok73 (v2_worthOf_5 p FU) (g2_worthOf_5 p FU) (t2_worthOf_5 p hg FU)
def CC25 (F : PM → Int32 → Int64) (G : PM → Int32 → Prop) : Cal := (25, [5, 0], 2, true, fun as p => (zL (F p (ai as 1)), p), fun as p => zsw (tc2 as [(102, 1), (0, 0)]) False (G p (ai as 1)))
set_option maxRecDepth 100000 in
theorem okr25 (F : PM → Int32 → Int64) (G : PM → Int32 → Prop) (h : ∀ (p : PM) (v1 : Int32), Gr 0 p → G p v1 → ZJ 0 25 0 [zR 2 1, zI v1, zJ, zJ, zJ] [] p (hoL p (F p v1))) : CalOK 0 (CC25 F G) := cal_ok (m := 5) (by unfold mL; rw [mX_25]) (fun as p hg H => h p (ai as 1) hg H)
theorem ok25 : CalOK 0 (CC25 v2_worthOf g2_worthOf) := okr25 v2_worthOf g2_worthOf (fun p v1 hg H => t2_worthOf p hg v1 H)
noncomputable def bv2_valueOf (p : PM) (F19 : PM → Int32 → Nat) (F20 : PM → Int32 → Nat) (F25 : PM → Int32 → Int64) (v1 : Int32) : Int64 :=
  (((p.2.1 0 (F19 p v1) 4) + (p.2.1 0 (F20 p v1) 4)) + (F25 p v1))
noncomputable def v2_valueOf (p : PM) (v1 : Int32) : Int64 := bv2_valueOf p v2_lowerOf v2_upperOf v2_worthOf v1
noncomputable def bg2_valueOf (p : PM) (F19 : PM → Int32 → Nat) (G19 : PM → Int32 → Prop) (F20 : PM → Int32 → Nat) (G20 : PM → Int32 → Prop) (F25 : PM → Int32 → Int64) (G25 : PM → Int32 → Prop) (v1 : Int32) : Prop :=
  (G19 p v1) ∧ (
  (¬ (F19 p v1) = 0) ∧ (
  (G20 p v1) ∧ (
  (¬ (F20 p v1) = 0) ∧ (
  (G25 p v1) ∧ (
  True)))))
noncomputable def g2_valueOf (p : PM) (v1 : Int32) : Prop := bg2_valueOf p v2_lowerOf g2_lowerOf v2_upperOf g2_upperOf v2_worthOf g2_worthOf v1
def R26 : List Row := [(0, .aload_n 0, 1, 0, (0, 0, 0, 0, 0, 0)), (1, .iload_n 1, 1, 0, (0, 0, 0, 0, 0, 0)), (2, .invokevirtual 118, 3, 0, (0, 2, 0, 0, 1, 0)), (5, .getfield 121, 3, 0, (0, 4, 2, 0, 0, 0)), (8, .aload_n 0, 1, 0, (0, 0, 0, 0, 0, 0)), (9, .iload_n 1, 1, 0, (0, 0, 0, 0, 0, 0)), (10, .invokevirtual 125, 3, 0, (1, 2, 0, 0, 1, 0)), (13, .getfield 121, 3, 0, (0, 4, 2, 0, 0, 0)), (16, .ladd, 1, 0, (0, 0, 0, 0, 0, 0)), (17, .aload_n 0, 1, 0, (0, 0, 0, 0, 0, 0)), (18, .iload_n 1, 1, 0, (0, 0, 0, 0, 0, 0)), (19, .invokevirtual 128, 3, 0, (2, 2, 0, 0, 1, 0)), (22, .ladd, 1, 0, (0, 0, 0, 0, 0, 0)), (23, .lreturn, 1, 0, (0, 0, 0, 0, 0, 0))]
set_option maxRecDepth 100000 in
theorem rk26 : R26.all (rok 0 26 2 [(19, [5, 0]), (20, [5, 0]), (25, [5, 0])]) = true := by decide +kernel
set_option maxRecDepth 100000 in
theorem tab26 {F19 : PM → Int32 → Nat} {G19 : PM → Int32 → Prop} {F20 : PM → Int32 → Nat} {G20 : PM → Int32 → Prop} {F25 : PM → Int32 → Int64} {G25 : PM → Int32 → Prop} : TabOK 0 26 2 [CC19 F19 G19, CC20 F20 G20, CC25 F25 G25] R26 := tab_ok (K := K26) rfl rfl (fun h => d26 h) rk26 (by decide +kernel)
set_option maxRecDepth 100000 in
theorem pc26 : cutpc [] R26 = true := by decide +kernel
set_option maxRecDepth 100000 in
theorem r2_valueOf (p : PM) (hg : Gr 0 p) (F19 : PM → Int32 → Nat) (G19 : PM → Int32 → Prop) (o19 : CalOK 0 (CC19 F19 G19)) (F20 : PM → Int32 → Nat) (G20 : PM → Int32 → Prop) (o20 : CalOK 0 (CC20 F20 G20)) (F25 : PM → Int32 → Int64) (G25 : PM → Int32 → Prop) (o25 : CalOK 0 (CC25 F25 G25)) : ∀ (v1 : Int32), bg2_valueOf p F19 G19 F20 G20 F25 G25 v1 → ZJ 0 26 0 [zR 2 1, zI v1] [] p (hoL p (bv2_valueOf p F19 F20 F25 v1)) := by
  intro v1  H
  exact roL (n := 3000) (q := 0) (la := [zR 2 1, zI v1]) (sa := []) (ks := []) (gs := []) (fcons o19 (fcons o20 (fcons o25 (fnil)))) tab26 pc26 trivial hg H
theorem t2_valueOf (p : PM) (hg : Gr 0 p) : ∀ (v1 : Int32), g2_valueOf p v1 → ZJ 0 26 0 [zR 2 1, zI v1] [] p (hoL p (v2_valueOf p v1)) := r2_valueOf p hg v2_lowerOf g2_lowerOf ok19 v2_upperOf g2_upperOf ok20 v2_worthOf g2_worthOf ok25
def CC26 (F : PM → Int32 → Int64) (G : PM → Int32 → Prop) : Cal := (26, [5, 0], 2, true, fun as p => (zL (F p (ai as 1)), p), fun as p => zsw (tc2 as [(102, 1), (0, 0)]) False (G p (ai as 1)))
set_option maxRecDepth 100000 in
theorem okr26 (F : PM → Int32 → Int64) (G : PM → Int32 → Prop) (h : ∀ (p : PM) (v1 : Int32), Gr 0 p → G p v1 → ZJ 0 26 0 [zR 2 1, zI v1] [] p (hoL p (F p v1))) : CalOK 0 (CC26 F G) := cal_ok (m := 2) (by unfold mL; rw [mX_26]) (fun as p hg H => h p (ai as 1) hg H)
theorem ok26 : CalOK 0 (CC26 v2_valueOf g2_valueOf) := okr26 v2_valueOf g2_valueOf (fun p v1 hg H => t2_valueOf p hg v1 H)
noncomputable def bv14_floorDiv_f86c9 (p : PM) (v0 : Int64) (v2 : Int64) : Int64 :=
  if (lg_cmp (v0 ^^^ v2) (cl 0)) < 0 then (
    if (lg_cmp ((v0 / v2) * v2) v0) = 0 then (
      (v0 / v2))
    else (
      ((v0 / v2) - (cl 1))))
  else (
    (v0 / v2))
noncomputable def v14_floorDiv_f86c9 (p : PM) (v0 : Int64) (v2 : Int64) : Int64 := bv14_floorDiv_f86c9 p v0 v2
noncomputable def bg14_floorDiv_f86c9 (p : PM) (v0 : Int64) (v2 : Int64) : Prop :=
  (¬ v2 = 0) ∧ (
  if (lg_cmp (v0 ^^^ v2) (cl 0)) < 0 then (
    if (lg_cmp ((v0 / v2) * v2) v0) = 0 then (
      True)
    else (
      True))
  else (
    True))
noncomputable def g14_floorDiv_f86c9 (p : PM) (v0 : Int64) (v2 : Int64) : Prop := bg14_floorDiv_f86c9 p v0 v2
def R203 : List Row := [(0, .lload_n 0, 1, 0, (0, 0, 0, 0, 0, 0)), (1, .lload_n 2, 1, 0, (0, 0, 0, 0, 0, 0)), (2, .ldiv, 1, 0, (0, 0, 0, 0, 0, 0)), (3, .lstore 4, 2, 0, (0, 0, 0, 0, 0, 0)), (5, .lload_n 0, 1, 0, (0, 0, 0, 0, 0, 0)), (6, .lload_n 2, 1, 0, (0, 0, 0, 0, 0, 0)), (7, .lxor, 1, 0, (0, 0, 0, 0, 0, 0)), (8, .lconst 0, 1, 0, (0, 0, 0, 0, 0, 0)), (9, .lcmp, 1, 0, (0, 0, 0, 0, 0, 0)), (10, .ifCond .ge 17, 3, 0, (0, 0, 0, 0, 0, 0)), (13, .lload 4, 2, 0, (0, 0, 0, 0, 0, 0)), (15, .lload_n 2, 1, 0, (0, 0, 0, 0, 0, 0)), (16, .lmul, 1, 0, (0, 0, 0, 0, 0, 0)), (17, .lload_n 0, 1, 0, (0, 0, 0, 0, 0, 0)), (18, .lcmp, 1, 0, (0, 0, 0, 0, 0, 0)), (19, .ifCond .eq 8, 3, 0, (0, 0, 0, 0, 0, 0)), (22, .lload 4, 2, 0, (0, 0, 0, 0, 0, 0)), (24, .lconst 1, 1, 0, (0, 0, 0, 0, 0, 1)), (25, .lsub, 1, 0, (0, 0, 0, 0, 0, 0)), (26, .lreturn, 1, 0, (0, 0, 0, 0, 0, 0)), (27, .lload 4, 2, 0, (0, 0, 0, 0, 0, 0)), (29, .lreturn, 1, 0, (0, 0, 0, 0, 0, 0))]
set_option maxRecDepth 100000 in
theorem rk203 : R203.all (rok 0 203 2 []) = true := by decide +kernel
set_option maxRecDepth 100000 in
theorem tab203 : TabOK 0 203 2 [] R203 := tab_ok (K := K203) rfl rfl (fun h => d203 h) rk203 (by decide +kernel)
set_option maxRecDepth 100000 in
theorem pc203 : cutpc [] R203 = true := by decide +kernel
set_option maxRecDepth 100000 in
theorem r14_floorDiv_f86c9 (p : PM) (hg : Gr 0 p) : ∀ (v0 : Int64) (v2 : Int64), bg14_floorDiv_f86c9 p v0 v2 → ZJ 0 203 0 [zL v0, zJ, zL v2, zJ, zJ, zJ] [] p (hoL p (bv14_floorDiv_f86c9 p v0 v2)) := by
  intro v0 v2  H
  exact roL (n := 3000) (q := 0) (la := [zL v0, zJ, zL v2, zJ, zJ, zJ]) (sa := []) (ks := []) (gs := []) (fnil) tab203 pc203 trivial hg H
theorem t14_floorDiv_f86c9 (p : PM) (hg : Gr 0 p) : ∀ (v0 : Int64) (v2 : Int64), g14_floorDiv_f86c9 p v0 v2 → ZJ 0 203 0 [zL v0, zJ, zL v2, zJ, zJ, zJ] [] p (hoL p (v14_floorDiv_f86c9 p v0 v2)) := r14_floorDiv_f86c9 p hg
def CC203 (F : PM → Int64 → Int64 → Int64) (G : PM → Int64 → Int64 → Prop) : Cal := (203, [1, 1], 2, true, fun as p => (zL (F p (al as 0) (al as 1)), p), fun as p => zsw (tc2 as [(1, 0), (1, 0)]) False (G p (al as 0) (al as 1)))
set_option maxRecDepth 100000 in
theorem okr203 (F : PM → Int64 → Int64 → Int64) (G : PM → Int64 → Int64 → Prop) (h : ∀ (p : PM) (v0 : Int64) (v2 : Int64), Gr 0 p → G p v0 v2 → ZJ 0 203 0 [zL v0, zJ, zL v2, zJ, zJ, zJ] [] p (hoL p (F p v0 v2))) : CalOK 0 (CC203 F G) := cal_ok (m := 6) (by unfold mL; rw [mX_203]) (fun as p hg H => h p (al as 0) (al as 1) hg H)
theorem ok203 : CalOK 0 (CC203 v14_floorDiv_f86c9 g14_floorDiv_f86c9) := okr203 v14_floorDiv_f86c9 g14_floorDiv_f86c9 (fun p v0 v2 hg H => t14_floorDiv_f86c9 p hg v0 v2 H)
noncomputable def bv2_callOf (p : PM) (F24 : PM → Int32 → Int32 → Int64) (F26 : PM → Int32 → Int64) (F73 : PM → Int32 → Nat) (F203 : PM → Int64 → Int64 → Int64) (F208 : PM → Int64 → Int64 → Int64) (v1 : Int32) (v2 : Int32) (v3 : Int32) : Int64 :=
  let x1 : Int64 := (F203 p (((v3).toInt64 * ((p.1 1 (F73 p (cn 1)) 3)).toInt64) * (((cn 100) - (p.1 2 1 4))).toInt64) (cl 100))
  (F208 p (cl 0) ((((F24 p v1 v3) - (F26 p v1)) - (v2).toInt64) - x1))
noncomputable def v2_callOf (p : PM) (v1 : Int32) (v2 : Int32) (v3 : Int32) : Int64 := bv2_callOf p v2_riskOf v2_valueOf v6_bookAt v14_floorDiv_f86c9 v14_max_f86c9 v1 v2 v3
noncomputable def bg2_callOf (p : PM) (F24 : PM → Int32 → Int32 → Int64) (G24 : PM → Int32 → Int32 → Prop) (F26 : PM → Int32 → Int64) (G26 : PM → Int32 → Prop) (F73 : PM → Int32 → Nat) (G73 : PM → Int32 → Prop) (F203 : PM → Int64 → Int64 → Int64) (G203 : PM → Int64 → Int64 → Prop) (F208 : PM → Int64 → Int64 → Int64) (G208 : PM → Int64 → Int64 → Prop) (v1 : Int32) (v2 : Int32) (v3 : Int32) : Prop :=
  (G73 p (cn 1)) ∧ (
  (¬ (F73 p (cn 1)) = 0) ∧ (
  (G203 p (((v3).toInt64 * ((p.1 1 (F73 p (cn 1)) 3)).toInt64) * (((cn 100) - (p.1 2 1 4))).toInt64) (cl 100)) ∧ (
  let x1 : Int64 := (F203 p (((v3).toInt64 * ((p.1 1 (F73 p (cn 1)) 3)).toInt64) * (((cn 100) - (p.1 2 1 4))).toInt64) (cl 100))
  (G24 p v1 v3) ∧ (
  (G26 p v1) ∧ (
  (G208 p (cl 0) ((((F24 p v1 v3) - (F26 p v1)) - (v2).toInt64) - x1)) ∧ (
  True))))))
noncomputable def g2_callOf (p : PM) (v1 : Int32) (v2 : Int32) (v3 : Int32) : Prop := bg2_callOf p v2_riskOf g2_riskOf v2_valueOf g2_valueOf v6_bookAt g6_bookAt v14_floorDiv_f86c9 g14_floorDiv_f86c9 v14_max_f86c9 g14_max_f86c9 v1 v2 v3
def R27 : List Row := [(0, .iload_n 3, 1, 0, (0, 0, 0, 0, 0, 0)), (1, .i2l, 1, 0, (0, 0, 0, 0, 0, 0)), (2, .aload_n 0, 1, 0, (0, 0, 0, 0, 0, 0)), (3, .getfield 22, 3, 0, (2, 0, 9, 2, 1, 0)), (6, .iconst 1, 1, 0, (0, 0, 0, 0, 0, 1)), (7, .invokevirtual 107, 3, 0, (0, 2, 0, 0, 1, 0)), (10, .getfield 113, 3, 0, (1, 3, 0, 0, 0, 0)), (13, .i2l, 1, 0, (0, 0, 0, 0, 0, 0)), (14, .lmul, 1, 0, (0, 0, 0, 0, 0, 0)), (15, .bipush 100, 2, 0, (0, 0, 0, 0, 0, 100)), (17, .aload_n 0, 1, 0, (0, 0, 0, 0, 0, 0)), (18, .getfield 34, 3, 0, (2, 4, 0, 1, 0, 0)), (21, .isub, 1, 0, (0, 0, 0, 0, 0, 0)), (22, .i2l, 1, 0, (0, 0, 0, 0, 0, 0)), (23, .lmul, 1, 0, (0, 0, 0, 0, 0, 0)), (24, .ldc2_w 131, 3, 0, (0, 0, 0, 0, 0, 100)), (27, .invokestatic 133, 3, 0, (1, 2, 0, 0, 0, 0)), (30, .lstore 4, 2, 0, (0, 0, 0, 0, 0, 0)), (32, .lconst 0, 1, 0, (0, 0, 0, 0, 0, 0)), (33, .aload_n 0, 1, 0, (0, 0, 0, 0, 0, 0)), (34, .iload_n 1, 1, 0, (0, 0, 0, 0, 0, 0)), (35, .iload_n 3, 1, 0, (0, 0, 0, 0, 0, 0)), (36, .invokevirtual 58, 3, 0, (2, 3, 0, 0, 1, 0)), (39, .aload_n 0, 1, 0, (0, 0, 0, 0, 0, 0)), (40, .iload_n 1, 1, 0, (0, 0, 0, 0, 0, 0)), (41, .invokevirtual 62, 3, 0, (3, 2, 0, 0, 1, 0)), (44, .lsub, 1, 0, (0, 0, 0, 0, 0, 0)), (45, .iload_n 2, 1, 0, (0, 0, 0, 0, 0, 0)), (46, .i2l, 1, 0, (0, 0, 0, 0, 0, 0)), (47, .lsub, 1, 0, (0, 0, 0, 0, 0, 0)), (48, .lload 4, 2, 0, (0, 0, 0, 0, 0, 0)), (50, .lsub, 1, 0, (0, 0, 0, 0, 0, 0)), (51, .invokestatic 93, 3, 0, (4, 2, 0, 0, 0, 0)), (54, .lreturn, 1, 0, (0, 0, 0, 0, 0, 0))]
set_option maxRecDepth 100000 in
theorem rk27 : R27.all (rok 0 27 2 [(73, [9, 0]), (203, [1, 1]), (24, [5, 0, 0]), (26, [5, 0]), (208, [1, 1])]) = true := by decide +kernel
set_option maxRecDepth 100000 in
theorem tab27 {F73 : PM → Int32 → Nat} {G73 : PM → Int32 → Prop} {F203 : PM → Int64 → Int64 → Int64} {G203 : PM → Int64 → Int64 → Prop} {F24 : PM → Int32 → Int32 → Int64} {G24 : PM → Int32 → Int32 → Prop} {F26 : PM → Int32 → Int64} {G26 : PM → Int32 → Prop} {F208 : PM → Int64 → Int64 → Int64} {G208 : PM → Int64 → Int64 → Prop} : TabOK 0 27 2 [CC73 F73 G73, CC203 F203 G203, CC24 F24 G24, CC26 F26 G26, CC208 F208 G208] R27 := tab_ok (K := K27) rfl rfl (fun h => d27 h) rk27 (by decide +kernel)
set_option maxRecDepth 100000 in
theorem pc27 : cutpc [] R27 = true := by decide +kernel
set_option maxRecDepth 100000 in
theorem r2_callOf (p : PM) (hg : Gr 0 p) (F73 : PM → Int32 → Nat) (G73 : PM → Int32 → Prop) (o73 : CalOK 0 (CC73 F73 G73)) (F203 : PM → Int64 → Int64 → Int64) (G203 : PM → Int64 → Int64 → Prop) (o203 : CalOK 0 (CC203 F203 G203)) (F24 : PM → Int32 → Int32 → Int64) (G24 : PM → Int32 → Int32 → Prop) (o24 : CalOK 0 (CC24 F24 G24)) (F26 : PM → Int32 → Int64) (G26 : PM → Int32 → Prop) (o26 : CalOK 0 (CC26 F26 G26)) (F208 : PM → Int64 → Int64 → Int64) (G208 : PM → Int64 → Int64 → Prop) (o208 : CalOK 0 (CC208 F208 G208)) : ∀ (v1 : Int32) (v2 : Int32) (v3 : Int32), bg2_callOf p F24 G24 F26 G26 F73 G73 F203 G203 F208 G208 v1 v2 v3 → ZJ 0 27 0 [zR 2 1, zI v1, zI v2, zI v3, zJ, zJ] [] p (hoL p (bv2_callOf p F24 F26 F73 F203 F208 v1 v2 v3)) := by
  intro v1 v2 v3  H
  exact roL (n := 3000) (q := 0) (la := [zR 2 1, zI v1, zI v2, zI v3, zJ, zJ]) (sa := []) (ks := []) (gs := []) (fcons o73 (fcons o203 (fcons o24 (fcons o26 (fcons o208 (fnil)))))) tab27 pc27 trivial hg H
theorem t2_callOf (p : PM) (hg : Gr 0 p) : ∀ (v1 : Int32) (v2 : Int32) (v3 : Int32), g2_callOf p v1 v2 v3 → ZJ 0 27 0 [zR 2 1, zI v1, zI v2, zI v3, zJ, zJ] [] p (hoL p (v2_callOf p v1 v2 v3)) := r2_callOf p hg v6_bookAt g6_bookAt ok73 v14_floorDiv_f86c9 g14_floorDiv_f86c9 ok203 v2_riskOf g2_riskOf ok24 v2_valueOf g2_valueOf ok26 v14_max_f86c9 g14_max_f86c9 ok208
def CC27 (F : PM → Int32 → Int32 → Int32 → Int64) (G : PM → Int32 → Int32 → Int32 → Prop) : Cal := (27, [5, 0, 0, 0], 2, true, fun as p => (zL (F p (ai as 1) (ai as 2) (ai as 3)), p), fun as p => zsw (tc2 as [(102, 1), (0, 0), (0, 0), (0, 0)]) False (G p (ai as 1) (ai as 2) (ai as 3)))
set_option maxRecDepth 100000 in
theorem okr27 (F : PM → Int32 → Int32 → Int32 → Int64) (G : PM → Int32 → Int32 → Int32 → Prop) (h : ∀ (p : PM) (v1 : Int32) (v2 : Int32) (v3 : Int32), Gr 0 p → G p v1 v2 v3 → ZJ 0 27 0 [zR 2 1, zI v1, zI v2, zI v3, zJ, zJ] [] p (hoL p (F p v1 v2 v3))) : CalOK 0 (CC27 F G) := cal_ok (m := 6) (by unfold mL; rw [mX_27]) (fun as p hg H => h p (ai as 1) (ai as 2) (ai as 3) hg H)
theorem ok27 : CalOK 0 (CC27 v2_callOf g2_callOf) := okr27 v2_callOf g2_callOf (fun p v1 v2 v3 hg H => t2_callOf p hg v1 v2 v3 H)
noncomputable def bv2_tell (p : PM) (F18 : PM → Int32 → Nat) (F24 : PM → Int32 → Int32 → Int64) (F26 : PM → Int32 → Int64) (F27 : PM → Int32 → Int32 → Int32 → Int64) (v1 : Int32) (v2 : Int32) : Int64 :=
  if v2 = (cn 0) then (
    (F24 p v1 (p.1 9 (F18 p v1) 1)))
  else (
    if v2 = (cn 1) then (
      (F26 p v1))
    else (
      if v2 = (cn 2) then (
        (F27 p v1 (p.1 9 (F18 p v1) 0) (p.1 9 (F18 p v1) 1)))
      else (
        if v2 = (cn 3) then (
          ((p.1 9 (F18 p v1) 0)).toInt64)
        else (
          if v2 = (cn 4) then (
            ((p.1 9 (F18 p v1) 1)).toInt64)
          else (
            if v2 = (cn 5) then (
              ((p.1 9 (F18 p v1) 2)).toInt64)
            else (
              if (p.1 9 (F18 p v1) 3) = 0 then (
                (cl 0))
              else (
                (cl 1))))))))
noncomputable def v2_tell (p : PM) (v1 : Int32) (v2 : Int32) : Int64 := bv2_tell p v2_memberAt v2_riskOf v2_valueOf v2_callOf v1 v2
noncomputable def bg2_tell (p : PM) (F18 : PM → Int32 → Nat) (G18 : PM → Int32 → Prop) (F24 : PM → Int32 → Int32 → Int64) (G24 : PM → Int32 → Int32 → Prop) (F26 : PM → Int32 → Int64) (G26 : PM → Int32 → Prop) (F27 : PM → Int32 → Int32 → Int32 → Int64) (G27 : PM → Int32 → Int32 → Int32 → Prop) (v1 : Int32) (v2 : Int32) : Prop :=
  (G18 p v1) ∧ (
  if v2 = (cn 0) then (
    (¬ (F18 p v1) = 0) ∧ (
    (G24 p v1 (p.1 9 (F18 p v1) 1)) ∧ (
    True)))
  else (
    if v2 = (cn 1) then (
      (G26 p v1) ∧ (
      True))
    else (
      if v2 = (cn 2) then (
        (¬ (F18 p v1) = 0) ∧ (
        (¬ (F18 p v1) = 0) ∧ (
        (G27 p v1 (p.1 9 (F18 p v1) 0) (p.1 9 (F18 p v1) 1)) ∧ (
        True))))
      else (
        if v2 = (cn 3) then (
          (¬ (F18 p v1) = 0) ∧ (
          True))
        else (
          if v2 = (cn 4) then (
            (¬ (F18 p v1) = 0) ∧ (
            True))
          else (
            if v2 = (cn 5) then (
              (¬ (F18 p v1) = 0) ∧ (
              True))
            else (
              (¬ (F18 p v1) = 0) ∧ (
              if (p.1 9 (F18 p v1) 3) = 0 then (
                True)
              else (
                True)))))))))
noncomputable def g2_tell (p : PM) (v1 : Int32) (v2 : Int32) : Prop := bg2_tell p v2_memberAt g2_memberAt v2_riskOf g2_riskOf v2_valueOf g2_valueOf v2_callOf g2_callOf v1 v2
def R21 : List Row := [(0, .aload_n 0, 1, 0, (0, 0, 0, 0, 0, 0)), (1, .iload_n 1, 1, 0, (0, 0, 0, 0, 0, 0)), (2, .invokevirtual 51, 3, 0, (0, 2, 0, 0, 1, 0)), (5, .astore_n 3, 1, 0, (0, 0, 0, 0, 0, 0)), (6, .iload_n 2, 1, 0, (0, 0, 0, 0, 0, 0)), (7, .tableswitch 85 0 5 #[37, 47, 53, 67, 73, 79], 37, 0, (0, 0, 0, 0, 0, 0)), (44, .aload_n 0, 1, 0, (0, 0, 0, 0, 0, 0)), (45, .iload_n 1, 1, 0, (0, 0, 0, 0, 0, 0)), (46, .aload_n 3, 1, 0, (0, 0, 0, 0, 0, 0)), (47, .getfield 55, 3, 0, (9, 1, 0, 0, 0, 0)), (50, .invokevirtual 58, 3, 0, (3, 3, 0, 0, 1, 0)), (53, .lreturn, 1, 0, (0, 0, 0, 0, 0, 0)), (54, .aload_n 0, 1, 0, (0, 0, 0, 0, 0, 0)), (55, .iload_n 1, 1, 0, (0, 0, 0, 0, 0, 0)), (56, .invokevirtual 62, 3, 0, (2, 2, 0, 0, 1, 0)), (59, .lreturn, 1, 0, (0, 0, 0, 0, 0, 0)), (60, .aload_n 0, 1, 0, (0, 0, 0, 0, 0, 0)), (61, .iload_n 1, 1, 0, (0, 0, 0, 0, 0, 0)), (62, .aload_n 3, 1, 0, (0, 0, 0, 0, 0, 0)), (63, .getfield 66, 3, 0, (9, 0, 0, 0, 0, 0)), (66, .aload_n 3, 1, 0, (0, 0, 0, 0, 0, 0)), (67, .getfield 55, 3, 0, (9, 1, 0, 0, 0, 0)), (70, .invokevirtual 69, 3, 0, (1, 4, 0, 0, 1, 0)), (73, .lreturn, 1, 0, (0, 0, 0, 0, 0, 0)), (74, .aload_n 3, 1, 0, (0, 0, 0, 0, 0, 0)), (75, .getfield 66, 3, 0, (9, 0, 0, 0, 0, 0)), (78, .i2l, 1, 0, (0, 0, 0, 0, 0, 0)), (79, .lreturn, 1, 0, (0, 0, 0, 0, 0, 0)), (80, .aload_n 3, 1, 0, (0, 0, 0, 0, 0, 0)), (81, .getfield 55, 3, 0, (9, 1, 0, 0, 0, 0)), (84, .i2l, 1, 0, (0, 0, 0, 0, 0, 0)), (85, .lreturn, 1, 0, (0, 0, 0, 0, 0, 0)), (86, .aload_n 3, 1, 0, (0, 0, 0, 0, 0, 0)), (87, .getfield 73, 3, 0, (9, 2, 0, 0, 0, 0)), (90, .i2l, 1, 0, (0, 0, 0, 0, 0, 0)), (91, .lreturn, 1, 0, (0, 0, 0, 0, 0, 0)), (92, .aload_n 3, 1, 0, (0, 0, 0, 0, 0, 0)), (93, .getfield 76, 3, 0, (9, 3, 1, 0, 0, 0)), (96, .ifCond .eq 7, 3, 0, (0, 0, 0, 0, 0, 0)), (99, .lconst 1, 1, 0, (0, 0, 0, 0, 0, 1)), (100, .goto 4, 3, 0, (0, 0, 0, 0, 0, 0)), (103, .lconst 0, 1, 0, (0, 0, 0, 0, 0, 0)), (104, .lreturn, 1, 0, (0, 0, 0, 0, 0, 0))]
set_option maxRecDepth 100000 in
theorem rk21 : R21.all (rok 0 21 2 [(18, [5, 0]), (27, [5, 0, 0, 0]), (26, [5, 0]), (24, [5, 0, 0])]) = true := by decide +kernel
set_option maxRecDepth 100000 in
theorem tab21 {F18 : PM → Int32 → Nat} {G18 : PM → Int32 → Prop} {F27 : PM → Int32 → Int32 → Int32 → Int64} {G27 : PM → Int32 → Int32 → Int32 → Prop} {F26 : PM → Int32 → Int64} {G26 : PM → Int32 → Prop} {F24 : PM → Int32 → Int32 → Int64} {G24 : PM → Int32 → Int32 → Prop} : TabOK 0 21 2 [CC18 F18 G18, CC27 F27 G27, CC26 F26 G26, CC24 F24 G24] R21 := tab_ok (K := K21) rfl rfl (fun h => d21 h) rk21 (by decide +kernel)
set_option maxRecDepth 100000 in
theorem pc21 : cutpc [] R21 = true := by decide +kernel
set_option maxRecDepth 100000 in
theorem r2_tell (p : PM) (hg : Gr 0 p) (F18 : PM → Int32 → Nat) (G18 : PM → Int32 → Prop) (o18 : CalOK 0 (CC18 F18 G18)) (F27 : PM → Int32 → Int32 → Int32 → Int64) (G27 : PM → Int32 → Int32 → Int32 → Prop) (o27 : CalOK 0 (CC27 F27 G27)) (F26 : PM → Int32 → Int64) (G26 : PM → Int32 → Prop) (o26 : CalOK 0 (CC26 F26 G26)) (F24 : PM → Int32 → Int32 → Int64) (G24 : PM → Int32 → Int32 → Prop) (o24 : CalOK 0 (CC24 F24 G24)) : ∀ (v1 : Int32) (v2 : Int32), bg2_tell p F18 G18 F24 G24 F26 G26 F27 G27 v1 v2 → ZJ 0 21 0 [zR 2 1, zI v1, zI v2, zJ] [] p (hoL p (bv2_tell p F18 F24 F26 F27 v1 v2)) := by
  intro v1 v2  H
  exact roL (n := 3000) (q := 0) (la := [zR 2 1, zI v1, zI v2, zJ]) (sa := []) (ks := []) (gs := []) (fcons o18 (fcons o27 (fcons o26 (fcons o24 (fnil))))) tab21 pc21 trivial hg H
theorem t2_tell (p : PM) (hg : Gr 0 p) : ∀ (v1 : Int32) (v2 : Int32), g2_tell p v1 v2 → ZJ 0 21 0 [zR 2 1, zI v1, zI v2, zJ] [] p (hoL p (v2_tell p v1 v2)) := r2_tell p hg v2_memberAt g2_memberAt ok18 v2_callOf g2_callOf ok27 v2_valueOf g2_valueOf ok26 v2_riskOf g2_riskOf ok24
def CC21 (F : PM → Int32 → Int32 → Int64) (G : PM → Int32 → Int32 → Prop) : Cal := (21, [5, 0, 0], 2, true, fun as p => (zL (F p (ai as 1) (ai as 2)), p), fun as p => zsw (tc2 as [(102, 1), (0, 0), (0, 0)]) False (G p (ai as 1) (ai as 2)))
set_option maxRecDepth 100000 in
theorem okr21 (F : PM → Int32 → Int32 → Int64) (G : PM → Int32 → Int32 → Prop) (h : ∀ (p : PM) (v1 : Int32) (v2 : Int32), Gr 0 p → G p v1 v2 → ZJ 0 21 0 [zR 2 1, zI v1, zI v2, zJ] [] p (hoL p (F p v1 v2))) : CalOK 0 (CC21 F G) := cal_ok (m := 4) (by unfold mL; rw [mX_21]) (fun as p hg H => h p (ai as 1) (ai as 2) hg H)
theorem ok21 : CalOK 0 (CC21 v2_tell g2_tell) := okr21 v2_tell g2_tell (fun p v1 v2 hg H => t2_tell p hg v1 v2 H)
noncomputable def bv2_canPay (p : PM) (F18 : PM → Int32 → Nat) (F27 : PM → Int32 → Int32 → Int32 → Int64) (v1 : Int32) (v2 : Int32) (v3 : Int32) : Int32 :=
  let x1 : Int32 := ((p.1 9 (F18 p v1) 0) + v2)
  let x2 : Int32 := ((p.1 9 (F18 p v1) 1) + v3)
  if (p.1 9 (F18 p v1) 3) = 0 then (
    if x1 < 0 then (
      (cn 0))
    else (
      if x2 < 0 then (
        (cn 0))
      else (
        if v2 < 0 then (
          if (lg_cmp (F27 p v1 x1 x2) (cl 0)) = 0 then (
            (cn 1))
          else (
            (cn 0)))
        else (
          if v3 < 0 then (
            if (lg_cmp (F27 p v1 x1 x2) (cl 0)) = 0 then (
              (cn 1))
            else (
              (cn 0)))
          else (
            (cn 1))))))
  else (
    (cn 0))
noncomputable def v2_canPay (p : PM) (v1 : Int32) (v2 : Int32) (v3 : Int32) : Int32 := bv2_canPay p v2_memberAt v2_callOf v1 v2 v3
noncomputable def bg2_canPay (p : PM) (F18 : PM → Int32 → Nat) (G18 : PM → Int32 → Prop) (F27 : PM → Int32 → Int32 → Int32 → Int64) (G27 : PM → Int32 → Int32 → Int32 → Prop) (v1 : Int32) (v2 : Int32) (v3 : Int32) : Prop :=
  (G18 p v1) ∧ (
  (¬ (F18 p v1) = 0) ∧ (
  let x1 : Int32 := ((p.1 9 (F18 p v1) 0) + v2)
  (¬ (F18 p v1) = 0) ∧ (
  let x2 : Int32 := ((p.1 9 (F18 p v1) 1) + v3)
  (¬ (F18 p v1) = 0) ∧ (
  if (p.1 9 (F18 p v1) 3) = 0 then (
    if x1 < 0 then (
      True)
    else (
      if x2 < 0 then (
        True)
      else (
        if v2 < 0 then (
          (G27 p v1 x1 x2) ∧ (
          if (lg_cmp (F27 p v1 x1 x2) (cl 0)) = 0 then (
            True)
          else (
            True)))
        else (
          if v3 < 0 then (
            (G27 p v1 x1 x2) ∧ (
            if (lg_cmp (F27 p v1 x1 x2) (cl 0)) = 0 then (
              True)
            else (
              True)))
          else (
            True)))))
  else (
    True)))))
noncomputable def g2_canPay (p : PM) (v1 : Int32) (v2 : Int32) (v3 : Int32) : Prop := bg2_canPay p v2_memberAt g2_memberAt v2_callOf g2_callOf v1 v2 v3
def R28 : List Row := [(0, .aload_n 0, 1, 0, (0, 0, 0, 0, 0, 0)), (1, .iload_n 1, 1, 0, (0, 0, 0, 0, 0, 0)), (2, .invokevirtual 51, 3, 0, (0, 2, 0, 0, 1, 0)), (5, .astore 4, 2, 0, (0, 0, 0, 0, 0, 0)), (7, .aload 4, 2, 0, (0, 0, 0, 0, 0, 0)), (9, .getfield 66, 3, 0, (9, 0, 0, 0, 0, 0)), (12, .iload_n 2, 1, 0, (0, 0, 0, 0, 0, 0)), (13, .iadd, 1, 0, (0, 0, 0, 0, 0, 0)), (14, .istore 5, 2, 0, (0, 0, 0, 0, 0, 0)), (16, .aload 4, 2, 0, (0, 0, 0, 0, 0, 0)), (18, .getfield 55, 3, 0, (9, 1, 0, 0, 0, 0)), (21, .iload_n 3, 1, 0, (0, 0, 0, 0, 0, 0)), (22, .iadd, 1, 0, (0, 0, 0, 0, 0, 0)), (23, .istore 6, 2, 0, (0, 0, 0, 0, 0, 0)), (25, .aload 4, 2, 0, (0, 0, 0, 0, 0, 0)), (27, .getfield 76, 3, 0, (9, 3, 1, 0, 0, 0)), (30, .ifCond .ne 13, 3, 0, (0, 0, 0, 0, 0, 0)), (33, .iload 5, 2, 0, (0, 0, 0, 0, 0, 0)), (35, .ifCond .lt 8, 3, 0, (0, 0, 0, 0, 0, 0)), (38, .iload 6, 2, 0, (0, 0, 0, 0, 0, 0)), (40, .ifCond .ge 5, 3, 0, (0, 0, 0, 0, 0, 0)), (43, .iconst 0, 1, 0, (0, 0, 0, 0, 0, 0)), (44, .ireturn, 1, 0, (1, 0, 0, 0, 0, 0)), (45, .iload_n 2, 1, 0, (0, 0, 0, 0, 0, 0)), (46, .ifCond .lt 7, 3, 0, (0, 0, 0, 0, 0, 0)), (49, .iload_n 3, 1, 0, (0, 0, 0, 0, 0, 0)), (50, .ifCond .ge 17, 3, 0, (0, 0, 0, 0, 0, 0)), (53, .aload_n 0, 1, 0, (0, 0, 0, 0, 0, 0)), (54, .iload_n 1, 1, 0, (0, 0, 0, 0, 0, 0)), (55, .iload 5, 2, 0, (0, 0, 0, 0, 0, 0)), (57, .iload 6, 2, 0, (0, 0, 0, 0, 0, 0)), (59, .invokevirtual 69, 3, 0, (1, 4, 0, 0, 1, 0)), (62, .lconst 0, 1, 0, (0, 0, 0, 0, 0, 0)), (63, .lcmp, 1, 0, (0, 0, 0, 0, 0, 0)), (64, .ifCond .ne 7, 3, 0, (0, 0, 0, 0, 0, 0)), (67, .iconst 1, 1, 0, (0, 0, 0, 0, 0, 1)), (68, .goto 4, 3, 0, (0, 0, 0, 0, 0, 0)), (71, .iconst 0, 1, 0, (0, 0, 0, 0, 0, 0)), (72, .ireturn, 1, 0, (1, 0, 0, 0, 0, 0))]
set_option maxRecDepth 100000 in
theorem rk28 : R28.all (rok 0 28 1 [(18, [5, 0]), (27, [5, 0, 0, 0])]) = true := by decide +kernel
set_option maxRecDepth 100000 in
theorem tab28 {F18 : PM → Int32 → Nat} {G18 : PM → Int32 → Prop} {F27 : PM → Int32 → Int32 → Int32 → Int64} {G27 : PM → Int32 → Int32 → Int32 → Prop} : TabOK 0 28 1 [CC18 F18 G18, CC27 F27 G27] R28 := tab_ok (K := K28) rfl rfl (fun h => d28 h) rk28 (by decide +kernel)
set_option maxRecDepth 100000 in
theorem pc28 : cutpc [] R28 = true := by decide +kernel
set_option maxRecDepth 100000 in
theorem r2_canPay (p : PM) (hg : Gr 0 p) (F18 : PM → Int32 → Nat) (G18 : PM → Int32 → Prop) (o18 : CalOK 0 (CC18 F18 G18)) (F27 : PM → Int32 → Int32 → Int32 → Int64) (G27 : PM → Int32 → Int32 → Int32 → Prop) (o27 : CalOK 0 (CC27 F27 G27)) : ∀ (v1 : Int32) (v2 : Int32) (v3 : Int32), bg2_canPay p F18 G18 F27 G27 v1 v2 v3 → ZJ 0 28 0 [zR 2 1, zI v1, zI v2, zI v3, zJ, zJ, zJ] [] p (hoI p (bv2_canPay p F18 F27 v1 v2 v3)) := by
  intro v1 v2 v3  H
  exact roI (n := 3000) (q := 0) (la := [zR 2 1, zI v1, zI v2, zI v3, zJ, zJ, zJ]) (sa := []) (ks := []) (gs := []) (fcons o18 (fcons o27 (fnil))) tab28 pc28 trivial hg H
theorem t2_canPay (p : PM) (hg : Gr 0 p) : ∀ (v1 : Int32) (v2 : Int32) (v3 : Int32), g2_canPay p v1 v2 v3 → ZJ 0 28 0 [zR 2 1, zI v1, zI v2, zI v3, zJ, zJ, zJ] [] p (hoI p (v2_canPay p v1 v2 v3)) := r2_canPay p hg v2_memberAt g2_memberAt ok18 v2_callOf g2_callOf ok27
def CC28 (F : PM → Int32 → Int32 → Int32 → Int32) (G : PM → Int32 → Int32 → Int32 → Prop) : Cal := (28, [5, 0, 0, 0], 1, true, fun as p => (zI (F p (ai as 1) (ai as 2) (ai as 3)), p), fun as p => zsw (tc2 as [(102, 1), (0, 0), (0, 0), (0, 0)]) False (G p (ai as 1) (ai as 2) (ai as 3)))
set_option maxRecDepth 100000 in
theorem okr28 (F : PM → Int32 → Int32 → Int32 → Int32) (G : PM → Int32 → Int32 → Int32 → Prop) (h : ∀ (p : PM) (v1 : Int32) (v2 : Int32) (v3 : Int32), Gr 0 p → G p v1 v2 v3 → ZJ 0 28 0 [zR 2 1, zI v1, zI v2, zI v3, zJ, zJ, zJ] [] p (hoI p (F p v1 v2 v3))) : CalOK 0 (CC28 F G) := cal_ok (m := 7) (by unfold mL; rw [mX_28]) (fun as p hg H => h p (ai as 1) (ai as 2) (ai as 3) hg H)
theorem ok28 : CalOK 0 (CC28 v2_canPay g2_canPay) := okr28 v2_canPay g2_canPay (fun p v1 v2 v3 hg H => t2_canPay p hg v1 v2 v3 H)
noncomputable def bv2_bring (F18 : PM → Int32 → Nat) (F27 : PM → Int32 → Int32 → Int32 → Int64) (p : PM) (v1 : Int32) (v2 : Int32) (v3 : Int32) : Int32 × PM :=
  let p1 : PM := pI p 9 (F18 p v1) 0 ((p.1 9 (F18 p v1) 0) + v2)
  let p2 : PM := pI p1 9 (F18 p v1) 1 ((p1.1 9 (F18 p v1) 1) + v3)
  (((F27 p2 v1 (p2.1 9 (F18 p v1) 0) (p2.1 9 (F18 p v1) 1))).toInt32, p2)
noncomputable def v2_bring (p : PM) (v1 : Int32) (v2 : Int32) (v3 : Int32) : Int32 × PM := bv2_bring v2_memberAt v2_callOf p v1 v2 v3
noncomputable def bg2_bring (F18 : PM → Int32 → Nat) (G18 : PM → Int32 → Prop) (F27 : PM → Int32 → Int32 → Int32 → Int64) (G27 : PM → Int32 → Int32 → Int32 → Prop) (p : PM) (v1 : Int32) (v2 : Int32) (v3 : Int32) : Prop :=
  (G18 p v1) ∧ (
  (¬ (F18 p v1) = 0) ∧ (
  (¬ (F18 p v1) = 0) ∧ (
  let p1 : PM := pI p 9 (F18 p v1) 0 ((p.1 9 (F18 p v1) 0) + v2)
  (¬ (F18 p v1) = 0) ∧ (
  (¬ (F18 p v1) = 0) ∧ (
  let p2 : PM := pI p1 9 (F18 p v1) 1 ((p1.1 9 (F18 p v1) 1) + v3)
  (¬ (F18 p v1) = 0) ∧ (
  (¬ (F18 p v1) = 0) ∧ (
  (G27 p2 v1 (p2.1 9 (F18 p v1) 0) (p2.1 9 (F18 p v1) 1)) ∧ (
  True))))))))
noncomputable def g2_bring (p : PM) (v1 : Int32) (v2 : Int32) (v3 : Int32) : Prop := bg2_bring v2_memberAt g2_memberAt v2_callOf g2_callOf p v1 v2 v3
def R29 : List Row := [(0, .aload_n 0, 1, 0, (0, 0, 0, 0, 0, 0)), (1, .iload_n 1, 1, 0, (0, 0, 0, 0, 0, 0)), (2, .invokevirtual 51, 3, 0, (0, 2, 0, 0, 1, 0)), (5, .astore 4, 2, 0, (0, 0, 0, 0, 0, 0)), (7, .aload 4, 2, 0, (0, 0, 0, 0, 0, 0)), (9, .dup, 1, 0, (0, 0, 0, 0, 0, 0)), (10, .getfield 66, 3, 0, (9, 0, 0, 0, 0, 0)), (13, .iload_n 2, 1, 0, (0, 0, 0, 0, 0, 0)), (14, .iadd, 1, 0, (0, 0, 0, 0, 0, 0)), (15, .putfield 66, 3, 0, (9, 0, 0, 0, 0, 0)), (18, .aload 4, 2, 0, (0, 0, 0, 0, 0, 0)), (20, .dup, 1, 0, (0, 0, 0, 0, 0, 0)), (21, .getfield 55, 3, 0, (9, 1, 0, 0, 0, 0)), (24, .iload_n 3, 1, 0, (0, 0, 0, 0, 0, 0)), (25, .iadd, 1, 0, (0, 0, 0, 0, 0, 0)), (26, .putfield 55, 3, 0, (9, 1, 0, 0, 0, 0)), (29, .aload_n 0, 1, 0, (0, 0, 0, 0, 0, 0)), (30, .iload_n 1, 1, 0, (0, 0, 0, 0, 0, 0)), (31, .aload 4, 2, 0, (0, 0, 0, 0, 0, 0)), (33, .getfield 66, 3, 0, (9, 0, 0, 0, 0, 0)), (36, .aload 4, 2, 0, (0, 0, 0, 0, 0, 0)), (38, .getfield 55, 3, 0, (9, 1, 0, 0, 0, 0)), (41, .invokevirtual 69, 3, 0, (1, 4, 0, 0, 1, 0)), (44, .l2i, 1, 0, (0, 0, 0, 0, 0, 0)), (45, .ireturn, 1, 0, (0, 0, 0, 0, 0, 0))]
set_option maxRecDepth 100000 in
theorem rk29 : R29.all (rok 0 29 1 [(18, [5, 0]), (27, [5, 0, 0, 0])]) = true := by decide +kernel
set_option maxRecDepth 100000 in
theorem tab29 {F18 : PM → Int32 → Nat} {G18 : PM → Int32 → Prop} {F27 : PM → Int32 → Int32 → Int32 → Int64} {G27 : PM → Int32 → Int32 → Int32 → Prop} : TabOK 0 29 1 [CC18 F18 G18, CC27 F27 G27] R29 := tab_ok (K := K29) rfl rfl (fun h => d29 h) rk29 (by decide +kernel)
set_option maxRecDepth 100000 in
theorem pc29 : cutpc [] R29 = true := by decide +kernel
set_option maxRecDepth 100000 in
theorem r2_bring (F18 : PM → Int32 → Nat) (G18 : PM → Int32 → Prop) (o18 : CalOK 0 (CC18 F18 G18)) (F27 : PM → Int32 → Int32 → Int32 → Int64) (G27 : PM → Int32 → Int32 → Int32 → Prop) (o27 : CalOK 0 (CC27 F27 G27)) : ∀ (p : PM) (v1 : Int32) (v2 : Int32) (v3 : Int32), Gr 0 p → bg2_bring F18 G18 F27 G27 p v1 v2 v3 → ZJ 0 29 0 [zR 2 1, zI v1, zI v2, zI v3, zJ] [] p (hwI (bv2_bring F18 F27 p v1 v2 v3)) := by
  intro p v1 v2 v3  hg H
  exact rwI (n := 3000) (q := 0) (la := [zR 2 1, zI v1, zI v2, zI v3, zJ]) (sa := []) (ks := []) (gs := []) (fcons o18 (fcons o27 (fnil))) tab29 pc29 trivial hg H
theorem t2_bring : ∀ (p : PM) (v1 : Int32) (v2 : Int32) (v3 : Int32), Gr 0 p → g2_bring p v1 v2 v3 → ZJ 0 29 0 [zR 2 1, zI v1, zI v2, zI v3, zJ] [] p (hwI (v2_bring p v1 v2 v3)) := r2_bring v2_memberAt g2_memberAt ok18 v2_callOf g2_callOf ok27
def CC29 (F : PM → Int32 → Int32 → Int32 → Int32 × PM) (G : PM → Int32 → Int32 → Int32 → Prop) : Cal := (29, [5, 0, 0, 0], 1, false, fun as p => (zI (F p (ai as 1) (ai as 2) (ai as 3)).1, (F p (ai as 1) (ai as 2) (ai as 3)).2), fun as p => zsw (tc2 as [(102, 1), (0, 0), (0, 0), (0, 0)]) False (G p (ai as 1) (ai as 2) (ai as 3)))
set_option maxRecDepth 100000 in
theorem okr29 (F : PM → Int32 → Int32 → Int32 → Int32 × PM) (G : PM → Int32 → Int32 → Int32 → Prop) (h : ∀ (p : PM) (v1 : Int32) (v2 : Int32) (v3 : Int32), Gr 0 p → G p v1 v2 v3 → ZJ 0 29 0 [zR 2 1, zI v1, zI v2, zI v3, zJ] [] p (hwI (F p v1 v2 v3))) : CalOK 0 (CC29 F G) := cal_ok (m := 5) (by unfold mL; rw [mX_29]) (fun as p hg H => h p (ai as 1) (ai as 2) (ai as 3) hg H)
theorem ok29 : CalOK 0 (CC29 v2_bring g2_bring) := okr29 v2_bring g2_bring t2_bring
noncomputable def bv2_changeMove (F23 : PM → Int32 → Int32 → Int32) (p : PM) (v1 : Int32) (v2 : Int32) (v3 : Int32) : Int32 × PM :=
  if v1 < 0 then (
    ((F23 p v1 v2), p))
  else (
    if v1 < (cn 4) then (
      if v2 < 0 then (
        ((F23 p v1 v2), p))
      else (
        if v2 < (cn 4) then (
          let p1 : PM := pI p 13 ((v1).toNatClampNeg + 20) (v2).toNatClampNeg v3
          ((F23 p v1 v2), p1))
        else (
          ((F23 p v1 v2), p))))
    else (
      ((F23 p v1 v2), p)))
noncomputable def v2_changeMove (p : PM) (v1 : Int32) (v2 : Int32) (v3 : Int32) : Int32 × PM := bv2_changeMove v2_moveOf p v1 v2 v3
noncomputable def bg2_changeMove (F23 : PM → Int32 → Int32 → Int32) (G23 : PM → Int32 → Int32 → Prop) (p : PM) (v1 : Int32) (v2 : Int32) (v3 : Int32) : Prop :=
  (G23 p v1 v2) ∧ (
  if v1 < 0 then (
    True)
  else (
    if v1 < (cn 4) then (
      (inb v1 4) ∧ (
      if v2 < 0 then (
        True)
      else (
        ((20 ≤ ((v1).toNatClampNeg + 20) ∧ ((v1).toNatClampNeg + 20) ≤ 23)) ∧ (
        if v2 < (cn 4) then (
          (((20 ≤ ((v1).toNatClampNeg + 20) ∧ ((v1).toNatClampNeg + 20) ≤ 23) ∧ inb v2 4)) ∧ (
          let p1 : PM := pI p 13 ((v1).toNatClampNeg + 20) (v2).toNatClampNeg v3
          True))
        else (
          True)))))
    else (
      True)))
noncomputable def g2_changeMove (p : PM) (v1 : Int32) (v2 : Int32) (v3 : Int32) : Prop := bg2_changeMove v2_moveOf g2_moveOf p v1 v2 v3
def R30 : List Row := [(0, .aload_n 0, 1, 0, (0, 0, 0, 0, 0, 0)), (1, .iload_n 1, 1, 0, (0, 0, 0, 0, 0, 0)), (2, .iload_n 2, 1, 0, (0, 0, 0, 0, 0, 0)), (3, .invokevirtual 86, 3, 0, (0, 3, 0, 0, 1, 0)), (6, .istore 4, 2, 0, (0, 0, 0, 0, 0, 0)), (8, .iload_n 1, 1, 0, (0, 0, 0, 0, 0, 0)), (9, .ifCond .lt 36, 3, 0, (0, 0, 0, 0, 0, 0)), (12, .iload_n 1, 1, 0, (0, 0, 0, 0, 0, 0)), (13, .aload_n 0, 1, 0, (0, 0, 0, 0, 0, 0)), (14, .getfield 19, 3, 0, (2, 3, 24, 2, 1, 0)), (17, .arraylength, 1, 0, (21, 4, 0, 0, 0, 4)), (18, .if_icmp .ge 27, 3, 0, (0, 0, 0, 0, 0, 0)), (21, .aload_n 0, 1, 0, (0, 0, 0, 0, 0, 0)), (22, .getfield 19, 3, 0, (2, 3, 24, 2, 1, 0)), (25, .iload_n 1, 1, 0, (0, 0, 0, 0, 0, 0)), (26, .aaload, 1, 0, (21, 4, 0, 1, 20, 0)), (27, .astore 5, 2, 0, (0, 0, 0, 0, 0, 0)), (29, .iload_n 2, 1, 0, (0, 0, 0, 0, 0, 0)), (30, .ifCond .lt 15, 3, 0, (0, 0, 0, 0, 0, 0)), (33, .iload_n 2, 1, 0, (0, 0, 0, 0, 0, 0)), (34, .aload 5, 2, 0, (0, 0, 0, 0, 0, 0)), (36, .arraylength, 1, 0, (13, 4, 2, 0, 0, 4)), (37, .if_icmp .ge 8, 3, 0, (0, 0, 0, 0, 0, 0)), (40, .aload 5, 2, 0, (0, 0, 0, 0, 0, 0)), (42, .iload_n 2, 1, 0, (0, 0, 0, 0, 0, 0)), (43, .iload_n 3, 1, 0, (0, 0, 0, 0, 0, 0)), (44, .iastore, 1, 0, (13, 4, 2, 0, 0, 0)), (45, .iload 4, 2, 0, (0, 0, 0, 0, 0, 0)), (47, .ireturn, 1, 0, (0, 0, 0, 0, 0, 0))]
set_option maxRecDepth 100000 in
theorem rk30 : R30.all (rok 0 30 1 [(23, [5, 0, 0])]) = true := by decide +kernel
set_option maxRecDepth 100000 in
theorem tab30 {F23 : PM → Int32 → Int32 → Int32} {G23 : PM → Int32 → Int32 → Prop} : TabOK 0 30 1 [CC23 F23 G23] R30 := tab_ok (K := K30) rfl rfl (fun h => d30 h) rk30 (by decide +kernel)
set_option maxRecDepth 100000 in
theorem pc30 : cutpc [] R30 = true := by decide +kernel
set_option maxRecDepth 100000 in
theorem r2_changeMove (F23 : PM → Int32 → Int32 → Int32) (G23 : PM → Int32 → Int32 → Prop) (o23 : CalOK 0 (CC23 F23 G23)) : ∀ (p : PM) (v1 : Int32) (v2 : Int32) (v3 : Int32), Gr 0 p → bg2_changeMove F23 G23 p v1 v2 v3 → ZJ 0 30 0 [zR 2 1, zI v1, zI v2, zI v3, zJ, zJ] [] p (hwI (bv2_changeMove F23 p v1 v2 v3)) := by
  intro p v1 v2 v3  hg H
  exact rwI (n := 3000) (q := 0) (la := [zR 2 1, zI v1, zI v2, zI v3, zJ, zJ]) (sa := []) (ks := []) (gs := []) (fcons o23 (fnil)) tab30 pc30 trivial hg H
theorem t2_changeMove : ∀ (p : PM) (v1 : Int32) (v2 : Int32) (v3 : Int32), Gr 0 p → g2_changeMove p v1 v2 v3 → ZJ 0 30 0 [zR 2 1, zI v1, zI v2, zI v3, zJ, zJ] [] p (hwI (v2_changeMove p v1 v2 v3)) := r2_changeMove v2_moveOf g2_moveOf ok23
def CC30 (F : PM → Int32 → Int32 → Int32 → Int32 × PM) (G : PM → Int32 → Int32 → Int32 → Prop) : Cal := (30, [5, 0, 0, 0], 1, false, fun as p => (zI (F p (ai as 1) (ai as 2) (ai as 3)).1, (F p (ai as 1) (ai as 2) (ai as 3)).2), fun as p => zsw (tc2 as [(102, 1), (0, 0), (0, 0), (0, 0)]) False (G p (ai as 1) (ai as 2) (ai as 3)))
set_option maxRecDepth 100000 in
theorem okr30 (F : PM → Int32 → Int32 → Int32 → Int32 × PM) (G : PM → Int32 → Int32 → Int32 → Prop) (h : ∀ (p : PM) (v1 : Int32) (v2 : Int32) (v3 : Int32), Gr 0 p → G p v1 v2 v3 → ZJ 0 30 0 [zR 2 1, zI v1, zI v2, zI v3, zJ, zJ] [] p (hwI (F p v1 v2 v3))) : CalOK 0 (CC30 F G) := cal_ok (m := 6) (by unfold mL; rw [mX_30]) (fun as p hg H => h p (ai as 1) (ai as 2) (ai as 3) hg H)
theorem ok30 : CalOK 0 (CC30 v2_changeMove g2_changeMove) := okr30 v2_changeMove g2_changeMove t2_changeMove
noncomputable def bv2_changeHaircut (p : PM) (v1 : Int32) : Int32 × PM :=
  let p1 : PM := pI p 2 1 4 v1
  ((p.1 2 1 4), p1)
noncomputable def v2_changeHaircut (p : PM) (v1 : Int32) : Int32 × PM := bv2_changeHaircut p v1
noncomputable def bg2_changeHaircut (p : PM) (v1 : Int32) : Prop :=
  let p1 : PM := pI p 2 1 4 v1
  True
noncomputable def g2_changeHaircut (p : PM) (v1 : Int32) : Prop := bg2_changeHaircut p v1
def R31 : List Row := [(0, .aload_n 0, 1, 0, (0, 0, 0, 0, 0, 0)), (1, .getfield 34, 3, 0, (2, 4, 0, 1, 0, 0)), (4, .istore_n 2, 1, 0, (0, 0, 0, 0, 0, 0)), (5, .aload_n 0, 1, 0, (0, 0, 0, 0, 0, 0)), (6, .iload_n 1, 1, 0, (0, 0, 0, 0, 0, 0)), (7, .putfield 34, 3, 0, (2, 4, 0, 1, 0, 0)), (10, .iload_n 2, 1, 0, (0, 0, 0, 0, 0, 0)), (11, .ireturn, 1, 0, (0, 0, 0, 0, 0, 0))]
set_option maxRecDepth 100000 in
theorem rk31 : R31.all (rok 0 31 1 []) = true := by decide +kernel
set_option maxRecDepth 100000 in
theorem tab31 : TabOK 0 31 1 [] R31 := tab_ok (K := K31) rfl rfl (fun h => d31 h) rk31 (by decide +kernel)
set_option maxRecDepth 100000 in
theorem pc31 : cutpc [] R31 = true := by decide +kernel
set_option maxRecDepth 100000 in
theorem r2_changeHaircut : ∀ (p : PM) (v1 : Int32), Gr 0 p → bg2_changeHaircut p v1 → ZJ 0 31 0 [zR 2 1, zI v1, zJ] [] p (hwI (bv2_changeHaircut p v1)) := by
  intro p v1  hg H
  exact rwI (n := 3000) (q := 0) (la := [zR 2 1, zI v1, zJ]) (sa := []) (ks := []) (gs := []) (fnil) tab31 pc31 trivial hg H
theorem t2_changeHaircut : ∀ (p : PM) (v1 : Int32), Gr 0 p → g2_changeHaircut p v1 → ZJ 0 31 0 [zR 2 1, zI v1, zJ] [] p (hwI (v2_changeHaircut p v1)) := r2_changeHaircut
def CC31 (F : PM → Int32 → Int32 × PM) (G : PM → Int32 → Prop) : Cal := (31, [5, 0], 1, false, fun as p => (zI (F p (ai as 1)).1, (F p (ai as 1)).2), fun as p => zsw (tc2 as [(102, 1), (0, 0)]) False (G p (ai as 1)))
set_option maxRecDepth 100000 in
theorem okr31 (F : PM → Int32 → Int32 × PM) (G : PM → Int32 → Prop) (h : ∀ (p : PM) (v1 : Int32), Gr 0 p → G p v1 → ZJ 0 31 0 [zR 2 1, zI v1, zJ] [] p (hwI (F p v1))) : CalOK 0 (CC31 F G) := cal_ok (m := 3) (by unfold mL; rw [mX_31]) (fun as p hg H => h p (ai as 1) hg H)
theorem ok31 : CalOK 0 (CC31 v2_changeHaircut g2_changeHaircut) := okr31 v2_changeHaircut g2_changeHaircut t2_changeHaircut
noncomputable def bv2_changeFund (F18 : PM → Int32 → Nat) (p : PM) (v1 : Int32) (v2 : Int32) : Int32 × PM :=
  let x1 : Int32 := (p.1 9 (F18 p v1) 2)
  let p2 : PM := pI p 9 (F18 p v1) 2 v2
  (x1, p2)
noncomputable def v2_changeFund (p : PM) (v1 : Int32) (v2 : Int32) : Int32 × PM := bv2_changeFund v2_memberAt p v1 v2
noncomputable def bg2_changeFund (F18 : PM → Int32 → Nat) (G18 : PM → Int32 → Prop) (p : PM) (v1 : Int32) (v2 : Int32) : Prop :=
  (G18 p v1) ∧ (
  (¬ (F18 p v1) = 0) ∧ (
  let x1 : Int32 := (p.1 9 (F18 p v1) 2)
  (¬ (F18 p v1) = 0) ∧ (
  let p2 : PM := pI p 9 (F18 p v1) 2 v2
  True)))
noncomputable def g2_changeFund (p : PM) (v1 : Int32) (v2 : Int32) : Prop := bg2_changeFund v2_memberAt g2_memberAt p v1 v2
def R32 : List Row := [(0, .aload_n 0, 1, 0, (0, 0, 0, 0, 0, 0)), (1, .iload_n 1, 1, 0, (0, 0, 0, 0, 0, 0)), (2, .invokevirtual 51, 3, 0, (0, 2, 0, 0, 1, 0)), (5, .astore_n 3, 1, 0, (0, 0, 0, 0, 0, 0)), (6, .aload_n 3, 1, 0, (0, 0, 0, 0, 0, 0)), (7, .getfield 73, 3, 0, (9, 2, 0, 0, 0, 0)), (10, .istore 4, 2, 0, (0, 0, 0, 0, 0, 0)), (12, .aload_n 3, 1, 0, (0, 0, 0, 0, 0, 0)), (13, .iload_n 2, 1, 0, (0, 0, 0, 0, 0, 0)), (14, .putfield 73, 3, 0, (9, 2, 0, 0, 0, 0)), (17, .iload 4, 2, 0, (0, 0, 0, 0, 0, 0)), (19, .ireturn, 1, 0, (0, 0, 0, 0, 0, 0))]
set_option maxRecDepth 100000 in
theorem rk32 : R32.all (rok 0 32 1 [(18, [5, 0])]) = true := by decide +kernel
set_option maxRecDepth 100000 in
theorem tab32 {F18 : PM → Int32 → Nat} {G18 : PM → Int32 → Prop} : TabOK 0 32 1 [CC18 F18 G18] R32 := tab_ok (K := K32) rfl rfl (fun h => d32 h) rk32 (by decide +kernel)
set_option maxRecDepth 100000 in
theorem pc32 : cutpc [] R32 = true := by decide +kernel
set_option maxRecDepth 100000 in
theorem r2_changeFund (F18 : PM → Int32 → Nat) (G18 : PM → Int32 → Prop) (o18 : CalOK 0 (CC18 F18 G18)) : ∀ (p : PM) (v1 : Int32) (v2 : Int32), Gr 0 p → bg2_changeFund F18 G18 p v1 v2 → ZJ 0 32 0 [zR 2 1, zI v1, zI v2, zJ, zJ] [] p (hwI (bv2_changeFund F18 p v1 v2)) := by
  intro p v1 v2  hg H
  exact rwI (n := 3000) (q := 0) (la := [zR 2 1, zI v1, zI v2, zJ, zJ]) (sa := []) (ks := []) (gs := []) (fcons o18 (fnil)) tab32 pc32 trivial hg H
theorem t2_changeFund : ∀ (p : PM) (v1 : Int32) (v2 : Int32), Gr 0 p → g2_changeFund p v1 v2 → ZJ 0 32 0 [zR 2 1, zI v1, zI v2, zJ, zJ] [] p (hwI (v2_changeFund p v1 v2)) := r2_changeFund v2_memberAt g2_memberAt ok18
def CC32 (F : PM → Int32 → Int32 → Int32 × PM) (G : PM → Int32 → Int32 → Prop) : Cal := (32, [5, 0, 0], 1, false, fun as p => (zI (F p (ai as 1) (ai as 2)).1, (F p (ai as 1) (ai as 2)).2), fun as p => zsw (tc2 as [(102, 1), (0, 0), (0, 0)]) False (G p (ai as 1) (ai as 2)))
set_option maxRecDepth 100000 in
theorem okr32 (F : PM → Int32 → Int32 → Int32 × PM) (G : PM → Int32 → Int32 → Prop) (h : ∀ (p : PM) (v1 : Int32) (v2 : Int32), Gr 0 p → G p v1 v2 → ZJ 0 32 0 [zR 2 1, zI v1, zI v2, zJ, zJ] [] p (hwI (F p v1 v2))) : CalOK 0 (CC32 F G) := cal_ok (m := 5) (by unfold mL; rw [mX_32]) (fun as p hg H => h p (ai as 1) (ai as 2) hg H)
theorem ok32 : CalOK 0 (CC32 v2_changeFund g2_changeFund) := okr32 v2_changeFund g2_changeFund t2_changeFund
noncomputable def bv2_canFail (p : PM) (F18 : PM → Int32 → Nat) (F27 : PM → Int32 → Int32 → Int32 → Int64) (v1 : Int32) : Int32 :=
  if (p.1 2 1 6) = (cn (-100000)) then (
    if (p.1 9 (F18 p v1) 3) = 0 then (
      if 0 < (lg_cmp (F27 p v1 (p.1 9 (F18 p v1) 0) (p.1 9 (F18 p v1) 1)) (cl 0)) then (
        (cn 1))
      else (
        (cn 0)))
    else (
      (cn 0)))
  else (
    (cn 0))
noncomputable def v2_canFail (p : PM) (v1 : Int32) : Int32 := bv2_canFail p v2_memberAt v2_callOf v1
noncomputable def bg2_canFail (p : PM) (F18 : PM → Int32 → Nat) (G18 : PM → Int32 → Prop) (F27 : PM → Int32 → Int32 → Int32 → Int64) (G27 : PM → Int32 → Int32 → Int32 → Prop) (v1 : Int32) : Prop :=
  (G18 p v1) ∧ (
  if (p.1 2 1 6) = (cn (-100000)) then (
    (¬ (F18 p v1) = 0) ∧ (
    if (p.1 9 (F18 p v1) 3) = 0 then (
      (¬ (F18 p v1) = 0) ∧ (
      (¬ (F18 p v1) = 0) ∧ (
      (G27 p v1 (p.1 9 (F18 p v1) 0) (p.1 9 (F18 p v1) 1)) ∧ (
      if 0 < (lg_cmp (F27 p v1 (p.1 9 (F18 p v1) 0) (p.1 9 (F18 p v1) 1)) (cl 0)) then (
        True)
      else (
        True)))))
    else (
      True)))
  else (
    True))
noncomputable def g2_canFail (p : PM) (v1 : Int32) : Prop := bg2_canFail p v2_memberAt g2_memberAt v2_callOf g2_callOf v1
def R33 : List Row := [(0, .aload_n 0, 1, 0, (0, 0, 0, 0, 0, 0)), (1, .iload_n 1, 1, 0, (0, 0, 0, 0, 0, 0)), (2, .invokevirtual 51, 3, 0, (0, 2, 0, 0, 1, 0)), (5, .astore_n 2, 1, 0, (0, 0, 0, 0, 0, 0)), (6, .aload_n 0, 1, 0, (0, 0, 0, 0, 0, 0)), (7, .getfield 42, 3, 0, (2, 6, 0, 1, 0, 0)), (10, .ldc 41, 2, 0, (0, 0, 0, 0, 0, -100000)), (12, .if_icmp .ne 32, 3, 0, (0, 0, 0, 0, 0, 0)), (15, .aload_n 2, 1, 0, (0, 0, 0, 0, 0, 0)), (16, .getfield 76, 3, 0, (9, 3, 1, 0, 0, 0)), (19, .ifCond .ne 25, 3, 0, (0, 0, 0, 0, 0, 0)), (22, .aload_n 0, 1, 0, (0, 0, 0, 0, 0, 0)), (23, .iload_n 1, 1, 0, (0, 0, 0, 0, 0, 0)), (24, .aload_n 2, 1, 0, (0, 0, 0, 0, 0, 0)), (25, .getfield 66, 3, 0, (9, 0, 0, 0, 0, 0)), (28, .aload_n 2, 1, 0, (0, 0, 0, 0, 0, 0)), (29, .getfield 55, 3, 0, (9, 1, 0, 0, 0, 0)), (32, .invokevirtual 69, 3, 0, (1, 4, 0, 0, 1, 0)), (35, .lconst 0, 1, 0, (0, 0, 0, 0, 0, 0)), (36, .lcmp, 1, 0, (0, 0, 0, 0, 0, 0)), (37, .ifCond .le 7, 3, 0, (0, 0, 0, 0, 0, 0)), (40, .iconst 1, 1, 0, (0, 0, 0, 0, 0, 1)), (41, .goto 4, 3, 0, (0, 0, 0, 0, 0, 0)), (44, .iconst 0, 1, 0, (0, 0, 0, 0, 0, 0)), (45, .ireturn, 1, 0, (1, 0, 0, 0, 0, 0))]
set_option maxRecDepth 100000 in
theorem rk33 : R33.all (rok 0 33 1 [(18, [5, 0]), (27, [5, 0, 0, 0])]) = true := by decide +kernel
set_option maxRecDepth 100000 in
theorem tab33 {F18 : PM → Int32 → Nat} {G18 : PM → Int32 → Prop} {F27 : PM → Int32 → Int32 → Int32 → Int64} {G27 : PM → Int32 → Int32 → Int32 → Prop} : TabOK 0 33 1 [CC18 F18 G18, CC27 F27 G27] R33 := tab_ok (K := K33) rfl rfl (fun h => d33 h) rk33 (by decide +kernel)
set_option maxRecDepth 100000 in
theorem pc33 : cutpc [] R33 = true := by decide +kernel
set_option maxRecDepth 100000 in
theorem r2_canFail (p : PM) (hg : Gr 0 p) (F18 : PM → Int32 → Nat) (G18 : PM → Int32 → Prop) (o18 : CalOK 0 (CC18 F18 G18)) (F27 : PM → Int32 → Int32 → Int32 → Int64) (G27 : PM → Int32 → Int32 → Int32 → Prop) (o27 : CalOK 0 (CC27 F27 G27)) : ∀ (v1 : Int32), bg2_canFail p F18 G18 F27 G27 v1 → ZJ 0 33 0 [zR 2 1, zI v1, zJ] [] p (hoI p (bv2_canFail p F18 F27 v1)) := by
  intro v1  H
  exact roI (n := 3000) (q := 0) (la := [zR 2 1, zI v1, zJ]) (sa := []) (ks := []) (gs := []) (fcons o18 (fcons o27 (fnil))) tab33 pc33 trivial hg H
theorem t2_canFail (p : PM) (hg : Gr 0 p) : ∀ (v1 : Int32), g2_canFail p v1 → ZJ 0 33 0 [zR 2 1, zI v1, zJ] [] p (hoI p (v2_canFail p v1)) := r2_canFail p hg v2_memberAt g2_memberAt ok18 v2_callOf g2_callOf ok27
def CC33 (F : PM → Int32 → Int32) (G : PM → Int32 → Prop) : Cal := (33, [5, 0], 1, true, fun as p => (zI (F p (ai as 1)), p), fun as p => zsw (tc2 as [(102, 1), (0, 0)]) False (G p (ai as 1)))
set_option maxRecDepth 100000 in
theorem okr33 (F : PM → Int32 → Int32) (G : PM → Int32 → Prop) (h : ∀ (p : PM) (v1 : Int32), Gr 0 p → G p v1 → ZJ 0 33 0 [zR 2 1, zI v1, zJ] [] p (hoI p (F p v1))) : CalOK 0 (CC33 F G) := cal_ok (m := 3) (by unfold mL; rw [mX_33]) (fun as p hg H => h p (ai as 1) hg H)
theorem ok33 : CalOK 0 (CC33 v2_canFail g2_canFail) := okr33 v2_canFail g2_canFail (fun p v1 hg H => t2_canFail p hg v1 H)
noncomputable def bv2_fall (F18 : PM → Int32 → Nat) (p : PM) (v1 : Int32) : PM :=
  let p1 : PM := pI p 9 (F18 p v1) 3 (cn 1)
  let p2 : PM := pI p1 2 1 6 v1
  p2
noncomputable def v2_fall (p : PM) (v1 : Int32) : PM := bv2_fall v2_memberAt p v1
noncomputable def bg2_fall (F18 : PM → Int32 → Nat) (G18 : PM → Int32 → Prop) (p : PM) (v1 : Int32) : Prop :=
  (G18 p v1) ∧ (
  (¬ (F18 p v1) = 0) ∧ (
  let p1 : PM := pI p 9 (F18 p v1) 3 (cn 1)
  let p2 : PM := pI p1 2 1 6 v1
  True))
noncomputable def g2_fall (p : PM) (v1 : Int32) : Prop := bg2_fall v2_memberAt g2_memberAt p v1
def R34 : List Row := [(0, .aload_n 0, 1, 0, (0, 0, 0, 0, 0, 0)), (1, .iload_n 1, 1, 0, (0, 0, 0, 0, 0, 0)), (2, .invokevirtual 51, 3, 0, (0, 2, 0, 0, 1, 0)), (5, .iconst 1, 1, 0, (0, 0, 0, 0, 0, 1)), (6, .putfield 76, 3, 0, (9, 3, 1, 0, 0, 0)), (9, .aload_n 0, 1, 0, (0, 0, 0, 0, 0, 0)), (10, .iload_n 1, 1, 0, (0, 0, 0, 0, 0, 0)), (11, .putfield 42, 3, 0, (2, 6, 0, 1, 0, 0)), (14, .return_, 1, 0, (0, 0, 0, 0, 0, 0))]
set_option maxRecDepth 100000 in
theorem rk34 : R34.all (rok 0 34 0 [(18, [5, 0])]) = true := by decide +kernel
set_option maxRecDepth 100000 in
theorem tab34 {F18 : PM → Int32 → Nat} {G18 : PM → Int32 → Prop} : TabOK 0 34 0 [CC18 F18 G18] R34 := tab_ok (K := K34) rfl rfl (fun h => d34 h) rk34 (by decide +kernel)
set_option maxRecDepth 100000 in
theorem pc34 : cutpc [] R34 = true := by decide +kernel
set_option maxRecDepth 100000 in
theorem r2_fall (F18 : PM → Int32 → Nat) (G18 : PM → Int32 → Prop) (o18 : CalOK 0 (CC18 F18 G18)) : ∀ (p : PM) (v1 : Int32), Gr 0 p → bg2_fall F18 G18 p v1 → ZJ 0 34 0 [zR 2 1, zI v1] [] p (hwV (bv2_fall F18 p v1)) := by
  intro p v1  hg H
  exact rwV (n := 3000) (q := 0) (la := [zR 2 1, zI v1]) (sa := []) (ks := []) (gs := []) (fcons o18 (fnil)) tab34 pc34 trivial hg H
theorem t2_fall : ∀ (p : PM) (v1 : Int32), Gr 0 p → g2_fall p v1 → ZJ 0 34 0 [zR 2 1, zI v1] [] p (hwV (v2_fall p v1)) := r2_fall v2_memberAt g2_memberAt ok18
def CC34 (F : PM → Int32 → PM) (G : PM → Int32 → Prop) : Cal := (34, [5, 0], 0, false, fun as p => (zJ, (F p (ai as 1))), fun as p => zsw (tc2 as [(102, 1), (0, 0)]) False (G p (ai as 1)))
set_option maxRecDepth 100000 in
theorem okr34 (F : PM → Int32 → PM) (G : PM → Int32 → Prop) (h : ∀ (p : PM) (v1 : Int32), Gr 0 p → G p v1 → ZJ 0 34 0 [zR 2 1, zI v1] [] p (hwV (F p v1))) : CalOK 0 (CC34 F G) := cal_ok (m := 2) (by unfold mL; rw [mX_34]) (fun as p hg H => h p (ai as 1) hg H)
theorem ok34 : CalOK 0 (CC34 v2_fall g2_fall) := okr34 v2_fall g2_fall t2_fall
noncomputable def bv2_takeBid_33 (kv33 : PM → Int32 → Int32 → Int32 × PM) (p : PM) (v4 : Int32) (v7 : Int32) : Int32 × PM :=
  if v7 < (cn 4) then (
    if (p.1 9 ((v7).toNatClampNeg + 1) 4) = 0 then (
      kv33 p v4 (v7 + (cn 1)))
    else (
      kv33 p (v4 + (cn 1)) (v7 + (cn 1))))
  else (
    (v4, p))
noncomputable def v2_takeBid_33 (n : Nat) : PM → Int32 → Int32 → Int32 × PM := Nat.rec (motive := fun _ => PM → Int32 → Int32 → Int32 × PM) (fun p _ _ => (0, p)) (fun _ ih => bv2_takeBid_33 ih) n
theorem ev2_takeBid_33 (n : Nat) (p : PM) (v4 : Int32) (v7 : Int32) : v2_takeBid_33 (n + 1) p v4 v7 = bv2_takeBid_33 (v2_takeBid_33 n) p v4 v7 := rfl
noncomputable def bg2_takeBid_33 (kg33 : PM → Int32 → Int32 → Prop) (p : PM) (v4 : Int32) (v7 : Int32) : Prop :=
  if v7 < (cn 4) then (
    (inb v7 4) ∧ (
    if (p.1 9 ((v7).toNatClampNeg + 1) 4) = 0 then (
      kg33 p v4 (v7 + (cn 1)))
    else (
      kg33 p (v4 + (cn 1)) (v7 + (cn 1)))))
  else (
    True)
noncomputable def g2_takeBid_33 (n : Nat) : PM → Int32 → Int32 → Prop := Nat.rec (motive := fun _ => PM → Int32 → Int32 → Prop) (fun _ _ _ => False) (fun _ ih => bg2_takeBid_33 ih) n
theorem eg2_takeBid_33 (n : Nat) (p : PM) (v4 : Int32) (v7 : Int32) : g2_takeBid_33 (n + 1) p v4 v7 = bg2_takeBid_33 (g2_takeBid_33 n) p v4 v7 := rfl
noncomputable def bv2_takeBid (F18 : PM → Int32 → Nat) (kv33 : PM → Int32 → Int32 → Int32 × PM) (p : PM) (v1 : Int32) (v2 : Int32) : Int32 × PM :=
  let p1 : PM := pI p 9 (F18 p v1) 4 (cn 1)
  let p2 : PM := pI p1 9 (F18 p v1) 5 v2
  kv33 p2 (cn 0) (cn 0)
noncomputable def v2_takeBid (p : PM) (v1 : Int32) (v2 : Int32) : Int32 × PM := bv2_takeBid v2_memberAt (v2_takeBid_33 FU) p v1 v2
noncomputable def bg2_takeBid (F18 : PM → Int32 → Nat) (G18 : PM → Int32 → Prop) (kg33 : PM → Int32 → Int32 → Prop) (p : PM) (v1 : Int32) (v2 : Int32) : Prop :=
  (G18 p v1) ∧ (
  (¬ (F18 p v1) = 0) ∧ (
  let p1 : PM := pI p 9 (F18 p v1) 4 (cn 1)
  (¬ (F18 p v1) = 0) ∧ (
  let p2 : PM := pI p1 9 (F18 p v1) 5 v2
  kg33 p2 (cn 0) (cn 0))))
noncomputable def g2_takeBid (p : PM) (v1 : Int32) (v2 : Int32) : Prop := bg2_takeBid v2_memberAt g2_memberAt (g2_takeBid_33 FU) p v1 v2
def R35 : List Row := [(0, .aload_n 0, 1, 0, (0, 0, 0, 0, 0, 0)), (1, .iload_n 1, 1, 0, (0, 0, 0, 0, 0, 0)), (2, .invokevirtual 51, 3, 0, (0, 2, 0, 0, 1, 0)), (5, .astore_n 3, 1, 0, (0, 0, 0, 0, 0, 0)), (6, .aload_n 3, 1, 0, (0, 0, 0, 0, 0, 0)), (7, .iconst 1, 1, 0, (0, 0, 0, 0, 0, 1)), (8, .putfield 136, 3, 0, (9, 4, 1, 0, 0, 0)), (11, .aload_n 3, 1, 0, (0, 0, 0, 0, 0, 0)), (12, .iload_n 2, 1, 0, (0, 0, 0, 0, 0, 0)), (13, .putfield 139, 3, 0, (9, 5, 0, 0, 0, 0)), (16, .iconst 0, 1, 0, (0, 0, 0, 0, 0, 0)), (17, .istore 4, 2, 0, (0, 0, 0, 0, 0, 0)), (19, .aload_n 0, 1, 0, (0, 0, 0, 0, 0, 0)), (20, .getfield 11, 3, 0, (2, 2, 22, 2, 1, 0)), (23, .astore 5, 2, 0, (0, 0, 0, 0, 0, 0)), (25, .aload 5, 2, 0, (0, 0, 0, 0, 0, 0)), (27, .arraylength, 1, 0, (19, 4, 0, 0, 0, 4)), (28, .istore 6, 2, 0, (0, 0, 0, 0, 0, 0)), (30, .iconst 0, 1, 0, (0, 0, 0, 0, 0, 0)), (31, .istore 7, 2, 0, (0, 0, 0, 0, 0, 0)), (33, .iload 7, 2, 1, (0, 0, 0, 0, 0, 0)), (35, .iload 6, 2, 0, (0, 0, 0, 0, 0, 0)), (37, .if_icmp .ge 27, 3, 0, (0, 0, 0, 0, 0, 0)), (40, .aload 5, 2, 0, (0, 0, 0, 0, 0, 0)), (42, .iload 7, 2, 0, (0, 0, 0, 0, 0, 0)), (44, .aaload, 1, 0, (19, 4, 0, 1, 1, 0)), (45, .astore 8, 2, 0, (0, 0, 0, 0, 0, 0)), (47, .aload 8, 2, 0, (0, 0, 0, 0, 0, 0)), (49, .getfield 136, 3, 0, (9, 4, 1, 1, 0, 0)), (52, .ifCond .eq 6, 3, 0, (0, 0, 0, 0, 0, 0)), (55, .iinc 4 1, 3, 0, (0, 0, 0, 0, 0, 1)), (58, .iinc 7 1, 3, 0, (0, 0, 0, 0, 0, 1)), (61, .goto (-28), 3, 0, (0, 0, 0, 0, 0, 0)), (64, .iload 4, 2, 0, (0, 0, 0, 0, 0, 0)), (66, .ireturn, 1, 0, (0, 0, 0, 0, 0, 0))]
set_option maxRecDepth 100000 in
theorem rk35 : R35.all (rok 0 35 1 [(18, [5, 0])]) = true := by decide +kernel
set_option maxRecDepth 100000 in
theorem tab35 {F18 : PM → Int32 → Nat} {G18 : PM → Int32 → Prop} : TabOK 0 35 1 [CC18 F18 G18] R35 := tab_ok (K := K35) rfl rfl (fun h => d35 h) rk35 (by decide +kernel)
set_option maxRecDepth 100000 in
theorem pc35 : cutpc [33] R35 = true := by decide +kernel
set_option maxRecDepth 100000 in
theorem r2_takeBid_33 (F18 : PM → Int32 → Nat) (G18 : PM → Int32 → Prop) (o18 : CalOK 0 (CC18 F18 G18)) (kv33 : PM → Int32 → Int32 → Int32 × PM) (kg33 : PM → Int32 → Int32 → Prop) (hk33 : ∀ (p : PM) (v4 : Int32) (v7 : Int32) (d0 d1 d2 d3 d8 : ZV), Gr 0 p → kg33 p v4 v7 → ZJ 0 35 33 [d0, d1, d2, d3, zI v4, zR 19 1, zC 4, zI v7, d8] [] p (hwI (kv33 p v4 v7))) : ∀ (p : PM) (v4 : Int32) (v7 : Int32) (d0 d1 d2 d3 d8 : ZV), Gr 0 p → bg2_takeBid_33 kg33 p v4 v7 → ZJ 0 35 33 [d0, d1, d2, d3, zI v4, zR 19 1, zC 4, zI v7, d8] [] p (hwI (bv2_takeBid_33 kv33 p v4 v7)) := by
  intro p v4 v7 d0 d1 d2 d3 d8 hg H
  exact rwI (n := 3000) (q := 33) (la := [d0, d1, d2, d3, zI v4, zR 19 1, zC 4, zI v7, d8]) (sa := []) (ks := [fun la sa s => kv33 s (ai la 4) (ai la 7)]) (gs := [fun la sa s => zsw (tc2 la [(2, 0), (2, 0), (2, 0), (2, 0), (0, 0), (119, 1), (3, 4), (0, 0), (2, 0)] && tc2 sa []) False (kg33 s (ai la 4) (ai la 7))]) (fcons o18 (fnil)) tab35 pc35 ⟨fun la sa s hg H => zcut H fun H => hk33 s (ai la 4) (ai la 7) (zld la 0) (zld la 1) (zld la 2) (zld la 3) (zld la 8) hg H, trivial⟩ hg H
theorem t2_takeBid_33 : ∀ (n : Nat), ∀ (p : PM) (v4 : Int32) (v7 : Int32) (d0 d1 d2 d3 d8 : ZV), Gr 0 p → g2_takeBid_33 n p v4 v7 → ZJ 0 35 33 [d0, d1, d2, d3, zI v4, zR 19 1, zC 4, zI v7, d8] [] p (hwI (v2_takeBid_33 n p v4 v7)) := by
  intro n
  induction n with
  | zero =>
    intro p v4 v7 d0 d1 d2 d3 d8 hg H
    exact H.elim
  | succ n ih => exact r2_takeBid_33 v2_memberAt g2_memberAt ok18 (v2_takeBid_33 n) (g2_takeBid_33 n) ih
set_option maxRecDepth 100000 in
theorem r2_takeBid (F18 : PM → Int32 → Nat) (G18 : PM → Int32 → Prop) (o18 : CalOK 0 (CC18 F18 G18)) (kv33 : PM → Int32 → Int32 → Int32 × PM) (kg33 : PM → Int32 → Int32 → Prop) (hk33 : ∀ (p : PM) (v4 : Int32) (v7 : Int32) (d0 d1 d2 d3 d8 : ZV), Gr 0 p → kg33 p v4 v7 → ZJ 0 35 33 [d0, d1, d2, d3, zI v4, zR 19 1, zC 4, zI v7, d8] [] p (hwI (kv33 p v4 v7))) : ∀ (p : PM) (v1 : Int32) (v2 : Int32), Gr 0 p → bg2_takeBid F18 G18 kg33 p v1 v2 → ZJ 0 35 0 [zR 2 1, zI v1, zI v2, zJ, zJ, zJ, zJ, zJ, zJ] [] p (hwI (bv2_takeBid F18 kv33 p v1 v2)) := by
  intro p v1 v2  hg H
  exact rwI (n := 3000) (q := 0) (la := [zR 2 1, zI v1, zI v2, zJ, zJ, zJ, zJ, zJ, zJ]) (sa := []) (ks := [fun la sa s => kv33 s (ai la 4) (ai la 7)]) (gs := [fun la sa s => zsw (tc2 la [(2, 0), (2, 0), (2, 0), (2, 0), (0, 0), (119, 1), (3, 4), (0, 0), (2, 0)] && tc2 sa []) False (kg33 s (ai la 4) (ai la 7))]) (fcons o18 (fnil)) tab35 pc35 ⟨fun la sa s hg H => zcut H fun H => hk33 s (ai la 4) (ai la 7) (zld la 0) (zld la 1) (zld la 2) (zld la 3) (zld la 8) hg H, trivial⟩ hg H
theorem t2_takeBid : ∀ (p : PM) (v1 : Int32) (v2 : Int32), Gr 0 p → g2_takeBid p v1 v2 → ZJ 0 35 0 [zR 2 1, zI v1, zI v2, zJ, zJ, zJ, zJ, zJ, zJ] [] p (hwI (v2_takeBid p v1 v2)) := r2_takeBid v2_memberAt g2_memberAt ok18 (v2_takeBid_33 FU) (g2_takeBid_33 FU) (t2_takeBid_33 FU)
def CC35 (F : PM → Int32 → Int32 → Int32 × PM) (G : PM → Int32 → Int32 → Prop) : Cal := (35, [5, 0, 0], 1, false, fun as p => (zI (F p (ai as 1) (ai as 2)).1, (F p (ai as 1) (ai as 2)).2), fun as p => zsw (tc2 as [(102, 1), (0, 0), (0, 0)]) False (G p (ai as 1) (ai as 2)))
set_option maxRecDepth 100000 in
theorem okr35 (F : PM → Int32 → Int32 → Int32 × PM) (G : PM → Int32 → Int32 → Prop) (h : ∀ (p : PM) (v1 : Int32) (v2 : Int32), Gr 0 p → G p v1 v2 → ZJ 0 35 0 [zR 2 1, zI v1, zI v2, zJ, zJ, zJ, zJ, zJ, zJ] [] p (hwI (F p v1 v2))) : CalOK 0 (CC35 F G) := cal_ok (m := 9) (by unfold mL; rw [mX_35]) (fun as p hg H => h p (ai as 1) (ai as 2) hg H)
theorem ok35 : CalOK 0 (CC35 v2_takeBid g2_takeBid) := okr35 v2_takeBid g2_takeBid t2_takeBid
noncomputable def bv2_highestBidder_5 (p : PM) (F18 : PM → Int32 → Nat) (kv5 : Int32 → Int32 → Int32) (v1 : Int32) (v2 : Int32) : Int32 :=
  if v2 < (cn 4) then (
    if (p.1 9 (F18 p v2) 4) = 0 then (
      kv5 v1 (v2 + (cn 1)))
    else (
      if v1 = (cn (-100000)) then (
        kv5 v2 (v2 + (cn 1)))
      else (
        if (p.1 9 (F18 p v1) 5) < (p.1 9 (F18 p v2) 5) then (
          kv5 v2 (v2 + (cn 1)))
        else (
          kv5 v1 (v2 + (cn 1))))))
  else (
    v1)
noncomputable def v2_highestBidder_5 (p : PM) (n : Nat) : Int32 → Int32 → Int32 := Nat.rec (motive := fun _ => Int32 → Int32 → Int32) (fun _ _ => 0) (fun _ ih => bv2_highestBidder_5 p v2_memberAt ih) n
theorem ev2_highestBidder_5 (p : PM) (n : Nat) (v1 : Int32) (v2 : Int32) : v2_highestBidder_5 p (n + 1) v1 v2 = bv2_highestBidder_5 p v2_memberAt (v2_highestBidder_5 p n) v1 v2 := rfl
noncomputable def bg2_highestBidder_5 (p : PM) (F18 : PM → Int32 → Nat) (G18 : PM → Int32 → Prop) (kg5 : Int32 → Int32 → Prop) (v1 : Int32) (v2 : Int32) : Prop :=
  if v2 < (cn 4) then (
    (G18 p v2) ∧ (
    (¬ (F18 p v2) = 0) ∧ (
    if (p.1 9 (F18 p v2) 4) = 0 then (
      kg5 v1 (v2 + (cn 1)))
    else (
      if v1 = (cn (-100000)) then (
        kg5 v2 (v2 + (cn 1)))
      else (
        (¬ (F18 p v2) = 0) ∧ (
        (G18 p v1) ∧ (
        (¬ (F18 p v1) = 0) ∧ (
        if (p.1 9 (F18 p v1) 5) < (p.1 9 (F18 p v2) 5) then (
          kg5 v2 (v2 + (cn 1)))
        else (
          kg5 v1 (v2 + (cn 1)))))))))))
  else (
    True)
noncomputable def g2_highestBidder_5 (p : PM) (n : Nat) : Int32 → Int32 → Prop := Nat.rec (motive := fun _ => Int32 → Int32 → Prop) (fun _ _ => False) (fun _ ih => bg2_highestBidder_5 p v2_memberAt g2_memberAt ih) n
theorem eg2_highestBidder_5 (p : PM) (n : Nat) (v1 : Int32) (v2 : Int32) : g2_highestBidder_5 p (n + 1) v1 v2 = bg2_highestBidder_5 p v2_memberAt g2_memberAt (g2_highestBidder_5 p n) v1 v2 := rfl
noncomputable def bv2_highestBidder (p : PM) (kv5 : Int32 → Int32 → Int32) : Int32 :=
  kv5 (cn (-100000)) (cn 0)
noncomputable def v2_highestBidder (p : PM) : Int32 := bv2_highestBidder p (v2_highestBidder_5 p FU)
noncomputable def bg2_highestBidder (p : PM) (kg5 : Int32 → Int32 → Prop) : Prop :=
  kg5 (cn (-100000)) (cn 0)
noncomputable def g2_highestBidder (p : PM) : Prop := bg2_highestBidder p (g2_highestBidder_5 p FU)
def R36 : List Row := [(0, .ldc 41, 2, 0, (0, 0, 0, 0, 0, -100000)), (2, .istore_n 1, 1, 0, (0, 0, 0, 0, 0, 0)), (3, .iconst 0, 1, 0, (0, 0, 0, 0, 0, 0)), (4, .istore_n 2, 1, 0, (0, 0, 0, 0, 0, 0)), (5, .iload_n 2, 1, 1, (0, 0, 0, 0, 0, 0)), (6, .iconst 4, 1, 0, (0, 0, 0, 0, 0, 4)), (7, .if_icmp .ge 45, 3, 0, (0, 0, 0, 0, 0, 0)), (10, .aload_n 0, 1, 0, (0, 0, 0, 0, 0, 0)), (11, .iload_n 2, 1, 0, (0, 0, 0, 0, 0, 0)), (12, .invokevirtual 51, 3, 0, (0, 2, 0, 0, 1, 0)), (15, .astore_n 3, 1, 0, (0, 0, 0, 0, 0, 0)), (16, .aload_n 3, 1, 0, (0, 0, 0, 0, 0, 0)), (17, .getfield 136, 3, 0, (9, 4, 1, 0, 0, 0)), (20, .ifCond .eq 26, 3, 0, (0, 0, 0, 0, 0, 0)), (23, .iload_n 1, 1, 0, (0, 0, 0, 0, 0, 0)), (24, .ldc 41, 2, 0, (0, 0, 0, 0, 0, -100000)), (26, .if_icmp .eq 18, 3, 0, (0, 0, 0, 0, 0, 0)), (29, .aload_n 3, 1, 0, (0, 0, 0, 0, 0, 0)), (30, .getfield 139, 3, 0, (9, 5, 0, 0, 0, 0)), (33, .aload_n 0, 1, 0, (0, 0, 0, 0, 0, 0)), (34, .iload_n 1, 1, 0, (0, 0, 0, 0, 0, 0)), (35, .invokevirtual 51, 3, 0, (0, 2, 0, 0, 1, 0)), (38, .getfield 139, 3, 0, (9, 5, 0, 0, 0, 0)), (41, .if_icmp .le 5, 3, 0, (0, 0, 0, 0, 0, 0)), (44, .iload_n 2, 1, 0, (0, 0, 0, 0, 0, 0)), (45, .istore_n 1, 1, 0, (0, 0, 0, 0, 0, 0)), (46, .iinc 2 1, 3, 0, (0, 0, 0, 0, 0, 1)), (49, .goto (-44), 3, 0, (0, 0, 0, 0, 0, 0)), (52, .iload_n 1, 1, 0, (0, 0, 0, 0, 0, 0)), (53, .ireturn, 1, 0, (0, 0, 0, 0, 0, 0))]
set_option maxRecDepth 100000 in
theorem rk36 : R36.all (rok 0 36 1 [(18, [5, 0])]) = true := by decide +kernel
set_option maxRecDepth 100000 in
theorem tab36 {F18 : PM → Int32 → Nat} {G18 : PM → Int32 → Prop} : TabOK 0 36 1 [CC18 F18 G18] R36 := tab_ok (K := K36) rfl rfl (fun h => d36 h) rk36 (by decide +kernel)
set_option maxRecDepth 100000 in
theorem pc36 : cutpc [5] R36 = true := by decide +kernel
set_option maxRecDepth 100000 in
theorem r2_highestBidder_5 (p : PM) (hg : Gr 0 p) (F18 : PM → Int32 → Nat) (G18 : PM → Int32 → Prop) (o18 : CalOK 0 (CC18 F18 G18)) (kv5 : Int32 → Int32 → Int32) (kg5 : Int32 → Int32 → Prop) (hk5 : ∀ (v1 : Int32) (v2 : Int32) (d3 : ZV), kg5 v1 v2 → ZJ 0 36 5 [zR 2 1, zI v1, zI v2, d3] [] p (hoI p (kv5 v1 v2))) : ∀ (v1 : Int32) (v2 : Int32) (d3 : ZV), bg2_highestBidder_5 p F18 G18 kg5 v1 v2 → ZJ 0 36 5 [zR 2 1, zI v1, zI v2, d3] [] p (hoI p (bv2_highestBidder_5 p F18 kv5 v1 v2)) := by
  intro v1 v2 d3 H
  exact roI (n := 3000) (q := 5) (la := [zR 2 1, zI v1, zI v2, d3]) (sa := []) (ks := [fun la sa _ => kv5 (ai la 1) (ai la 2)]) (gs := [fun la sa _ => zsw (tc2 la [(102, 1), (0, 0), (0, 0), (2, 0)] && tc2 sa []) False (kg5 (ai la 1) (ai la 2))]) (fcons o18 (fnil)) tab36 pc36 ⟨fun la sa s hg H => zcut H fun H => hk5 (ai la 1) (ai la 2) (zld la 3) H, trivial⟩ hg H
theorem t2_highestBidder_5 (p : PM) (hg : Gr 0 p) : ∀ (n : Nat), ∀ (v1 : Int32) (v2 : Int32) (d3 : ZV), g2_highestBidder_5 p n v1 v2 → ZJ 0 36 5 [zR 2 1, zI v1, zI v2, d3] [] p (hoI p (v2_highestBidder_5 p n v1 v2)) := by
  intro n
  induction n with
  | zero =>
    intro v1 v2 d3 H
    exact H.elim
  | succ n ih => exact r2_highestBidder_5 p hg v2_memberAt g2_memberAt ok18 (v2_highestBidder_5 p n) (g2_highestBidder_5 p n) ih
set_option maxRecDepth 100000 in
theorem r2_highestBidder (p : PM) (hg : Gr 0 p) (F18 : PM → Int32 → Nat) (G18 : PM → Int32 → Prop) (o18 : CalOK 0 (CC18 F18 G18)) (kv5 : Int32 → Int32 → Int32) (kg5 : Int32 → Int32 → Prop) (hk5 : ∀ (v1 : Int32) (v2 : Int32) (d3 : ZV), kg5 v1 v2 → ZJ 0 36 5 [zR 2 1, zI v1, zI v2, d3] [] p (hoI p (kv5 v1 v2))) : bg2_highestBidder p kg5 → ZJ 0 36 0 [zR 2 1, zJ, zJ, zJ] [] p (hoI p (bv2_highestBidder p kv5)) := by
  intro   H
  exact roI (n := 3000) (q := 0) (la := [zR 2 1, zJ, zJ, zJ]) (sa := []) (ks := [fun la sa _ => kv5 (ai la 1) (ai la 2)]) (gs := [fun la sa _ => zsw (tc2 la [(102, 1), (0, 0), (0, 0), (2, 0)] && tc2 sa []) False (kg5 (ai la 1) (ai la 2))]) (fcons o18 (fnil)) tab36 pc36 ⟨fun la sa s hg H => zcut H fun H => hk5 (ai la 1) (ai la 2) (zld la 3) H, trivial⟩ hg H
theorem t2_highestBidder (p : PM) (hg : Gr 0 p) : g2_highestBidder p → ZJ 0 36 0 [zR 2 1, zJ, zJ, zJ] [] p (hoI p (v2_highestBidder p)) := r2_highestBidder p hg v2_memberAt g2_memberAt ok18 (v2_highestBidder_5 p FU) (g2_highestBidder_5 p FU) (t2_highestBidder_5 p hg FU)
def CC36 (F : PM → Int32) (G : PM → Prop) : Cal := (36, [5], 1, true, fun as p => (zI (F p ), p), fun as p => zsw (tc2 as [(102, 1)]) False (G p ))
set_option maxRecDepth 100000 in
theorem okr36 (F : PM → Int32) (G : PM → Prop) (h : ∀ (p : PM), Gr 0 p → G p  → ZJ 0 36 0 [zR 2 1, zJ, zJ, zJ] [] p (hoI p (F p ))) : CalOK 0 (CC36 F G) := cal_ok (m := 4) (by unfold mL; rw [mX_36]) (fun as p hg H => h p  hg H)
theorem ok36 : CalOK 0 (CC36 v2_highestBidder g2_highestBidder) := okr36 v2_highestBidder g2_highestBidder (fun p  hg H => t2_highestBidder p hg  H)
noncomputable def bv2_handOver_74 (F2 : PM → Nat → Int32 → Int32) (F4 : PM → Nat → Int32 → Int32 → PM) (F22 : PM → Int32 → Int32 → Int64) (kv74 : PM → Nat → Nat → Nat → Int64 → Int32 → PM) (p : PM) (v2 : Nat) (v3 : Nat) (v4 : Nat) (v5 : Int64) (v7 : Int32) : PM :=
  if v7 < (cn 4) then (
    let x4 : Int32 := ((F22 p (p.1 2 1 6) v7)).toInt32
    let p5 : PM := F4 p v4 v7 ((F2 p v4 v7) + x4)
    let p6 : PM := F4 p5 v2 v7 (cn 0)
    let p7 : PM := F4 p6 v3 v7 (cn 0)
    kv74 p7 v2 v3 v4 v5 (v7 + (cn 1)))
  else (
    let p1 : PM := pJ p 0 v4 4 ((p.2.1 0 v4 4) - v5)
    let p2 : PM := pJ p1 0 v2 4 ((p1.2.1 0 v2 4) + ((p1.2.1 0 v3 4) + v5))
    let p3 : PM := pJ p2 0 v3 4 (cl 0)
    p3)
noncomputable def v2_handOver_74 (n : Nat) : PM → Nat → Nat → Nat → Int64 → Int32 → PM := Nat.rec (motive := fun _ => PM → Nat → Nat → Nat → Int64 → Int32 → PM) (fun p _ _ _ _ _ => p) (fun _ ih => bv2_handOver_74 v0_holds v0_put v2_netOf ih) n
theorem ev2_handOver_74 (n : Nat) (p : PM) (v2 : Nat) (v3 : Nat) (v4 : Nat) (v5 : Int64) (v7 : Int32) : v2_handOver_74 (n + 1) p v2 v3 v4 v5 v7 = bv2_handOver_74 v0_holds v0_put v2_netOf (v2_handOver_74 n) p v2 v3 v4 v5 v7 := rfl
noncomputable def bg2_handOver_74 (F2 : PM → Nat → Int32 → Int32) (G2 : PM → Nat → Int32 → Prop) (F4 : PM → Nat → Int32 → Int32 → PM) (G4 : PM → Nat → Int32 → Int32 → Prop) (F22 : PM → Int32 → Int32 → Int64) (G22 : PM → Int32 → Int32 → Prop) (kg74 : PM → Nat → Nat → Nat → Int64 → Int32 → Prop) (p : PM) (v2 : Nat) (v3 : Nat) (v4 : Nat) (v5 : Int64) (v7 : Int32) : Prop :=
  if v7 < (cn 4) then (
    (G22 p (p.1 2 1 6) v7) ∧ (
    let x4 : Int32 := ((F22 p (p.1 2 1 6) v7)).toInt32
    (¬ v4 = 0) ∧ (
    (G2 p v4 v7) ∧ (
    (¬ v4 = 0) ∧ (
    (G4 p v4 v7 ((F2 p v4 v7) + x4)) ∧ (
    let p5 : PM := F4 p v4 v7 ((F2 p v4 v7) + x4)
    (¬ v2 = 0) ∧ (
    (G4 p5 v2 v7 (cn 0)) ∧ (
    let p6 : PM := F4 p5 v2 v7 (cn 0)
    (¬ v3 = 0) ∧ (
    (G4 p6 v3 v7 (cn 0)) ∧ (
    let p7 : PM := F4 p6 v3 v7 (cn 0)
    kg74 p7 v2 v3 v4 v5 (v7 + (cn 1))))))))))))
  else (
    (¬ v4 = 0) ∧ (
    (¬ v4 = 0) ∧ (
    let p1 : PM := pJ p 0 v4 4 ((p.2.1 0 v4 4) - v5)
    (¬ v2 = 0) ∧ (
    (¬ v3 = 0) ∧ (
    (¬ v2 = 0) ∧ (
    let p2 : PM := pJ p1 0 v2 4 ((p1.2.1 0 v2 4) + ((p1.2.1 0 v3 4) + v5))
    (¬ v3 = 0) ∧ (
    let p3 : PM := pJ p2 0 v3 4 (cl 0)
    True)))))))
noncomputable def g2_handOver_74 (n : Nat) : PM → Nat → Nat → Nat → Int64 → Int32 → Prop := Nat.rec (motive := fun _ => PM → Nat → Nat → Nat → Int64 → Int32 → Prop) (fun _ _ _ _ _ _ => False) (fun _ ih => bg2_handOver_74 v0_holds g0_holds v0_put g0_put v2_netOf g2_netOf ih) n
theorem eg2_handOver_74 (n : Nat) (p : PM) (v2 : Nat) (v3 : Nat) (v4 : Nat) (v5 : Int64) (v7 : Int32) : g2_handOver_74 (n + 1) p v2 v3 v4 v5 v7 = bg2_handOver_74 v0_holds g0_holds v0_put g0_put v2_netOf g2_netOf (g2_handOver_74 n) p v2 v3 v4 v5 v7 := rfl
noncomputable def bv2_handOver (F18 : PM → Int32 → Nat) (F19 : PM → Int32 → Nat) (F20 : PM → Int32 → Nat) (F25 : PM → Int32 → Int64) (F104 : PM → Int32 → Nat) (kv74 : PM → Nat → Nat → Nat → Int64 → Int32 → PM) (p : PM) (v1 : Int32) : PM :=
  let x1 : Nat := (F19 p (p.1 2 1 6))
  let x2 : Nat := (F20 p (p.1 2 1 6))
  if v1 = (cn (-100000)) then (
    if v1 = (cn (-100000)) then (
      let x6 : Int64 := (F25 p (p.1 2 1 6))
      kv74 p x1 x2 (F104 p (cn 8)) x6 (cn 0))
    else (
      let x5 : Int64 := ((p.1 9 (F18 p v1) 5)).toInt64
      kv74 p x1 x2 (F104 p (cn 8)) x5 (cn 0)))
  else (
    if v1 = (cn (-100000)) then (
      let x4 : Int64 := (F25 p (p.1 2 1 6))
      kv74 p x1 x2 (F19 p v1) x4 (cn 0))
    else (
      let x3 : Int64 := ((p.1 9 (F18 p v1) 5)).toInt64
      kv74 p x1 x2 (F19 p v1) x3 (cn 0)))
noncomputable def v2_handOver (p : PM) (v1 : Int32) : PM := bv2_handOver v2_memberAt v2_lowerOf v2_upperOf v2_worthOf v7_accountAt (v2_handOver_74 FU) p v1
noncomputable def bg2_handOver (F18 : PM → Int32 → Nat) (G18 : PM → Int32 → Prop) (F19 : PM → Int32 → Nat) (G19 : PM → Int32 → Prop) (F20 : PM → Int32 → Nat) (G20 : PM → Int32 → Prop) (F25 : PM → Int32 → Int64) (G25 : PM → Int32 → Prop) (F104 : PM → Int32 → Nat) (G104 : PM → Int32 → Prop) (kg74 : PM → Nat → Nat → Nat → Int64 → Int32 → Prop) (p : PM) (v1 : Int32) : Prop :=
  (G19 p (p.1 2 1 6)) ∧ (
  let x1 : Nat := (F19 p (p.1 2 1 6))
  (G20 p (p.1 2 1 6)) ∧ (
  let x2 : Nat := (F20 p (p.1 2 1 6))
  if v1 = (cn (-100000)) then (
    (G104 p (cn 8)) ∧ (
    if v1 = (cn (-100000)) then (
      (G25 p (p.1 2 1 6)) ∧ (
      let x6 : Int64 := (F25 p (p.1 2 1 6))
      kg74 p x1 x2 (F104 p (cn 8)) x6 (cn 0)))
    else (
      (G18 p v1) ∧ (
      (¬ (F18 p v1) = 0) ∧ (
      let x5 : Int64 := ((p.1 9 (F18 p v1) 5)).toInt64
      kg74 p x1 x2 (F104 p (cn 8)) x5 (cn 0))))))
  else (
    (G19 p v1) ∧ (
    if v1 = (cn (-100000)) then (
      (G25 p (p.1 2 1 6)) ∧ (
      let x4 : Int64 := (F25 p (p.1 2 1 6))
      kg74 p x1 x2 (F19 p v1) x4 (cn 0)))
    else (
      (G18 p v1) ∧ (
      (¬ (F18 p v1) = 0) ∧ (
      let x3 : Int64 := ((p.1 9 (F18 p v1) 5)).toInt64
      kg74 p x1 x2 (F19 p v1) x3 (cn 0))))))))
noncomputable def g2_handOver (p : PM) (v1 : Int32) : Prop := bg2_handOver v2_memberAt g2_memberAt v2_lowerOf g2_lowerOf v2_upperOf g2_upperOf v2_worthOf g2_worthOf v7_accountAt g7_accountAt (g2_handOver_74 FU) p v1
def R38 : List Row := [(0, .aload_n 0, 1, 0, (0, 0, 0, 0, 0, 0)), (1, .aload_n 0, 1, 0, (0, 0, 0, 0, 0, 0)), (2, .getfield 42, 3, 0, (2, 6, 0, 1, 0, 0)), (5, .invokevirtual 118, 3, 0, (0, 2, 0, 0, 1, 0)), (8, .astore_n 2, 1, 0, (0, 0, 0, 0, 0, 0)), (9, .aload_n 0, 1, 0, (0, 0, 0, 0, 0, 0)), (10, .aload_n 0, 1, 0, (0, 0, 0, 0, 0, 0)), (11, .getfield 42, 3, 0, (2, 6, 0, 1, 0, 0)), (14, .invokevirtual 125, 3, 0, (1, 2, 0, 0, 1, 0)), (17, .astore_n 3, 1, 0, (0, 0, 0, 0, 0, 0)), (18, .iload_n 1, 1, 0, (0, 0, 0, 0, 0, 0)), (19, .ldc 41, 2, 0, (0, 0, 0, 0, 0, -100000)), (21, .if_icmp .ne 15, 3, 0, (0, 0, 0, 0, 0, 0)), (24, .aload_n 0, 1, 0, (0, 0, 0, 0, 0, 0)), (25, .getfield 26, 3, 0, (2, 1, 10, 2, 1, 0)), (28, .bipush 8, 2, 0, (0, 0, 0, 0, 0, 8)), (30, .invokevirtual 45, 3, 0, (4, 2, 0, 0, 1, 0)), (33, .goto 8, 3, 0, (0, 0, 0, 0, 0, 0)), (36, .aload_n 0, 1, 0, (0, 0, 0, 0, 0, 0)), (37, .iload_n 1, 1, 0, (0, 0, 0, 0, 0, 0)), (38, .invokevirtual 118, 3, 0, (0, 2, 0, 0, 1, 0)), (41, .astore 4, 2, 0, (0, 0, 0, 0, 0, 0)), (43, .iload_n 1, 1, 0, (0, 0, 0, 0, 0, 0)), (44, .ldc 41, 2, 0, (0, 0, 0, 0, 0, -100000)), (46, .if_icmp .ne 14, 3, 0, (0, 0, 0, 0, 0, 0)), (49, .aload_n 0, 1, 0, (0, 0, 0, 0, 0, 0)), (50, .aload_n 0, 1, 0, (0, 0, 0, 0, 0, 0)), (51, .getfield 42, 3, 0, (2, 6, 0, 1, 0, 0)), (54, .invokevirtual 128, 3, 0, (3, 2, 0, 0, 1, 0)), (57, .goto 12, 3, 0, (0, 0, 0, 0, 0, 0)), (60, .aload_n 0, 1, 0, (0, 0, 0, 0, 0, 0)), (61, .iload_n 1, 1, 0, (0, 0, 0, 0, 0, 0)), (62, .invokevirtual 51, 3, 0, (2, 2, 0, 0, 1, 0)), (65, .getfield 139, 3, 0, (9, 5, 0, 0, 0, 0)), (68, .i2l, 1, 0, (0, 0, 0, 0, 0, 0)), (69, .lstore 5, 2, 0, (0, 0, 0, 0, 0, 0)), (71, .iconst 0, 1, 0, (0, 0, 0, 0, 0, 0)), (72, .istore 7, 2, 0, (0, 0, 0, 0, 0, 0)), (74, .iload 7, 2, 1, (0, 0, 0, 0, 0, 0)), (76, .iconst 4, 1, 0, (0, 0, 0, 0, 0, 4)), (77, .if_icmp .ge 53, 3, 0, (0, 0, 0, 0, 0, 0)), (80, .aload_n 0, 1, 0, (0, 0, 0, 0, 0, 0)), (81, .aload_n 0, 1, 0, (0, 0, 0, 0, 0, 0)), (82, .getfield 42, 3, 0, (2, 6, 0, 1, 0, 0)), (85, .iload 7, 2, 0, (0, 0, 0, 0, 0, 0)), (87, .invokevirtual 90, 3, 0, (5, 3, 0, 0, 1, 0)), (90, .l2i, 1, 0, (0, 0, 0, 0, 0, 0)), (91, .istore 8, 2, 0, (0, 0, 0, 0, 0, 0)), (93, .aload 4, 2, 0, (0, 0, 0, 0, 0, 0)), (95, .iload 7, 2, 0, (0, 0, 0, 0, 0, 0)), (97, .aload 4, 2, 0, (0, 0, 0, 0, 0, 0)), (99, .iload 7, 2, 0, (0, 0, 0, 0, 0, 0)), (101, .invokevirtual 80, 3, 0, (6, 2, 0, 0, 2, 0)), (104, .iload 8, 2, 0, (0, 0, 0, 0, 0, 0)), (106, .iadd, 1, 0, (0, 0, 0, 0, 0, 0)), (107, .invokevirtual 159, 3, 0, (7, 3, 0, 0, 2, 0)), (110, .aload_n 2, 1, 0, (0, 0, 0, 0, 0, 0)), (111, .iload 7, 2, 0, (0, 0, 0, 0, 0, 0)), (113, .iconst 0, 1, 0, (0, 0, 0, 0, 0, 0)), (114, .invokevirtual 159, 3, 0, (7, 3, 0, 0, 2, 0)), (117, .aload_n 3, 1, 0, (0, 0, 0, 0, 0, 0)), (118, .iload 7, 2, 0, (0, 0, 0, 0, 0, 0)), (120, .iconst 0, 1, 0, (0, 0, 0, 0, 0, 0)), (121, .invokevirtual 159, 3, 0, (7, 3, 0, 0, 2, 0)), (124, .iinc 7 1, 3, 0, (0, 0, 0, 0, 0, 1)), (127, .goto (-53), 3, 0, (0, 0, 0, 0, 0, 0)), (130, .aload 4, 2, 0, (0, 0, 0, 0, 0, 0)), (132, .dup, 1, 0, (0, 0, 0, 0, 0, 0)), (133, .getfield 121, 3, 0, (0, 4, 2, 0, 0, 0)), (136, .lload 5, 2, 0, (0, 0, 0, 0, 0, 0)), (138, .lsub, 1, 0, (0, 0, 0, 0, 0, 0)), (139, .putfield 121, 3, 0, (0, 4, 2, 0, 0, 0)), (142, .aload_n 2, 1, 0, (0, 0, 0, 0, 0, 0)), (143, .dup, 1, 0, (0, 0, 0, 0, 0, 0)), (144, .getfield 121, 3, 0, (0, 4, 2, 0, 0, 0)), (147, .aload_n 3, 1, 0, (0, 0, 0, 0, 0, 0)), (148, .getfield 121, 3, 0, (0, 4, 2, 0, 0, 0)), (151, .lload 5, 2, 0, (0, 0, 0, 0, 0, 0)), (153, .ladd, 1, 0, (0, 0, 0, 0, 0, 0)), (154, .ladd, 1, 0, (0, 0, 0, 0, 0, 0)), (155, .putfield 121, 3, 0, (0, 4, 2, 0, 0, 0)), (158, .aload_n 3, 1, 0, (0, 0, 0, 0, 0, 0)), (159, .lconst 0, 1, 0, (0, 0, 0, 0, 0, 0)), (160, .putfield 121, 3, 0, (0, 4, 2, 0, 0, 0)), (163, .return_, 1, 0, (0, 0, 0, 0, 0, 0))]
set_option maxRecDepth 100000 in
theorem rk38 : R38.all (rok 0 38 0 [(19, [5, 0]), (20, [5, 0]), (18, [5, 0]), (25, [5, 0]), (104, [10, 0]), (22, [5, 0, 0]), (2, [3, 0]), (4, [3, 0, 0])]) = true := by decide +kernel
set_option maxRecDepth 100000 in
theorem tab38 {F19 : PM → Int32 → Nat} {G19 : PM → Int32 → Prop} {F20 : PM → Int32 → Nat} {G20 : PM → Int32 → Prop} {F18 : PM → Int32 → Nat} {G18 : PM → Int32 → Prop} {F25 : PM → Int32 → Int64} {G25 : PM → Int32 → Prop} {F104 : PM → Int32 → Nat} {G104 : PM → Int32 → Prop} {F22 : PM → Int32 → Int32 → Int64} {G22 : PM → Int32 → Int32 → Prop} {F2 : PM → Nat → Int32 → Int32} {G2 : PM → Nat → Int32 → Prop} {F4 : PM → Nat → Int32 → Int32 → PM} {G4 : PM → Nat → Int32 → Int32 → Prop} : TabOK 0 38 0 [CC19 F19 G19, CC20 F20 G20, CC18 F18 G18, CC25 F25 G25, CC104 F104 G104, CC22 F22 G22, CC2 F2 G2, CC4 F4 G4] R38 := tab_ok (K := K38) rfl rfl (fun h => d38 h) rk38 (by decide +kernel)
set_option maxRecDepth 100000 in
theorem pc38 : cutpc [74] R38 = true := by decide +kernel
set_option maxRecDepth 100000 in
theorem r2_handOver_74 (F19 : PM → Int32 → Nat) (G19 : PM → Int32 → Prop) (o19 : CalOK 0 (CC19 F19 G19)) (F20 : PM → Int32 → Nat) (G20 : PM → Int32 → Prop) (o20 : CalOK 0 (CC20 F20 G20)) (F18 : PM → Int32 → Nat) (G18 : PM → Int32 → Prop) (o18 : CalOK 0 (CC18 F18 G18)) (F25 : PM → Int32 → Int64) (G25 : PM → Int32 → Prop) (o25 : CalOK 0 (CC25 F25 G25)) (F104 : PM → Int32 → Nat) (G104 : PM → Int32 → Prop) (o104 : CalOK 0 (CC104 F104 G104)) (F22 : PM → Int32 → Int32 → Int64) (G22 : PM → Int32 → Int32 → Prop) (o22 : CalOK 0 (CC22 F22 G22)) (F2 : PM → Nat → Int32 → Int32) (G2 : PM → Nat → Int32 → Prop) (o2 : CalOK 0 (CC2 F2 G2)) (F4 : PM → Nat → Int32 → Int32 → PM) (G4 : PM → Nat → Int32 → Int32 → Prop) (o4 : CalOK 0 (CC4 F4 G4)) (kv74 : PM → Nat → Nat → Nat → Int64 → Int32 → PM) (kg74 : PM → Nat → Nat → Nat → Int64 → Int32 → Prop) (hk74 : ∀ (p : PM) (v2 : Nat) (v3 : Nat) (v4 : Nat) (v5 : Int64) (v7 : Int32) (d1 d6 d8 : ZV), Gr 0 p → kg74 p v2 v3 v4 v5 v7 → ZJ 0 38 74 [zR 2 1, d1, zR 0 v2, zR 0 v3, zR 0 v4, zL v5, d6, zI v7, d8] [] p (hwV (kv74 p v2 v3 v4 v5 v7))) : ∀ (p : PM) (v2 : Nat) (v3 : Nat) (v4 : Nat) (v5 : Int64) (v7 : Int32) (d1 d6 d8 : ZV), Gr 0 p → bg2_handOver_74 F2 G2 F4 G4 F22 G22 kg74 p v2 v3 v4 v5 v7 → ZJ 0 38 74 [zR 2 1, d1, zR 0 v2, zR 0 v3, zR 0 v4, zL v5, d6, zI v7, d8] [] p (hwV (bv2_handOver_74 F2 F4 F22 kv74 p v2 v3 v4 v5 v7)) := by
  intro p v2 v3 v4 v5 v7 d1 d6 d8 hg H
  exact rwV (n := 3000) (q := 74) (la := [zR 2 1, d1, zR 0 v2, zR 0 v3, zR 0 v4, zL v5, d6, zI v7, d8]) (sa := []) (ks := [fun la sa s => kv74 s (ar la 2) (ar la 3) (ar la 4) (al la 5) (ai la 7)]) (gs := [fun la sa s => zsw (tc2 la [(102, 1), (2, 0), (4, 0), (4, 0), (4, 0), (1, 0), (2, 0), (0, 0), (2, 0)] && tc2 sa []) False (kg74 s (ar la 2) (ar la 3) (ar la 4) (al la 5) (ai la 7))]) (fcons o19 (fcons o20 (fcons o18 (fcons o25 (fcons o104 (fcons o22 (fcons o2 (fcons o4 (fnil))))))))) tab38 pc38 ⟨fun la sa s hg H => zcut H fun H => hk74 s (ar la 2) (ar la 3) (ar la 4) (al la 5) (ai la 7) (zld la 1) (zld la 6) (zld la 8) hg H, trivial⟩ hg H
theorem t2_handOver_74 : ∀ (n : Nat), ∀ (p : PM) (v2 : Nat) (v3 : Nat) (v4 : Nat) (v5 : Int64) (v7 : Int32) (d1 d6 d8 : ZV), Gr 0 p → g2_handOver_74 n p v2 v3 v4 v5 v7 → ZJ 0 38 74 [zR 2 1, d1, zR 0 v2, zR 0 v3, zR 0 v4, zL v5, d6, zI v7, d8] [] p (hwV (v2_handOver_74 n p v2 v3 v4 v5 v7)) := by
  intro n
  induction n with
  | zero =>
    intro p v2 v3 v4 v5 v7 d1 d6 d8 hg H
    exact H.elim
  | succ n ih => exact r2_handOver_74 v2_lowerOf g2_lowerOf ok19 v2_upperOf g2_upperOf ok20 v2_memberAt g2_memberAt ok18 v2_worthOf g2_worthOf ok25 v7_accountAt g7_accountAt ok104 v2_netOf g2_netOf ok22 v0_holds g0_holds ok2 v0_put g0_put ok4 (v2_handOver_74 n) (g2_handOver_74 n) ih
set_option maxRecDepth 100000 in
theorem r2_handOver (F19 : PM → Int32 → Nat) (G19 : PM → Int32 → Prop) (o19 : CalOK 0 (CC19 F19 G19)) (F20 : PM → Int32 → Nat) (G20 : PM → Int32 → Prop) (o20 : CalOK 0 (CC20 F20 G20)) (F18 : PM → Int32 → Nat) (G18 : PM → Int32 → Prop) (o18 : CalOK 0 (CC18 F18 G18)) (F25 : PM → Int32 → Int64) (G25 : PM → Int32 → Prop) (o25 : CalOK 0 (CC25 F25 G25)) (F104 : PM → Int32 → Nat) (G104 : PM → Int32 → Prop) (o104 : CalOK 0 (CC104 F104 G104)) (F22 : PM → Int32 → Int32 → Int64) (G22 : PM → Int32 → Int32 → Prop) (o22 : CalOK 0 (CC22 F22 G22)) (F2 : PM → Nat → Int32 → Int32) (G2 : PM → Nat → Int32 → Prop) (o2 : CalOK 0 (CC2 F2 G2)) (F4 : PM → Nat → Int32 → Int32 → PM) (G4 : PM → Nat → Int32 → Int32 → Prop) (o4 : CalOK 0 (CC4 F4 G4)) (kv74 : PM → Nat → Nat → Nat → Int64 → Int32 → PM) (kg74 : PM → Nat → Nat → Nat → Int64 → Int32 → Prop) (hk74 : ∀ (p : PM) (v2 : Nat) (v3 : Nat) (v4 : Nat) (v5 : Int64) (v7 : Int32) (d1 d6 d8 : ZV), Gr 0 p → kg74 p v2 v3 v4 v5 v7 → ZJ 0 38 74 [zR 2 1, d1, zR 0 v2, zR 0 v3, zR 0 v4, zL v5, d6, zI v7, d8] [] p (hwV (kv74 p v2 v3 v4 v5 v7))) : ∀ (p : PM) (v1 : Int32), Gr 0 p → bg2_handOver F18 G18 F19 G19 F20 G20 F25 G25 F104 G104 kg74 p v1 → ZJ 0 38 0 [zR 2 1, zI v1, zJ, zJ, zJ, zJ, zJ, zJ, zJ] [] p (hwV (bv2_handOver F18 F19 F20 F25 F104 kv74 p v1)) := by
  intro p v1  hg H
  exact rwV (n := 3000) (q := 0) (la := [zR 2 1, zI v1, zJ, zJ, zJ, zJ, zJ, zJ, zJ]) (sa := []) (ks := [fun la sa s => kv74 s (ar la 2) (ar la 3) (ar la 4) (al la 5) (ai la 7)]) (gs := [fun la sa s => zsw (tc2 la [(102, 1), (2, 0), (4, 0), (4, 0), (4, 0), (1, 0), (2, 0), (0, 0), (2, 0)] && tc2 sa []) False (kg74 s (ar la 2) (ar la 3) (ar la 4) (al la 5) (ai la 7))]) (fcons o19 (fcons o20 (fcons o18 (fcons o25 (fcons o104 (fcons o22 (fcons o2 (fcons o4 (fnil))))))))) tab38 pc38 ⟨fun la sa s hg H => zcut H fun H => hk74 s (ar la 2) (ar la 3) (ar la 4) (al la 5) (ai la 7) (zld la 1) (zld la 6) (zld la 8) hg H, trivial⟩ hg H
theorem t2_handOver : ∀ (p : PM) (v1 : Int32), Gr 0 p → g2_handOver p v1 → ZJ 0 38 0 [zR 2 1, zI v1, zJ, zJ, zJ, zJ, zJ, zJ, zJ] [] p (hwV (v2_handOver p v1)) := r2_handOver v2_lowerOf g2_lowerOf ok19 v2_upperOf g2_upperOf ok20 v2_memberAt g2_memberAt ok18 v2_worthOf g2_worthOf ok25 v7_accountAt g7_accountAt ok104 v2_netOf g2_netOf ok22 v0_holds g0_holds ok2 v0_put g0_put ok4 (v2_handOver_74 FU) (g2_handOver_74 FU) (t2_handOver_74 FU)
def CC38 (F : PM → Int32 → PM) (G : PM → Int32 → Prop) : Cal := (38, [5, 0], 0, false, fun as p => (zJ, (F p (ai as 1))), fun as p => zsw (tc2 as [(102, 1), (0, 0)]) False (G p (ai as 1)))
set_option maxRecDepth 100000 in
theorem okr38 (F : PM → Int32 → PM) (G : PM → Int32 → Prop) (h : ∀ (p : PM) (v1 : Int32), Gr 0 p → G p v1 → ZJ 0 38 0 [zR 2 1, zI v1, zJ, zJ, zJ, zJ, zJ, zJ, zJ] [] p (hwV (F p v1))) : CalOK 0 (CC38 F G) := cal_ok (m := 9) (by unfold mL; rw [mX_38]) (fun as p hg H => h p (ai as 1) hg H)
theorem ok38 : CalOK 0 (CC38 v2_handOver g2_handOver) := okr38 v2_handOver g2_handOver t2_handOver
