/-! methods as functions over one part, by program (wip/p50/lift.py) -/
noncomputable def bv14_min_f86c9 (p : PM) (v0 : Int64) (v2 : Int64) : Int64 :=
  if 0 < (lg_cmp v0 v2) then (
    v2)
  else (
    v0)
noncomputable def v14_min_f86c9 (p : PM) (v0 : Int64) (v2 : Int64) : Int64 := bv14_min_f86c9 p v0 v2
noncomputable def bg14_min_f86c9 (p : PM) (v0 : Int64) (v2 : Int64) : Prop :=
  if 0 < (lg_cmp v0 v2) then (
    True)
  else (
    True)
noncomputable def g14_min_f86c9 (p : PM) (v0 : Int64) (v2 : Int64) : Prop := bg14_min_f86c9 p v0 v2
def R210 : List Row := [(0, .lload_n 0, 1, 0, (0, 0, 0, 0, 0, 0)), (1, .lload_n 2, 1, 0, (0, 0, 0, 0, 0, 0)), (2, .lcmp, 1, 0, (0, 0, 0, 0, 0, 0)), (3, .ifCond .gt 7, 3, 0, (0, 0, 0, 0, 0, 0)), (6, .lload_n 0, 1, 0, (0, 0, 0, 0, 0, 0)), (7, .goto 4, 3, 0, (0, 0, 0, 0, 0, 0)), (10, .lload_n 2, 1, 0, (0, 0, 0, 0, 0, 0)), (11, .lreturn, 1, 0, (0, 0, 0, 0, 0, 0))]
set_option maxRecDepth 100000 in
theorem rk210 : R210.all (rok 0 210 2 []) = true := by decide +kernel
set_option maxRecDepth 100000 in
theorem tab210 : TabOK 0 210 2 [] R210 := tab_ok (K := K210) rfl rfl (fun h => d210 h) rk210 (by decide +kernel)
set_option maxRecDepth 100000 in
theorem pc210 : cutpc [] R210 = true := by decide +kernel
set_option maxRecDepth 100000 in
theorem r14_min_f86c9 (p : PM) (hg : Gr 0 p) : ∀ (v0 : Int64) (v2 : Int64), bg14_min_f86c9 p v0 v2 → ZJ 0 210 0 [zL v0, zJ, zL v2, zJ] [] p (hoL p (bv14_min_f86c9 p v0 v2)) := by
  intro v0 v2  H
  exact roL (n := 3000) (q := 0) (la := [zL v0, zJ, zL v2, zJ]) (sa := []) (ks := []) (gs := []) (fnil) tab210 pc210 trivial hg H
theorem t14_min_f86c9 (p : PM) (hg : Gr 0 p) : ∀ (v0 : Int64) (v2 : Int64), g14_min_f86c9 p v0 v2 → ZJ 0 210 0 [zL v0, zJ, zL v2, zJ] [] p (hoL p (v14_min_f86c9 p v0 v2)) := r14_min_f86c9 p hg
def CC210 (F : PM → Int64 → Int64 → Int64) (G : PM → Int64 → Int64 → Prop) : Cal := (210, [1, 1], 2, true, fun as p => (zL (F p (al as 0) (al as 1)), p), fun as p => zsw (tc2 as [(1, 0), (1, 0)]) False (G p (al as 0) (al as 1)))
set_option maxRecDepth 100000 in
theorem okr210 (F : PM → Int64 → Int64 → Int64) (G : PM → Int64 → Int64 → Prop) (h : ∀ (p : PM) (v0 : Int64) (v2 : Int64), Gr 0 p → G p v0 v2 → ZJ 0 210 0 [zL v0, zJ, zL v2, zJ] [] p (hoL p (F p v0 v2))) : CalOK 0 (CC210 F G) := cal_ok (m := 4) (by unfold mL; rw [mX_210]) (fun as p hg H => h p (al as 0) (al as 1) hg H)
theorem ok210 : CalOK 0 (CC210 v14_min_f86c9 g14_min_f86c9) := okr210 v14_min_f86c9 g14_min_f86c9 (fun p v0 v2 hg H => t14_min_f86c9 p hg v0 v2 H)
noncomputable def bv2_give (F210 : PM → Int64 → Int64 → Int64) (p : PM) (v1 : Int32) (v2 : Int64) : Int64 × PM :=
  let x1 : Int64 := (F210 p (p.2.1 2 1 7) v2)
  if 0 < (lg_cmp x1 (cl 0)) then (
    let p2 : PM := pJ p 2 1 7 ((p.2.1 2 1 7) - x1)
    let p3 : PM := pI p2 2 1 8 v1
    (x1, p3))
  else (
    ((cl 0), p))
noncomputable def v2_give (p : PM) (v1 : Int32) (v2 : Int64) : Int64 × PM := bv2_give v14_min_f86c9 p v1 v2
noncomputable def bg2_give (F210 : PM → Int64 → Int64 → Int64) (G210 : PM → Int64 → Int64 → Prop) (p : PM) (v1 : Int32) (v2 : Int64) : Prop :=
  (G210 p (p.2.1 2 1 7) v2) ∧ (
  let x1 : Int64 := (F210 p (p.2.1 2 1 7) v2)
  if 0 < (lg_cmp x1 (cl 0)) then (
    let p2 : PM := pJ p 2 1 7 ((p.2.1 2 1 7) - x1)
    let p3 : PM := pI p2 2 1 8 v1
    True)
  else (
    True))
noncomputable def g2_give (p : PM) (v1 : Int32) (v2 : Int64) : Prop := bg2_give v14_min_f86c9 g14_min_f86c9 p v1 v2
def R40 : List Row := [(0, .aload_n 0, 1, 0, (0, 0, 0, 0, 0, 0)), (1, .getfield 163, 3, 0, (2, 7, 2, 1, 0, 0)), (4, .lload_n 2, 1, 0, (0, 0, 0, 0, 0, 0)), (5, .invokestatic 180, 3, 0, (0, 2, 0, 0, 0, 0)), (8, .lstore 4, 2, 0, (0, 0, 0, 0, 0, 0)), (10, .lload 4, 2, 0, (0, 0, 0, 0, 0, 0)), (12, .lconst 0, 1, 0, (0, 0, 0, 0, 0, 0)), (13, .lcmp, 1, 0, (0, 0, 0, 0, 0, 0)), (14, .ifCond .gt 5, 3, 0, (0, 0, 0, 0, 0, 0)), (17, .lconst 0, 1, 0, (0, 0, 0, 0, 0, 0)), (18, .lreturn, 1, 0, (0, 0, 0, 0, 0, 0)), (19, .aload_n 0, 1, 0, (0, 0, 0, 0, 0, 0)), (20, .dup, 1, 0, (0, 0, 0, 0, 0, 0)), (21, .getfield 163, 3, 0, (2, 7, 2, 1, 0, 0)), (24, .lload 4, 2, 0, (0, 0, 0, 0, 0, 0)), (26, .lsub, 1, 0, (0, 0, 0, 0, 0, 0)), (27, .putfield 163, 3, 0, (2, 7, 2, 1, 0, 0)), (30, .aload_n 0, 1, 0, (0, 0, 0, 0, 0, 0)), (31, .iload_n 1, 1, 0, (0, 0, 0, 0, 0, 0)), (32, .putfield 156, 3, 0, (2, 8, 0, 1, 0, 0)), (35, .lload 4, 2, 0, (0, 0, 0, 0, 0, 0)), (37, .lreturn, 1, 0, (0, 0, 0, 0, 0, 0))]
set_option maxRecDepth 100000 in
theorem rk40 : R40.all (rok 0 40 2 [(210, [1, 1])]) = true := by decide +kernel
set_option maxRecDepth 100000 in
theorem tab40 {F210 : PM → Int64 → Int64 → Int64} {G210 : PM → Int64 → Int64 → Prop} : TabOK 0 40 2 [CC210 F210 G210] R40 := tab_ok (K := K40) rfl rfl (fun h => d40 h) rk40 (by decide +kernel)
set_option maxRecDepth 100000 in
theorem pc40 : cutpc [] R40 = true := by decide +kernel
set_option maxRecDepth 100000 in
theorem r2_give (F210 : PM → Int64 → Int64 → Int64) (G210 : PM → Int64 → Int64 → Prop) (o210 : CalOK 0 (CC210 F210 G210)) : ∀ (p : PM) (v1 : Int32) (v2 : Int64), Gr 0 p → bg2_give F210 G210 p v1 v2 → ZJ 0 40 0 [zR 2 1, zI v1, zL v2, zJ, zJ, zJ] [] p (hwL (bv2_give F210 p v1 v2)) := by
  intro p v1 v2  hg H
  exact rwL (n := 3000) (q := 0) (la := [zR 2 1, zI v1, zL v2, zJ, zJ, zJ]) (sa := []) (ks := []) (gs := []) (fcons o210 (fnil)) tab40 pc40 trivial hg H
theorem t2_give : ∀ (p : PM) (v1 : Int32) (v2 : Int64), Gr 0 p → g2_give p v1 v2 → ZJ 0 40 0 [zR 2 1, zI v1, zL v2, zJ, zJ, zJ] [] p (hwL (v2_give p v1 v2)) := r2_give v14_min_f86c9 g14_min_f86c9 ok210
def CC40 (F : PM → Int32 → Int64 → Int64 × PM) (G : PM → Int32 → Int64 → Prop) : Cal := (40, [5, 0, 1], 2, false, fun as p => (zL (F p (ai as 1) (al as 2)).1, (F p (ai as 1) (al as 2)).2), fun as p => zsw (tc2 as [(102, 1), (0, 0), (1, 0)]) False (G p (ai as 1) (al as 2)))
set_option maxRecDepth 100000 in
theorem okr40 (F : PM → Int32 → Int64 → Int64 × PM) (G : PM → Int32 → Int64 → Prop) (h : ∀ (p : PM) (v1 : Int32) (v2 : Int64), Gr 0 p → G p v1 v2 → ZJ 0 40 0 [zR 2 1, zI v1, zL v2, zJ, zJ, zJ] [] p (hwL (F p v1 v2))) : CalOK 0 (CC40 F G) := cal_ok (m := 6) (by unfold mL; rw [mX_40]) (fun as p hg H => h p (ai as 1) (al as 2) hg H)
theorem ok40 : CalOK 0 (CC40 v2_give g2_give) := okr40 v2_give g2_give t2_give
noncomputable def bv2_sellUnits (F40 : PM → Int32 → Int64 → Int64 × PM) (F73 : PM → Int32 → Nat) (F104 : PM → Int32 → Nat) (F203 : PM → Int64 → Int64 → Int64) (F210 : PM → Int64 → Int64 → Int64) (p : PM) (v1 : Nat) : Int64 × PM :=
  let x1 : Int32 := (p.1 1 (F73 p (cn 1)) 3)
  if 0 < (lg_cmp (p.2.1 2 1 7) (cl 0)) then (
    if 0 < (p.1 9 v1 1) then (
      if 0 < x1 then (
        let x2 : Int64 := (-(F203 p (-(p.2.1 2 1 7)) (x1).toInt64))
        let x3 : Int32 := ((F210 p ((p.1 9 v1 1)).toInt64 x2)).toInt32
        let x4 : Int64 := ((x3).toInt64 * (x1).toInt64)
        let p5 : PM := pI p 9 v1 1 ((p.1 9 v1 1) - x3)
        let p6 : PM := pJ p5 0 (F104 p5 (cn 8)) 4 ((p5.2.1 0 (F104 p5 (cn 8)) 4) - x4)
        let r7 : Int64 × PM := F40 p6 (cn 2) x4
        ((x4 - r7.1), r7.2))
      else (
        ((cl 0), p)))
    else (
      ((cl 0), p)))
  else (
    ((cl 0), p))
noncomputable def v2_sellUnits (p : PM) (v1 : Nat) : Int64 × PM := bv2_sellUnits v2_give v6_bookAt v7_accountAt v14_floorDiv_f86c9 v14_min_f86c9 p v1
noncomputable def bg2_sellUnits (F40 : PM → Int32 → Int64 → Int64 × PM) (G40 : PM → Int32 → Int64 → Prop) (F73 : PM → Int32 → Nat) (G73 : PM → Int32 → Prop) (F104 : PM → Int32 → Nat) (G104 : PM → Int32 → Prop) (F203 : PM → Int64 → Int64 → Int64) (G203 : PM → Int64 → Int64 → Prop) (F210 : PM → Int64 → Int64 → Int64) (G210 : PM → Int64 → Int64 → Prop) (p : PM) (v1 : Nat) : Prop :=
  (G73 p (cn 1)) ∧ (
  (¬ (F73 p (cn 1)) = 0) ∧ (
  let x1 : Int32 := (p.1 1 (F73 p (cn 1)) 3)
  if 0 < (lg_cmp (p.2.1 2 1 7) (cl 0)) then (
    (¬ v1 = 0) ∧ (
    if 0 < (p.1 9 v1 1) then (
      if 0 < x1 then (
        (G203 p (-(p.2.1 2 1 7)) (x1).toInt64) ∧ (
        let x2 : Int64 := (-(F203 p (-(p.2.1 2 1 7)) (x1).toInt64))
        (¬ v1 = 0) ∧ (
        (G210 p ((p.1 9 v1 1)).toInt64 x2) ∧ (
        let x3 : Int32 := ((F210 p ((p.1 9 v1 1)).toInt64 x2)).toInt32
        let x4 : Int64 := ((x3).toInt64 * (x1).toInt64)
        (¬ v1 = 0) ∧ (
        (¬ v1 = 0) ∧ (
        let p5 : PM := pI p 9 v1 1 ((p.1 9 v1 1) - x3)
        (G104 p5 (cn 8)) ∧ (
        (¬ (F104 p5 (cn 8)) = 0) ∧ (
        (¬ (F104 p5 (cn 8)) = 0) ∧ (
        let p6 : PM := pJ p5 0 (F104 p5 (cn 8)) 4 ((p5.2.1 0 (F104 p5 (cn 8)) 4) - x4)
        (G40 p6 (cn 2) x4) ∧ (
        let r7 : Int64 × PM := F40 p6 (cn 2) x4
        True))))))))))
      else (
        True))
    else (
      True)))
  else (
    True)))
noncomputable def g2_sellUnits (p : PM) (v1 : Nat) : Prop := bg2_sellUnits v2_give g2_give v6_bookAt g6_bookAt v7_accountAt g7_accountAt v14_floorDiv_f86c9 g14_floorDiv_f86c9 v14_min_f86c9 g14_min_f86c9 p v1
def R41 : List Row := [(0, .aload_n 0, 1, 0, (0, 0, 0, 0, 0, 0)), (1, .getfield 22, 3, 0, (2, 0, 9, 2, 1, 0)), (4, .iconst 1, 1, 0, (0, 0, 0, 0, 0, 1)), (5, .invokevirtual 107, 3, 0, (0, 2, 0, 0, 1, 0)), (8, .getfield 113, 3, 0, (1, 3, 0, 0, 0, 0)), (11, .istore_n 2, 1, 0, (0, 0, 0, 0, 0, 0)), (12, .aload_n 0, 1, 0, (0, 0, 0, 0, 0, 0)), (13, .getfield 163, 3, 0, (2, 7, 2, 1, 0, 0)), (16, .lconst 0, 1, 0, (0, 0, 0, 0, 0, 0)), (17, .lcmp, 1, 0, (0, 0, 0, 0, 0, 0)), (18, .ifCond .le 14, 3, 0, (0, 0, 0, 0, 0, 0)), (21, .aload_n 1, 1, 0, (0, 0, 0, 0, 0, 0)), (22, .getfield 55, 3, 0, (9, 1, 0, 0, 0, 0)), (25, .ifCond .le 7, 3, 0, (0, 0, 0, 0, 0, 0)), (28, .iload_n 2, 1, 0, (0, 0, 0, 0, 0, 0)), (29, .ifCond .gt 5, 3, 0, (0, 0, 0, 0, 0, 0)), (32, .lconst 0, 1, 0, (0, 0, 0, 0, 0, 0)), (33, .lreturn, 1, 0, (0, 0, 0, 0, 0, 0)), (34, .aload_n 0, 1, 0, (0, 0, 0, 0, 0, 0)), (35, .getfield 163, 3, 0, (2, 7, 2, 1, 0, 0)), (38, .lneg, 1, 0, (0, 0, 0, 0, 0, 0)), (39, .iload_n 2, 1, 0, (0, 0, 0, 0, 0, 0)), (40, .i2l, 1, 0, (0, 0, 0, 0, 0, 0)), (41, .invokestatic 133, 3, 0, (1, 2, 0, 0, 0, 0)), (44, .lneg, 1, 0, (0, 0, 0, 0, 0, 0)), (45, .lstore_n 3, 1, 0, (0, 0, 0, 0, 0, 0)), (46, .aload_n 1, 1, 0, (0, 0, 0, 0, 0, 0)), (47, .getfield 55, 3, 0, (9, 1, 0, 0, 0, 0)), (50, .i2l, 1, 0, (0, 0, 0, 0, 0, 0)), (51, .lload_n 3, 1, 0, (0, 0, 0, 0, 0, 0)), (52, .invokestatic 180, 3, 0, (2, 2, 0, 0, 0, 0)), (55, .l2i, 1, 0, (0, 0, 0, 0, 0, 0)), (56, .istore 5, 2, 0, (0, 0, 0, 0, 0, 0)), (58, .iload 5, 2, 0, (0, 0, 0, 0, 0, 0)), (60, .i2l, 1, 0, (0, 0, 0, 0, 0, 0)), (61, .iload_n 2, 1, 0, (0, 0, 0, 0, 0, 0)), (62, .i2l, 1, 0, (0, 0, 0, 0, 0, 0)), (63, .lmul, 1, 0, (0, 0, 0, 0, 0, 0)), (64, .lstore 6, 2, 0, (0, 0, 0, 0, 0, 0)), (66, .aload_n 1, 1, 0, (0, 0, 0, 0, 0, 0)), (67, .dup, 1, 0, (0, 0, 0, 0, 0, 0)), (68, .getfield 55, 3, 0, (9, 1, 0, 0, 0, 0)), (71, .iload 5, 2, 0, (0, 0, 0, 0, 0, 0)), (73, .isub, 1, 0, (0, 0, 0, 0, 0, 0)), (74, .putfield 55, 3, 0, (9, 1, 0, 0, 0, 0)), (77, .aload_n 0, 1, 0, (0, 0, 0, 0, 0, 0)), (78, .getfield 26, 3, 0, (2, 1, 10, 2, 1, 0)), (81, .bipush 8, 2, 0, (0, 0, 0, 0, 0, 8)), (83, .invokevirtual 45, 3, 0, (3, 2, 0, 0, 1, 0)), (86, .dup, 1, 0, (0, 0, 0, 0, 0, 0)), (87, .getfield 121, 3, 0, (0, 4, 2, 0, 0, 0)), (90, .lload 6, 2, 0, (0, 0, 0, 0, 0, 0)), (92, .lsub, 1, 0, (0, 0, 0, 0, 0, 0)), (93, .putfield 121, 3, 0, (0, 4, 2, 0, 0, 0)), (96, .lload 6, 2, 0, (0, 0, 0, 0, 0, 0)), (98, .aload_n 0, 1, 0, (0, 0, 0, 0, 0, 0)), (99, .iconst 2, 1, 0, (0, 0, 0, 0, 0, 2)), (100, .lload 6, 2, 0, (0, 0, 0, 0, 0, 0)), (102, .invokevirtual 169, 3, 0, (4, 3, 0, 0, 1, 0)), (105, .lsub, 1, 0, (0, 0, 0, 0, 0, 0)), (106, .lreturn, 1, 0, (0, 0, 0, 0, 0, 0))]
set_option maxRecDepth 100000 in
theorem rk41 : R41.all (rok 0 41 2 [(73, [9, 0]), (203, [1, 1]), (210, [1, 1]), (104, [10, 0]), (40, [5, 0, 1])]) = true := by decide +kernel
set_option maxRecDepth 100000 in
theorem tab41 {F73 : PM → Int32 → Nat} {G73 : PM → Int32 → Prop} {F203 : PM → Int64 → Int64 → Int64} {G203 : PM → Int64 → Int64 → Prop} {F210 : PM → Int64 → Int64 → Int64} {G210 : PM → Int64 → Int64 → Prop} {F104 : PM → Int32 → Nat} {G104 : PM → Int32 → Prop} {F40 : PM → Int32 → Int64 → Int64 × PM} {G40 : PM → Int32 → Int64 → Prop} : TabOK 0 41 2 [CC73 F73 G73, CC203 F203 G203, CC210 F210 G210, CC104 F104 G104, CC40 F40 G40] R41 := tab_ok (K := K41) rfl rfl (fun h => d41 h) rk41 (by decide +kernel)
set_option maxRecDepth 100000 in
theorem pc41 : cutpc [] R41 = true := by decide +kernel
set_option maxRecDepth 100000 in
theorem r2_sellUnits (F73 : PM → Int32 → Nat) (G73 : PM → Int32 → Prop) (o73 : CalOK 0 (CC73 F73 G73)) (F203 : PM → Int64 → Int64 → Int64) (G203 : PM → Int64 → Int64 → Prop) (o203 : CalOK 0 (CC203 F203 G203)) (F210 : PM → Int64 → Int64 → Int64) (G210 : PM → Int64 → Int64 → Prop) (o210 : CalOK 0 (CC210 F210 G210)) (F104 : PM → Int32 → Nat) (G104 : PM → Int32 → Prop) (o104 : CalOK 0 (CC104 F104 G104)) (F40 : PM → Int32 → Int64 → Int64 × PM) (G40 : PM → Int32 → Int64 → Prop) (o40 : CalOK 0 (CC40 F40 G40)) : ∀ (p : PM) (v1 : Nat), Gr 0 p → bg2_sellUnits F40 G40 F73 G73 F104 G104 F203 G203 F210 G210 p v1 → ZJ 0 41 0 [zR 2 1, zR 9 v1, zJ, zJ, zJ, zJ, zJ, zJ] [] p (hwL (bv2_sellUnits F40 F73 F104 F203 F210 p v1)) := by
  intro p v1  hg H
  exact rwL (n := 3000) (q := 0) (la := [zR 2 1, zR 9 v1, zJ, zJ, zJ, zJ, zJ, zJ]) (sa := []) (ks := []) (gs := []) (fcons o73 (fcons o203 (fcons o210 (fcons o104 (fcons o40 (fnil)))))) tab41 pc41 trivial hg H
theorem t2_sellUnits : ∀ (p : PM) (v1 : Nat), Gr 0 p → g2_sellUnits p v1 → ZJ 0 41 0 [zR 2 1, zR 9 v1, zJ, zJ, zJ, zJ, zJ, zJ] [] p (hwL (v2_sellUnits p v1)) := r2_sellUnits v6_bookAt g6_bookAt ok73 v14_floorDiv_f86c9 g14_floorDiv_f86c9 ok203 v14_min_f86c9 g14_min_f86c9 ok210 v7_accountAt g7_accountAt ok104 v2_give g2_give ok40
def CC41 (F : PM → Nat → Int64 × PM) (G : PM → Nat → Prop) : Cal := (41, [5, 12], 2, false, fun as p => (zL (F p (ar as 1)).1, (F p (ar as 1)).2), fun as p => zsw (tc2 as [(102, 1), (13, 0)]) False (G p (ar as 1)))
set_option maxRecDepth 100000 in
theorem okr41 (F : PM → Nat → Int64 × PM) (G : PM → Nat → Prop) (h : ∀ (p : PM) (v1 : Nat), Gr 0 p → G p v1 → ZJ 0 41 0 [zR 2 1, zR 9 v1, zJ, zJ, zJ, zJ, zJ, zJ] [] p (hwL (F p v1))) : CalOK 0 (CC41 F G) := cal_ok (m := 8) (by unfold mL; rw [mX_41]) (fun as p hg H => h p (ar as 1) hg H)
theorem ok41 : CalOK 0 (CC41 v2_sellUnits g2_sellUnits) := okr41 v2_sellUnits g2_sellUnits t2_sellUnits
noncomputable def bv2_givesIn_34 (p : PM) (v1 : Int32) : Int32 :=
  if v1 = (cn 7) then (
    (cn 1))
  else (
    if v1 = (cn 5) then (
      if (cn 1) = (cn 1) then (
        (cn 1))
      else (
        (cn 0)))
    else (
      if (cn 1) = (cn 0) then (
        (cn 1))
      else (
        (cn 0))))
noncomputable def v2_givesIn_34 (p : PM) (v1 : Int32) : Int32 := bv2_givesIn_34 p v1
noncomputable def bg2_givesIn_34 (p : PM) (v1 : Int32) : Prop :=
  if v1 = (cn 7) then (
    True)
  else (
    if v1 = (cn 5) then (
      if (cn 1) = (cn 1) then (
        True)
      else (
        True))
    else (
      if (cn 1) = (cn 0) then (
        True)
      else (
        True)))
noncomputable def g2_givesIn_34 (p : PM) (v1 : Int32) : Prop := bg2_givesIn_34 p v1
noncomputable def bv2_givesIn (p : PM) (F18 : PM → Int32 → Nat) (kv34 : Int32 → Int32) (v1 : Int32) (v2 : Nat) (v3 : Int32) : Int32 :=
  if (p.1 9 v2 3) = 0 then (
    if (p.1 9 v2 4) = 0 then (
      kv34 v1)
    else (
      if (cn 100) < ((p.1 9 (F18 p v3) 5) - (p.1 9 v2 5)) then (
        kv34 v1)
      else (
        if v1 = (cn 7) then (
          (cn 1))
        else (
          if v1 = (cn 5) then (
            if (cn 0) = (cn 1) then (
              (cn 1))
            else (
              (cn 0)))
          else (
            if (cn 0) = (cn 0) then (
              (cn 1))
            else (
              (cn 0)))))))
  else (
    (cn 0))
noncomputable def v2_givesIn (p : PM) (v1 : Int32) (v2 : Nat) (v3 : Int32) : Int32 := bv2_givesIn p v2_memberAt (v2_givesIn_34 p) v1 v2 v3
noncomputable def bg2_givesIn (p : PM) (F18 : PM → Int32 → Nat) (G18 : PM → Int32 → Prop) (kg34 : Int32 → Prop) (v1 : Int32) (v2 : Nat) (v3 : Int32) : Prop :=
  (¬ v2 = 0) ∧ (
  if (p.1 9 v2 3) = 0 then (
    (¬ v2 = 0) ∧ (
    if (p.1 9 v2 4) = 0 then (
      kg34 v1)
    else (
      (G18 p v3) ∧ (
      (¬ (F18 p v3) = 0) ∧ (
      (¬ v2 = 0) ∧ (
      if (cn 100) < ((p.1 9 (F18 p v3) 5) - (p.1 9 v2 5)) then (
        kg34 v1)
      else (
        if v1 = (cn 7) then (
          True)
        else (
          if v1 = (cn 5) then (
            if (cn 0) = (cn 1) then (
              True)
            else (
              True))
          else (
            if (cn 0) = (cn 0) then (
              True)
            else (
              True))))))))))
  else (
    True))
noncomputable def g2_givesIn (p : PM) (v1 : Int32) (v2 : Nat) (v3 : Int32) : Prop := bg2_givesIn p v2_memberAt g2_memberAt (g2_givesIn_34 p) v1 v2 v3
def R42 : List Row := [(0, .aload_n 2, 1, 0, (0, 0, 0, 0, 0, 0)), (1, .getfield 76, 3, 0, (9, 3, 1, 0, 0, 0)), (4, .ifCond .eq 5, 3, 0, (0, 0, 0, 0, 0, 0)), (7, .iconst 0, 1, 0, (0, 0, 0, 0, 0, 0)), (8, .ireturn, 1, 0, (1, 0, 0, 0, 0, 0)), (9, .aload_n 2, 1, 0, (0, 0, 0, 0, 0, 0)), (10, .getfield 136, 3, 0, (9, 4, 1, 0, 0, 0)), (13, .ifCond .eq 21, 3, 0, (0, 0, 0, 0, 0, 0)), (16, .aload_n 0, 1, 0, (0, 0, 0, 0, 0, 0)), (17, .iload_n 3, 1, 0, (0, 0, 0, 0, 0, 0)), (18, .invokevirtual 51, 3, 0, (0, 2, 0, 0, 1, 0)), (21, .getfield 139, 3, 0, (9, 5, 0, 0, 0, 0)), (24, .aload_n 2, 1, 0, (0, 0, 0, 0, 0, 0)), (25, .getfield 139, 3, 0, (9, 5, 0, 0, 0, 0)), (28, .isub, 1, 0, (0, 0, 0, 0, 0, 0)), (29, .bipush 100, 2, 0, (0, 0, 0, 0, 0, 100)), (31, .if_icmp .le 7, 3, 0, (0, 0, 0, 0, 0, 0)), (34, .iconst 1, 1, 1, (0, 0, 0, 0, 0, 1)), (35, .goto 4, 3, 0, (0, 0, 0, 0, 0, 0)), (38, .iconst 0, 1, 0, (0, 0, 0, 0, 0, 0)), (39, .istore 4, 2, 0, (0, 0, 0, 0, 0, 0)), (41, .iload_n 1, 1, 0, (0, 0, 0, 0, 0, 0)), (42, .bipush 7, 2, 0, (0, 0, 0, 0, 0, 7)), (44, .if_icmp .eq 18, 3, 0, (0, 0, 0, 0, 0, 0)), (47, .iload 4, 2, 0, (0, 0, 0, 0, 0, 0)), (49, .iload_n 1, 1, 0, (0, 0, 0, 0, 0, 0)), (50, .iconst 5, 1, 0, (0, 0, 0, 0, 0, 5)), (51, .if_icmp .ne 7, 3, 0, (0, 0, 0, 0, 0, 0)), (54, .iconst 1, 1, 0, (0, 0, 0, 0, 0, 1)), (55, .goto 4, 3, 0, (0, 0, 0, 0, 0, 0)), (58, .iconst 0, 1, 0, (0, 0, 0, 0, 0, 0)), (59, .if_icmp .ne 7, 3, 0, (0, 0, 0, 0, 0, 0)), (62, .iconst 1, 1, 0, (0, 0, 0, 0, 0, 1)), (63, .goto 4, 3, 0, (0, 0, 0, 0, 0, 0)), (66, .iconst 0, 1, 0, (0, 0, 0, 0, 0, 0)), (67, .ireturn, 1, 0, (1, 0, 0, 0, 0, 0))]
set_option maxRecDepth 100000 in
theorem rk42 : R42.all (rok 0 42 1 [(18, [5, 0])]) = true := by decide +kernel
set_option maxRecDepth 100000 in
theorem tab42 {F18 : PM → Int32 → Nat} {G18 : PM → Int32 → Prop} : TabOK 0 42 1 [CC18 F18 G18] R42 := tab_ok (K := K42) rfl rfl (fun h => d42 h) rk42 (by decide +kernel)
set_option maxRecDepth 100000 in
theorem pc42 : cutpc [34] R42 = true := by decide +kernel
set_option maxRecDepth 100000 in
theorem r2_givesIn_34 (p : PM) (hg : Gr 0 p) (F18 : PM → Int32 → Nat) (G18 : PM → Int32 → Prop) (o18 : CalOK 0 (CC18 F18 G18)) : ∀ (v1 : Int32) (d0 d2 d3 d4 : ZV), bg2_givesIn_34 p v1 → ZJ 0 42 34 [d0, zI v1, d2, d3, d4] [] p (hoI p (bv2_givesIn_34 p v1)) := by
  intro v1 d0 d2 d3 d4 H
  exact roI (n := 3000) (q := 34) (la := [d0, zI v1, d2, d3, d4]) (sa := []) (ks := [fun _ _ _ => 0]) (gs := [fun _ _ _ => False]) (fcons o18 (fnil)) tab42 pc42 ⟨fun _ _ _ _ H => H.elim, trivial⟩ hg H
theorem t2_givesIn_34 (p : PM) (hg : Gr 0 p) : ∀ (v1 : Int32) (d0 d2 d3 d4 : ZV), g2_givesIn_34 p v1 → ZJ 0 42 34 [d0, zI v1, d2, d3, d4] [] p (hoI p (v2_givesIn_34 p v1)) := r2_givesIn_34 p hg v2_memberAt g2_memberAt ok18
set_option maxRecDepth 100000 in
theorem r2_givesIn (p : PM) (hg : Gr 0 p) (F18 : PM → Int32 → Nat) (G18 : PM → Int32 → Prop) (o18 : CalOK 0 (CC18 F18 G18)) (kv34 : Int32 → Int32) (kg34 : Int32 → Prop) (hk34 : ∀ (v1 : Int32) (d0 d2 d3 d4 : ZV), kg34 v1 → ZJ 0 42 34 [d0, zI v1, d2, d3, d4] [] p (hoI p (kv34 v1))) : ∀ (v1 : Int32) (v2 : Nat) (v3 : Int32), bg2_givesIn p F18 G18 kg34 v1 v2 v3 → ZJ 0 42 0 [zR 2 1, zI v1, zR 9 v2, zI v3, zJ] [] p (hoI p (bv2_givesIn p F18 kv34 v1 v2 v3)) := by
  intro v1 v2 v3  H
  exact roI (n := 3000) (q := 0) (la := [zR 2 1, zI v1, zR 9 v2, zI v3, zJ]) (sa := []) (ks := [fun la sa _ => kv34 (ai la 1)]) (gs := [fun la sa _ => zsw (tc2 la [(2, 0), (0, 0), (2, 0), (2, 0), (2, 0)] && tc2 sa []) False (kg34 (ai la 1))]) (fcons o18 (fnil)) tab42 pc42 ⟨fun la sa s hg H => zcut H fun H => hk34 (ai la 1) (zld la 0) (zld la 2) (zld la 3) (zld la 4) H, trivial⟩ hg H
theorem t2_givesIn (p : PM) (hg : Gr 0 p) : ∀ (v1 : Int32) (v2 : Nat) (v3 : Int32), g2_givesIn p v1 v2 v3 → ZJ 0 42 0 [zR 2 1, zI v1, zR 9 v2, zI v3, zJ] [] p (hoI p (v2_givesIn p v1 v2 v3)) := r2_givesIn p hg v2_memberAt g2_memberAt ok18 (v2_givesIn_34 p) (g2_givesIn_34 p) (t2_givesIn_34 p hg)
def CC42 (F : PM → Int32 → Nat → Int32 → Int32) (G : PM → Int32 → Nat → Int32 → Prop) : Cal := (42, [5, 0, 12, 0], 1, true, fun as p => (zI (F p (ai as 1) (ar as 2) (ai as 3)), p), fun as p => zsw (tc2 as [(102, 1), (0, 0), (13, 0), (0, 0)]) False (G p (ai as 1) (ar as 2) (ai as 3)))
set_option maxRecDepth 100000 in
theorem okr42 (F : PM → Int32 → Nat → Int32 → Int32) (G : PM → Int32 → Nat → Int32 → Prop) (h : ∀ (p : PM) (v1 : Int32) (v2 : Nat) (v3 : Int32), Gr 0 p → G p v1 v2 v3 → ZJ 0 42 0 [zR 2 1, zI v1, zR 9 v2, zI v3, zJ] [] p (hoI p (F p v1 v2 v3))) : CalOK 0 (CC42 F G) := cal_ok (m := 5) (by unfold mL; rw [mX_42]) (fun as p hg H => h p (ai as 1) (ar as 2) (ai as 3) hg H)
theorem ok42 : CalOK 0 (CC42 v2_givesIn g2_givesIn) := okr42 v2_givesIn g2_givesIn (fun p v1 v2 v3 hg H => t2_givesIn p hg v1 v2 v3 H)
noncomputable def bv2_shareLoss_157 (kv130 : PM → Int64 → Int32 → PM) (kv157 : PM → Int64 → Int32 → Int32 → PM) (p : PM) (v6 : Int64) (v8 : Int32) (v11 : Int32) : PM :=
  if v11 < (cn 4) then (
    if 0 < (lg_cmp v6 (cl 0)) then (
      if (lg_cmp (p.2.1 9 ((v11).toNatClampNeg + 1) 8) (p.2.1 9 ((v11).toNatClampNeg + 1) 7)) < 0 then (
        let p1 : PM := pJ p 9 ((v11).toNatClampNeg + 1) 8 ((p.2.1 9 ((v11).toNatClampNeg + 1) 8) + (cl 1))
        kv157 p1 (v6 - (cl 1)) v8 (v11 + (cn 1)))
      else (
        kv157 p v6 v8 (v11 + (cn 1))))
    else (
      kv157 p v6 v8 (v11 + (cn 1))))
  else (
    kv130 p v6 (v8 + (cn 1)))
noncomputable def v2_shareLoss_157 (kv130 : PM → Int64 → Int32 → PM) (n : Nat) : PM → Int64 → Int32 → Int32 → PM := Nat.rec (motive := fun _ => PM → Int64 → Int32 → Int32 → PM) (fun p _ _ _ => p) (fun _ ih => bv2_shareLoss_157 kv130 ih) n
theorem ev2_shareLoss_157 (kv130 : PM → Int64 → Int32 → PM) (n : Nat) (p : PM) (v6 : Int64) (v8 : Int32) (v11 : Int32) : v2_shareLoss_157 kv130 (n + 1) p v6 v8 v11 = bv2_shareLoss_157 kv130 (v2_shareLoss_157 kv130 n) p v6 v8 v11 := rfl
noncomputable def bg2_shareLoss_157 (kg130 : PM → Int64 → Int32 → Prop) (kg157 : PM → Int64 → Int32 → Int32 → Prop) (p : PM) (v6 : Int64) (v8 : Int32) (v11 : Int32) : Prop :=
  if v11 < (cn 4) then (
    (inb v11 4) ∧ (
    if 0 < (lg_cmp v6 (cl 0)) then (
      if (lg_cmp (p.2.1 9 ((v11).toNatClampNeg + 1) 8) (p.2.1 9 ((v11).toNatClampNeg + 1) 7)) < 0 then (
        let p1 : PM := pJ p 9 ((v11).toNatClampNeg + 1) 8 ((p.2.1 9 ((v11).toNatClampNeg + 1) 8) + (cl 1))
        kg157 p1 (v6 - (cl 1)) v8 (v11 + (cn 1)))
      else (
        kg157 p v6 v8 (v11 + (cn 1))))
    else (
      kg157 p v6 v8 (v11 + (cn 1)))))
  else (
    kg130 p v6 (v8 + (cn 1)))
noncomputable def g2_shareLoss_157 (kg130 : PM → Int64 → Int32 → Prop) (n : Nat) : PM → Int64 → Int32 → Int32 → Prop := Nat.rec (motive := fun _ => PM → Int64 → Int32 → Int32 → Prop) (fun _ _ _ _ => False) (fun _ ih => bg2_shareLoss_157 kg130 ih) n
theorem eg2_shareLoss_157 (kg130 : PM → Int64 → Int32 → Prop) (n : Nat) (p : PM) (v6 : Int64) (v8 : Int32) (v11 : Int32) : g2_shareLoss_157 kg130 (n + 1) p v6 v8 v11 = bg2_shareLoss_157 kg130 (g2_shareLoss_157 kg130 n) p v6 v8 v11 := rfl
noncomputable def bv2_shareLoss_130 (kv157 : PM → Int64 → Int32 → Int32 → PM) (p : PM) (v6 : Int64) (v8 : Int32) : PM :=
  if v8 < (cn 4) then (
    if 0 < (lg_cmp v6 (cl 0)) then (
      kv157 p v6 v8 (cn 0))
    else (
      p))
  else (
    p)
noncomputable def v2_shareLoss_130 (n : Nat) : PM → Int64 → Int32 → PM := Nat.rec (motive := fun _ => PM → Int64 → Int32 → PM) (fun p _ _ => p) (fun _ ih => bv2_shareLoss_130 (v2_shareLoss_157 ih FU)) n
theorem ev2_shareLoss_130 (n : Nat) (p : PM) (v6 : Int64) (v8 : Int32) : v2_shareLoss_130 (n + 1) p v6 v8 = bv2_shareLoss_130 (v2_shareLoss_157 (v2_shareLoss_130 n) FU) p v6 v8 := rfl
noncomputable def bg2_shareLoss_130 (kg157 : PM → Int64 → Int32 → Int32 → Prop) (p : PM) (v6 : Int64) (v8 : Int32) : Prop :=
  if v8 < (cn 4) then (
    if 0 < (lg_cmp v6 (cl 0)) then (
      kg157 p v6 v8 (cn 0))
    else (
      True))
  else (
    True)
noncomputable def g2_shareLoss_130 (n : Nat) : PM → Int64 → Int32 → Prop := Nat.rec (motive := fun _ => PM → Int64 → Int32 → Prop) (fun _ _ _ => False) (fun _ ih => bg2_shareLoss_130 (g2_shareLoss_157 ih FU)) n
theorem eg2_shareLoss_130 (n : Nat) (p : PM) (v6 : Int64) (v8 : Int32) : g2_shareLoss_130 (n + 1) p v6 v8 = bg2_shareLoss_130 (g2_shareLoss_157 (g2_shareLoss_130 n) FU) p v6 v8 := rfl
noncomputable def bv2_shareLoss_76 (kv76 : PM → Int64 → Int64 → Int64 → Int32 → PM) (kv130 : PM → Int64 → Int32 → PM) (p : PM) (v2 : Int64) (v4 : Int64) (v6 : Int64) (v10 : Int32) : PM :=
  if v10 < (cn 4) then (
    if 0 < (lg_cmp v2 (cl 0)) then (
      let p1 : PM := pJ p 9 ((v10).toNatClampNeg + 1) 8 ((v4 * (p.2.1 9 ((v10).toNatClampNeg + 1) 7)) / v2)
      let x2 : Int64 := (v6 - (p1.2.1 9 ((v10).toNatClampNeg + 1) 8))
      kv76 p1 v2 v4 x2 (v10 + (cn 1)))
    else (
      kv76 p v2 v4 v6 (v10 + (cn 1))))
  else (
    kv130 p v6 (cn 0))
noncomputable def v2_shareLoss_76 (n : Nat) : PM → Int64 → Int64 → Int64 → Int32 → PM := Nat.rec (motive := fun _ => PM → Int64 → Int64 → Int64 → Int32 → PM) (fun p _ _ _ _ => p) (fun _ ih => bv2_shareLoss_76 ih (v2_shareLoss_130 FU)) n
theorem ev2_shareLoss_76 (n : Nat) (p : PM) (v2 : Int64) (v4 : Int64) (v6 : Int64) (v10 : Int32) : v2_shareLoss_76 (n + 1) p v2 v4 v6 v10 = bv2_shareLoss_76 (v2_shareLoss_76 n) (v2_shareLoss_130 FU) p v2 v4 v6 v10 := rfl
noncomputable def bg2_shareLoss_76 (kg76 : PM → Int64 → Int64 → Int64 → Int32 → Prop) (kg130 : PM → Int64 → Int32 → Prop) (p : PM) (v2 : Int64) (v4 : Int64) (v6 : Int64) (v10 : Int32) : Prop :=
  if v10 < (cn 4) then (
    (inb v10 4) ∧ (
    if 0 < (lg_cmp v2 (cl 0)) then (
      (¬ v2 = 0) ∧ (
      let p1 : PM := pJ p 9 ((v10).toNatClampNeg + 1) 8 ((v4 * (p.2.1 9 ((v10).toNatClampNeg + 1) 7)) / v2)
      let x2 : Int64 := (v6 - (p1.2.1 9 ((v10).toNatClampNeg + 1) 8))
      kg76 p1 v2 v4 x2 (v10 + (cn 1))))
    else (
      kg76 p v2 v4 v6 (v10 + (cn 1)))))
  else (
    kg130 p v6 (cn 0))
noncomputable def g2_shareLoss_76 (n : Nat) : PM → Int64 → Int64 → Int64 → Int32 → Prop := Nat.rec (motive := fun _ => PM → Int64 → Int64 → Int64 → Int32 → Prop) (fun _ _ _ _ _ => False) (fun _ ih => bg2_shareLoss_76 ih (g2_shareLoss_130 FU)) n
theorem eg2_shareLoss_76 (n : Nat) (p : PM) (v2 : Int64) (v4 : Int64) (v6 : Int64) (v10 : Int32) : g2_shareLoss_76 (n + 1) p v2 v4 v6 v10 = bg2_shareLoss_76 (g2_shareLoss_76 n) (g2_shareLoss_130 FU) p v2 v4 v6 v10 := rfl
noncomputable def bv2_shareLoss_16 (F40 : PM → Int32 → Int64 → Int64 × PM) (kv16 : PM → Int32 → Int64 → Int32 → PM) (kv76 : PM → Int64 → Int64 → Int64 → Int32 → PM) (p : PM) (v1 : Int32) (v2 : Int64) (v6 : Int32) : PM :=
  if v6 < (cn 4) then (
    let x2 : Int64 := (v2 + (p.2.1 9 ((v6).toNatClampNeg + 1) 7))
    let p3 : PM := pJ p 9 ((v6).toNatClampNeg + 1) 8 (cl 0)
    kv16 p3 v1 x2 (v6 + (cn 1)))
  else (
    let r1 : Int64 × PM := F40 p v1 v2
    kv76 r1.2 v2 r1.1 r1.1 (cn 0))
noncomputable def v2_shareLoss_16 (n : Nat) : PM → Int32 → Int64 → Int32 → PM := Nat.rec (motive := fun _ => PM → Int32 → Int64 → Int32 → PM) (fun p _ _ _ => p) (fun _ ih => bv2_shareLoss_16 v2_give ih (v2_shareLoss_76 FU)) n
theorem ev2_shareLoss_16 (n : Nat) (p : PM) (v1 : Int32) (v2 : Int64) (v6 : Int32) : v2_shareLoss_16 (n + 1) p v1 v2 v6 = bv2_shareLoss_16 v2_give (v2_shareLoss_16 n) (v2_shareLoss_76 FU) p v1 v2 v6 := rfl
noncomputable def bg2_shareLoss_16 (F40 : PM → Int32 → Int64 → Int64 × PM) (G40 : PM → Int32 → Int64 → Prop) (kg16 : PM → Int32 → Int64 → Int32 → Prop) (kg76 : PM → Int64 → Int64 → Int64 → Int32 → Prop) (p : PM) (v1 : Int32) (v2 : Int64) (v6 : Int32) : Prop :=
  if v6 < (cn 4) then (
    (inb v6 4) ∧ (
    let x2 : Int64 := (v2 + (p.2.1 9 ((v6).toNatClampNeg + 1) 7))
    let p3 : PM := pJ p 9 ((v6).toNatClampNeg + 1) 8 (cl 0)
    kg16 p3 v1 x2 (v6 + (cn 1))))
  else (
    (G40 p v1 v2) ∧ (
    let r1 : Int64 × PM := F40 p v1 v2
    kg76 r1.2 v2 r1.1 r1.1 (cn 0)))
noncomputable def g2_shareLoss_16 (n : Nat) : PM → Int32 → Int64 → Int32 → Prop := Nat.rec (motive := fun _ => PM → Int32 → Int64 → Int32 → Prop) (fun _ _ _ _ => False) (fun _ ih => bg2_shareLoss_16 v2_give g2_give ih (g2_shareLoss_76 FU)) n
theorem eg2_shareLoss_16 (n : Nat) (p : PM) (v1 : Int32) (v2 : Int64) (v6 : Int32) : g2_shareLoss_16 (n + 1) p v1 v2 v6 = bg2_shareLoss_16 v2_give g2_give (g2_shareLoss_16 n) (g2_shareLoss_76 FU) p v1 v2 v6 := rfl
noncomputable def bv2_shareLoss (kv16 : PM → Int32 → Int64 → Int32 → PM) (p : PM) (v1 : Int32) : PM :=
  kv16 p v1 (cl 0) (cn 0)
noncomputable def v2_shareLoss (p : PM) (v1 : Int32) : PM := bv2_shareLoss (v2_shareLoss_16 FU) p v1
noncomputable def bg2_shareLoss (kg16 : PM → Int32 → Int64 → Int32 → Prop) (p : PM) (v1 : Int32) : Prop :=
  kg16 p v1 (cl 0) (cn 0)
noncomputable def g2_shareLoss (p : PM) (v1 : Int32) : Prop := bg2_shareLoss (g2_shareLoss_16 FU) p v1
def R44 : List Row := [(0, .lconst 0, 1, 0, (0, 0, 0, 0, 0, 0)), (1, .lstore_n 2, 1, 0, (0, 0, 0, 0, 0, 0)), (2, .aload_n 0, 1, 0, (0, 0, 0, 0, 0, 0)), (3, .getfield 11, 3, 0, (2, 2, 22, 2, 1, 0)), (6, .astore 4, 2, 0, (0, 0, 0, 0, 0, 0)), (8, .aload 4, 2, 0, (0, 0, 0, 0, 0, 0)), (10, .arraylength, 1, 0, (19, 4, 0, 0, 0, 4)), (11, .istore 5, 2, 0, (0, 0, 0, 0, 0, 0)), (13, .iconst 0, 1, 0, (0, 0, 0, 0, 0, 0)), (14, .istore 6, 2, 0, (0, 0, 0, 0, 0, 0)), (16, .iload 6, 2, 1, (0, 0, 0, 0, 0, 0)), (18, .iload 5, 2, 0, (0, 0, 0, 0, 0, 0)), (20, .if_icmp .ge 30, 3, 0, (0, 0, 0, 0, 0, 0)), (23, .aload 4, 2, 0, (0, 0, 0, 0, 0, 0)), (25, .iload 6, 2, 0, (0, 0, 0, 0, 0, 0)), (27, .aaload, 1, 0, (19, 4, 0, 1, 1, 0)), (28, .astore 7, 2, 0, (0, 0, 0, 0, 0, 0)), (30, .lload_n 2, 1, 0, (0, 0, 0, 0, 0, 0)), (31, .aload 7, 2, 0, (0, 0, 0, 0, 0, 0)), (33, .getfield 187, 3, 0, (9, 7, 2, 1, 0, 0)), (36, .ladd, 1, 0, (0, 0, 0, 0, 0, 0)), (37, .lstore_n 2, 1, 0, (0, 0, 0, 0, 0, 0)), (38, .aload 7, 2, 0, (0, 0, 0, 0, 0, 0)), (40, .lconst 0, 1, 0, (0, 0, 0, 0, 0, 0)), (41, .putfield 193, 3, 0, (9, 8, 2, 1, 0, 0)), (44, .iinc 6 1, 3, 0, (0, 0, 0, 0, 0, 1)), (47, .goto (-31), 3, 0, (0, 0, 0, 0, 0, 0)), (50, .aload_n 0, 1, 0, (0, 0, 0, 0, 0, 0)), (51, .iload_n 1, 1, 0, (0, 0, 0, 0, 0, 0)), (52, .lload_n 2, 1, 0, (0, 0, 0, 0, 0, 0)), (53, .invokevirtual 169, 3, 0, (0, 3, 0, 0, 1, 0)), (56, .lstore 4, 2, 0, (0, 0, 0, 0, 0, 0)), (58, .lload 4, 2, 0, (0, 0, 0, 0, 0, 0)), (60, .lstore 6, 2, 0, (0, 0, 0, 0, 0, 0)), (62, .aload_n 0, 1, 0, (0, 0, 0, 0, 0, 0)), (63, .getfield 11, 3, 0, (2, 2, 22, 2, 1, 0)), (66, .astore 8, 2, 0, (0, 0, 0, 0, 0, 0)), (68, .aload 8, 2, 0, (0, 0, 0, 0, 0, 0)), (70, .arraylength, 1, 0, (19, 4, 0, 0, 0, 4)), (71, .istore 9, 2, 0, (0, 0, 0, 0, 0, 0)), (73, .iconst 0, 1, 0, (0, 0, 0, 0, 0, 0)), (74, .istore 10, 2, 0, (0, 0, 0, 0, 0, 0)), (76, .iload 10, 2, 2, (0, 0, 0, 0, 0, 0)), (78, .iload 9, 2, 0, (0, 0, 0, 0, 0, 0)), (80, .if_icmp .ge 47, 3, 0, (0, 0, 0, 0, 0, 0)), (83, .aload 8, 2, 0, (0, 0, 0, 0, 0, 0)), (85, .iload 10, 2, 0, (0, 0, 0, 0, 0, 0)), (87, .aaload, 1, 0, (19, 4, 0, 1, 1, 0)), (88, .astore 11, 2, 0, (0, 0, 0, 0, 0, 0)), (90, .lload_n 2, 1, 0, (0, 0, 0, 0, 0, 0)), (91, .lconst 0, 1, 0, (0, 0, 0, 0, 0, 0)), (92, .lcmp, 1, 0, (0, 0, 0, 0, 0, 0)), (93, .ifCond .le 28, 3, 0, (0, 0, 0, 0, 0, 0)), (96, .aload 11, 2, 0, (0, 0, 0, 0, 0, 0)), (98, .lload 4, 2, 0, (0, 0, 0, 0, 0, 0)), (100, .aload 11, 2, 0, (0, 0, 0, 0, 0, 0)), (102, .getfield 187, 3, 0, (9, 7, 2, 1, 0, 0)), (105, .lmul, 1, 0, (0, 0, 0, 0, 0, 0)), (106, .lload_n 2, 1, 0, (0, 0, 0, 0, 0, 0)), (107, .ldiv, 1, 0, (0, 0, 0, 0, 0, 0)), (108, .putfield 193, 3, 0, (9, 8, 2, 1, 0, 0)), (111, .lload 6, 2, 0, (0, 0, 0, 0, 0, 0)), (113, .aload 11, 2, 0, (0, 0, 0, 0, 0, 0)), (115, .getfield 193, 3, 0, (9, 8, 2, 1, 0, 0)), (118, .lsub, 1, 0, (0, 0, 0, 0, 0, 0)), (119, .lstore 6, 2, 0, (0, 0, 0, 0, 0, 0)), (121, .iinc 10 1, 3, 0, (0, 0, 0, 0, 0, 1)), (124, .goto (-48), 3, 0, (0, 0, 0, 0, 0, 0)), (127, .iconst 0, 1, 0, (0, 0, 0, 0, 0, 0)), (128, .istore 8, 2, 0, (0, 0, 0, 0, 0, 0)), (130, .iload 8, 2, 3, (0, 0, 0, 0, 0, 0)), (132, .iconst 4, 1, 0, (0, 0, 0, 0, 0, 4)), (133, .if_icmp .ge 88, 3, 0, (0, 0, 0, 0, 0, 0)), (136, .lload 6, 2, 0, (0, 0, 0, 0, 0, 0)), (138, .lconst 0, 1, 0, (0, 0, 0, 0, 0, 0)), (139, .lcmp, 1, 0, (0, 0, 0, 0, 0, 0)), (140, .ifCond .le 81, 3, 0, (0, 0, 0, 0, 0, 0)), (143, .aload_n 0, 1, 0, (0, 0, 0, 0, 0, 0)), (144, .getfield 11, 3, 0, (2, 2, 22, 2, 1, 0)), (147, .astore 9, 2, 0, (0, 0, 0, 0, 0, 0)), (149, .aload 9, 2, 0, (0, 0, 0, 0, 0, 0)), (151, .arraylength, 1, 0, (19, 4, 0, 0, 0, 4)), (152, .istore 10, 2, 0, (0, 0, 0, 0, 0, 0)), (154, .iconst 0, 1, 0, (0, 0, 0, 0, 0, 0)), (155, .istore 11, 2, 0, (0, 0, 0, 0, 0, 0)), (157, .iload 11, 2, 4, (0, 0, 0, 0, 0, 0)), (159, .iload 10, 2, 0, (0, 0, 0, 0, 0, 0)), (161, .if_icmp .ge 54, 3, 0, (0, 0, 0, 0, 0, 0)), (164, .aload 9, 2, 0, (0, 0, 0, 0, 0, 0)), (166, .iload 11, 2, 0, (0, 0, 0, 0, 0, 0)), (168, .aaload, 1, 0, (19, 4, 0, 1, 1, 0)), (169, .astore 12, 2, 0, (0, 0, 0, 0, 0, 0)), (171, .lload 6, 2, 0, (0, 0, 0, 0, 0, 0)), (173, .lconst 0, 1, 0, (0, 0, 0, 0, 0, 0)), (174, .lcmp, 1, 0, (0, 0, 0, 0, 0, 0)), (175, .ifCond .le 34, 3, 0, (0, 0, 0, 0, 0, 0)), (178, .aload 12, 2, 0, (0, 0, 0, 0, 0, 0)), (180, .getfield 193, 3, 0, (9, 8, 2, 1, 0, 0)), (183, .aload 12, 2, 0, (0, 0, 0, 0, 0, 0)), (185, .getfield 187, 3, 0, (9, 7, 2, 1, 0, 0)), (188, .lcmp, 1, 0, (0, 0, 0, 0, 0, 0)), (189, .ifCond .ge 20, 3, 0, (0, 0, 0, 0, 0, 0)), (192, .aload 12, 2, 0, (0, 0, 0, 0, 0, 0)), (194, .dup, 1, 0, (0, 0, 0, 0, 0, 0)), (195, .getfield 193, 3, 0, (9, 8, 2, 1, 0, 0)), (198, .lconst 1, 1, 0, (0, 0, 0, 0, 0, 1)), (199, .ladd, 1, 0, (0, 0, 0, 0, 0, 0)), (200, .putfield 193, 3, 0, (9, 8, 2, 1, 0, 0)), (203, .lload 6, 2, 0, (0, 0, 0, 0, 0, 0)), (205, .lconst 1, 1, 0, (0, 0, 0, 0, 0, 1)), (206, .lsub, 1, 0, (0, 0, 0, 0, 0, 0)), (207, .lstore 6, 2, 0, (0, 0, 0, 0, 0, 0)), (209, .iinc 11 1, 3, 0, (0, 0, 0, 0, 0, 1)), (212, .goto (-55), 3, 0, (0, 0, 0, 0, 0, 0)), (215, .iinc 8 1, 3, 0, (0, 0, 0, 0, 0, 1)), (218, .goto (-88), 3, 0, (0, 0, 0, 0, 0, 0)), (221, .return_, 1, 0, (0, 0, 0, 0, 0, 0))]
set_option maxRecDepth 100000 in
theorem rk44 : R44.all (rok 0 44 0 [(40, [5, 0, 1])]) = true := by decide +kernel
set_option maxRecDepth 100000 in
theorem tab44 {F40 : PM → Int32 → Int64 → Int64 × PM} {G40 : PM → Int32 → Int64 → Prop} : TabOK 0 44 0 [CC40 F40 G40] R44 := tab_ok (K := K44) rfl rfl (fun h => d44 h) rk44 (by decide +kernel)
set_option maxRecDepth 100000 in
theorem pc44 : cutpc [16, 76, 130, 157] R44 = true := by decide +kernel
set_option maxRecDepth 100000 in
theorem r2_shareLoss_157 (F40 : PM → Int32 → Int64 → Int64 × PM) (G40 : PM → Int32 → Int64 → Prop) (o40 : CalOK 0 (CC40 F40 G40)) (kv130 : PM → Int64 → Int32 → PM) (kg130 : PM → Int64 → Int32 → Prop) (hk130 : ∀ (p : PM) (v6 : Int64) (v8 : Int32) (d1 d2 d3 d4 d5 d7 d9 d10 d11 d12 : ZV), Gr 0 p → kg130 p v6 v8 → ZJ 0 44 130 [zR 2 1, d1, d2, d3, d4, d5, zL v6, d7, zI v8, d9, d10, d11, d12] [] p (hwV (kv130 p v6 v8))) (kv157 : PM → Int64 → Int32 → Int32 → PM) (kg157 : PM → Int64 → Int32 → Int32 → Prop) (hk157 : ∀ (p : PM) (v6 : Int64) (v8 : Int32) (v11 : Int32) (d1 d2 d3 d4 d5 d7 d12 : ZV), Gr 0 p → kg157 p v6 v8 v11 → ZJ 0 44 157 [zR 2 1, d1, d2, d3, d4, d5, zL v6, d7, zI v8, zR 19 1, zC 4, zI v11, d12] [] p (hwV (kv157 p v6 v8 v11))) : ∀ (p : PM) (v6 : Int64) (v8 : Int32) (v11 : Int32) (d1 d2 d3 d4 d5 d7 d12 : ZV), Gr 0 p → bg2_shareLoss_157 kg130 kg157 p v6 v8 v11 → ZJ 0 44 157 [zR 2 1, d1, d2, d3, d4, d5, zL v6, d7, zI v8, zR 19 1, zC 4, zI v11, d12] [] p (hwV (bv2_shareLoss_157 kv130 kv157 p v6 v8 v11)) := by
  intro p v6 v8 v11 d1 d2 d3 d4 d5 d7 d12 hg H
  exact rwV (n := 3000) (q := 157) (la := [zR 2 1, d1, d2, d3, d4, d5, zL v6, d7, zI v8, zR 19 1, zC 4, zI v11, d12]) (sa := []) (ks := [fun _ _ s => s, fun _ _ s => s, fun la sa s => kv130 s (al la 6) (ai la 8), fun la sa s => kv157 s (al la 6) (ai la 8) (ai la 11)]) (gs := [fun _ _ _ => False, fun _ _ _ => False, fun la sa s => zsw (tc2 la [(102, 1), (2, 0), (2, 0), (2, 0), (2, 0), (2, 0), (1, 0), (2, 0), (0, 0), (2, 0), (2, 0), (2, 0), (2, 0)] && tc2 sa []) False (kg130 s (al la 6) (ai la 8)), fun la sa s => zsw (tc2 la [(102, 1), (2, 0), (2, 0), (2, 0), (2, 0), (2, 0), (1, 0), (2, 0), (0, 0), (119, 1), (3, 4), (0, 0), (2, 0)] && tc2 sa []) False (kg157 s (al la 6) (ai la 8) (ai la 11))]) (fcons o40 (fnil)) tab44 pc44 ⟨fun _ _ _ _ H => H.elim, fun _ _ _ _ H => H.elim, fun la sa s hg H => zcut H fun H => hk130 s (al la 6) (ai la 8) (zld la 1) (zld la 2) (zld la 3) (zld la 4) (zld la 5) (zld la 7) (zld la 9) (zld la 10) (zld la 11) (zld la 12) hg H, fun la sa s hg H => zcut H fun H => hk157 s (al la 6) (ai la 8) (ai la 11) (zld la 1) (zld la 2) (zld la 3) (zld la 4) (zld la 5) (zld la 7) (zld la 12) hg H, trivial⟩ hg H
theorem t2_shareLoss_157 (kv130 : PM → Int64 → Int32 → PM) (kg130 : PM → Int64 → Int32 → Prop) (hk130 : ∀ (p : PM) (v6 : Int64) (v8 : Int32) (d1 d2 d3 d4 d5 d7 d9 d10 d11 d12 : ZV), Gr 0 p → kg130 p v6 v8 → ZJ 0 44 130 [zR 2 1, d1, d2, d3, d4, d5, zL v6, d7, zI v8, d9, d10, d11, d12] [] p (hwV (kv130 p v6 v8))) : ∀ (n : Nat), ∀ (p : PM) (v6 : Int64) (v8 : Int32) (v11 : Int32) (d1 d2 d3 d4 d5 d7 d12 : ZV), Gr 0 p → g2_shareLoss_157 kg130 n p v6 v8 v11 → ZJ 0 44 157 [zR 2 1, d1, d2, d3, d4, d5, zL v6, d7, zI v8, zR 19 1, zC 4, zI v11, d12] [] p (hwV (v2_shareLoss_157 kv130 n p v6 v8 v11)) := by
  intro n
  induction n with
  | zero =>
    intro p v6 v8 v11 d1 d2 d3 d4 d5 d7 d12 hg H
    exact H.elim
  | succ n ih => exact r2_shareLoss_157 v2_give g2_give ok40 kv130 kg130 hk130 (v2_shareLoss_157 kv130 n) (g2_shareLoss_157 kg130 n) ih
set_option maxRecDepth 100000 in
theorem r2_shareLoss_130 (F40 : PM → Int32 → Int64 → Int64 × PM) (G40 : PM → Int32 → Int64 → Prop) (o40 : CalOK 0 (CC40 F40 G40)) (kv157 : PM → Int64 → Int32 → Int32 → PM) (kg157 : PM → Int64 → Int32 → Int32 → Prop) (hk157 : ∀ (p : PM) (v6 : Int64) (v8 : Int32) (v11 : Int32) (d1 d2 d3 d4 d5 d7 d12 : ZV), Gr 0 p → kg157 p v6 v8 v11 → ZJ 0 44 157 [zR 2 1, d1, d2, d3, d4, d5, zL v6, d7, zI v8, zR 19 1, zC 4, zI v11, d12] [] p (hwV (kv157 p v6 v8 v11))) : ∀ (p : PM) (v6 : Int64) (v8 : Int32) (d1 d2 d3 d4 d5 d7 d9 d10 d11 d12 : ZV), Gr 0 p → bg2_shareLoss_130 kg157 p v6 v8 → ZJ 0 44 130 [zR 2 1, d1, d2, d3, d4, d5, zL v6, d7, zI v8, d9, d10, d11, d12] [] p (hwV (bv2_shareLoss_130 kv157 p v6 v8)) := by
  intro p v6 v8 d1 d2 d3 d4 d5 d7 d9 d10 d11 d12 hg H
  exact rwV (n := 3000) (q := 130) (la := [zR 2 1, d1, d2, d3, d4, d5, zL v6, d7, zI v8, d9, d10, d11, d12]) (sa := []) (ks := [fun _ _ s => s, fun _ _ s => s, fun _ _ s => s, fun la sa s => kv157 s (al la 6) (ai la 8) (ai la 11)]) (gs := [fun _ _ _ => False, fun _ _ _ => False, fun _ _ _ => False, fun la sa s => zsw (tc2 la [(102, 1), (2, 0), (2, 0), (2, 0), (2, 0), (2, 0), (1, 0), (2, 0), (0, 0), (119, 1), (3, 4), (0, 0), (2, 0)] && tc2 sa []) False (kg157 s (al la 6) (ai la 8) (ai la 11))]) (fcons o40 (fnil)) tab44 pc44 ⟨fun _ _ _ _ H => H.elim, fun _ _ _ _ H => H.elim, fun _ _ _ _ H => H.elim, fun la sa s hg H => zcut H fun H => hk157 s (al la 6) (ai la 8) (ai la 11) (zld la 1) (zld la 2) (zld la 3) (zld la 4) (zld la 5) (zld la 7) (zld la 12) hg H, trivial⟩ hg H
theorem t2_shareLoss_130 : ∀ (n : Nat), ∀ (p : PM) (v6 : Int64) (v8 : Int32) (d1 d2 d3 d4 d5 d7 d9 d10 d11 d12 : ZV), Gr 0 p → g2_shareLoss_130 n p v6 v8 → ZJ 0 44 130 [zR 2 1, d1, d2, d3, d4, d5, zL v6, d7, zI v8, d9, d10, d11, d12] [] p (hwV (v2_shareLoss_130 n p v6 v8)) := by
  intro n
  induction n with
  | zero =>
    intro p v6 v8 d1 d2 d3 d4 d5 d7 d9 d10 d11 d12 hg H
    exact H.elim
  | succ n ih => exact r2_shareLoss_130 v2_give g2_give ok40 (v2_shareLoss_157 (v2_shareLoss_130 n) FU) (g2_shareLoss_157 (g2_shareLoss_130 n) FU) (t2_shareLoss_157 (v2_shareLoss_130 n) (g2_shareLoss_130 n) ih FU)
set_option maxRecDepth 100000 in
theorem r2_shareLoss_76 (F40 : PM → Int32 → Int64 → Int64 × PM) (G40 : PM → Int32 → Int64 → Prop) (o40 : CalOK 0 (CC40 F40 G40)) (kv76 : PM → Int64 → Int64 → Int64 → Int32 → PM) (kg76 : PM → Int64 → Int64 → Int64 → Int32 → Prop) (hk76 : ∀ (p : PM) (v2 : Int64) (v4 : Int64) (v6 : Int64) (v10 : Int32) (d1 d3 d5 d7 d11 d12 : ZV), Gr 0 p → kg76 p v2 v4 v6 v10 → ZJ 0 44 76 [zR 2 1, d1, zL v2, d3, zL v4, d5, zL v6, d7, zR 19 1, zC 4, zI v10, d11, d12] [] p (hwV (kv76 p v2 v4 v6 v10))) (kv130 : PM → Int64 → Int32 → PM) (kg130 : PM → Int64 → Int32 → Prop) (hk130 : ∀ (p : PM) (v6 : Int64) (v8 : Int32) (d1 d2 d3 d4 d5 d7 d9 d10 d11 d12 : ZV), Gr 0 p → kg130 p v6 v8 → ZJ 0 44 130 [zR 2 1, d1, d2, d3, d4, d5, zL v6, d7, zI v8, d9, d10, d11, d12] [] p (hwV (kv130 p v6 v8))) : ∀ (p : PM) (v2 : Int64) (v4 : Int64) (v6 : Int64) (v10 : Int32) (d1 d3 d5 d7 d11 d12 : ZV), Gr 0 p → bg2_shareLoss_76 kg76 kg130 p v2 v4 v6 v10 → ZJ 0 44 76 [zR 2 1, d1, zL v2, d3, zL v4, d5, zL v6, d7, zR 19 1, zC 4, zI v10, d11, d12] [] p (hwV (bv2_shareLoss_76 kv76 kv130 p v2 v4 v6 v10)) := by
  intro p v2 v4 v6 v10 d1 d3 d5 d7 d11 d12 hg H
  exact rwV (n := 3000) (q := 76) (la := [zR 2 1, d1, zL v2, d3, zL v4, d5, zL v6, d7, zR 19 1, zC 4, zI v10, d11, d12]) (sa := []) (ks := [fun _ _ s => s, fun la sa s => kv76 s (al la 2) (al la 4) (al la 6) (ai la 10), fun la sa s => kv130 s (al la 6) (ai la 8), fun _ _ s => s]) (gs := [fun _ _ _ => False, fun la sa s => zsw (tc2 la [(102, 1), (2, 0), (1, 0), (2, 0), (1, 0), (2, 0), (1, 0), (2, 0), (119, 1), (3, 4), (0, 0), (2, 0), (2, 0)] && tc2 sa []) False (kg76 s (al la 2) (al la 4) (al la 6) (ai la 10)), fun la sa s => zsw (tc2 la [(102, 1), (2, 0), (2, 0), (2, 0), (2, 0), (2, 0), (1, 0), (2, 0), (0, 0), (2, 0), (2, 0), (2, 0), (2, 0)] && tc2 sa []) False (kg130 s (al la 6) (ai la 8)), fun _ _ _ => False]) (fcons o40 (fnil)) tab44 pc44 ⟨fun _ _ _ _ H => H.elim, fun la sa s hg H => zcut H fun H => hk76 s (al la 2) (al la 4) (al la 6) (ai la 10) (zld la 1) (zld la 3) (zld la 5) (zld la 7) (zld la 11) (zld la 12) hg H, fun la sa s hg H => zcut H fun H => hk130 s (al la 6) (ai la 8) (zld la 1) (zld la 2) (zld la 3) (zld la 4) (zld la 5) (zld la 7) (zld la 9) (zld la 10) (zld la 11) (zld la 12) hg H, fun _ _ _ _ H => H.elim, trivial⟩ hg H
theorem t2_shareLoss_76 : ∀ (n : Nat), ∀ (p : PM) (v2 : Int64) (v4 : Int64) (v6 : Int64) (v10 : Int32) (d1 d3 d5 d7 d11 d12 : ZV), Gr 0 p → g2_shareLoss_76 n p v2 v4 v6 v10 → ZJ 0 44 76 [zR 2 1, d1, zL v2, d3, zL v4, d5, zL v6, d7, zR 19 1, zC 4, zI v10, d11, d12] [] p (hwV (v2_shareLoss_76 n p v2 v4 v6 v10)) := by
  intro n
  induction n with
  | zero =>
    intro p v2 v4 v6 v10 d1 d3 d5 d7 d11 d12 hg H
    exact H.elim
  | succ n ih => exact r2_shareLoss_76 v2_give g2_give ok40 (v2_shareLoss_76 n) (g2_shareLoss_76 n) ih (v2_shareLoss_130 FU) (g2_shareLoss_130 FU) (t2_shareLoss_130 FU)
set_option maxRecDepth 100000 in
theorem r2_shareLoss_16 (F40 : PM → Int32 → Int64 → Int64 × PM) (G40 : PM → Int32 → Int64 → Prop) (o40 : CalOK 0 (CC40 F40 G40)) (kv16 : PM → Int32 → Int64 → Int32 → PM) (kg16 : PM → Int32 → Int64 → Int32 → Prop) (hk16 : ∀ (p : PM) (v1 : Int32) (v2 : Int64) (v6 : Int32) (d3 d7 d8 d9 d10 d11 d12 : ZV), Gr 0 p → kg16 p v1 v2 v6 → ZJ 0 44 16 [zR 2 1, zI v1, zL v2, d3, zR 19 1, zC 4, zI v6, d7, d8, d9, d10, d11, d12] [] p (hwV (kv16 p v1 v2 v6))) (kv76 : PM → Int64 → Int64 → Int64 → Int32 → PM) (kg76 : PM → Int64 → Int64 → Int64 → Int32 → Prop) (hk76 : ∀ (p : PM) (v2 : Int64) (v4 : Int64) (v6 : Int64) (v10 : Int32) (d1 d3 d5 d7 d11 d12 : ZV), Gr 0 p → kg76 p v2 v4 v6 v10 → ZJ 0 44 76 [zR 2 1, d1, zL v2, d3, zL v4, d5, zL v6, d7, zR 19 1, zC 4, zI v10, d11, d12] [] p (hwV (kv76 p v2 v4 v6 v10))) : ∀ (p : PM) (v1 : Int32) (v2 : Int64) (v6 : Int32) (d3 d7 d8 d9 d10 d11 d12 : ZV), Gr 0 p → bg2_shareLoss_16 F40 G40 kg16 kg76 p v1 v2 v6 → ZJ 0 44 16 [zR 2 1, zI v1, zL v2, d3, zR 19 1, zC 4, zI v6, d7, d8, d9, d10, d11, d12] [] p (hwV (bv2_shareLoss_16 F40 kv16 kv76 p v1 v2 v6)) := by
  intro p v1 v2 v6 d3 d7 d8 d9 d10 d11 d12 hg H
  exact rwV (n := 3000) (q := 16) (la := [zR 2 1, zI v1, zL v2, d3, zR 19 1, zC 4, zI v6, d7, d8, d9, d10, d11, d12]) (sa := []) (ks := [fun la sa s => kv16 s (ai la 1) (al la 2) (ai la 6), fun la sa s => kv76 s (al la 2) (al la 4) (al la 6) (ai la 10), fun _ _ s => s, fun _ _ s => s]) (gs := [fun la sa s => zsw (tc2 la [(102, 1), (0, 0), (1, 0), (2, 0), (119, 1), (3, 4), (0, 0), (2, 0), (2, 0), (2, 0), (2, 0), (2, 0), (2, 0)] && tc2 sa []) False (kg16 s (ai la 1) (al la 2) (ai la 6)), fun la sa s => zsw (tc2 la [(102, 1), (2, 0), (1, 0), (2, 0), (1, 0), (2, 0), (1, 0), (2, 0), (119, 1), (3, 4), (0, 0), (2, 0), (2, 0)] && tc2 sa []) False (kg76 s (al la 2) (al la 4) (al la 6) (ai la 10)), fun _ _ _ => False, fun _ _ _ => False]) (fcons o40 (fnil)) tab44 pc44 ⟨fun la sa s hg H => zcut H fun H => hk16 s (ai la 1) (al la 2) (ai la 6) (zld la 3) (zld la 7) (zld la 8) (zld la 9) (zld la 10) (zld la 11) (zld la 12) hg H, fun la sa s hg H => zcut H fun H => hk76 s (al la 2) (al la 4) (al la 6) (ai la 10) (zld la 1) (zld la 3) (zld la 5) (zld la 7) (zld la 11) (zld la 12) hg H, fun _ _ _ _ H => H.elim, fun _ _ _ _ H => H.elim, trivial⟩ hg H
theorem t2_shareLoss_16 : ∀ (n : Nat), ∀ (p : PM) (v1 : Int32) (v2 : Int64) (v6 : Int32) (d3 d7 d8 d9 d10 d11 d12 : ZV), Gr 0 p → g2_shareLoss_16 n p v1 v2 v6 → ZJ 0 44 16 [zR 2 1, zI v1, zL v2, d3, zR 19 1, zC 4, zI v6, d7, d8, d9, d10, d11, d12] [] p (hwV (v2_shareLoss_16 n p v1 v2 v6)) := by
  intro n
  induction n with
  | zero =>
    intro p v1 v2 v6 d3 d7 d8 d9 d10 d11 d12 hg H
    exact H.elim
  | succ n ih => exact r2_shareLoss_16 v2_give g2_give ok40 (v2_shareLoss_16 n) (g2_shareLoss_16 n) ih (v2_shareLoss_76 FU) (g2_shareLoss_76 FU) (t2_shareLoss_76 FU)
set_option maxRecDepth 100000 in
theorem r2_shareLoss (F40 : PM → Int32 → Int64 → Int64 × PM) (G40 : PM → Int32 → Int64 → Prop) (o40 : CalOK 0 (CC40 F40 G40)) (kv16 : PM → Int32 → Int64 → Int32 → PM) (kg16 : PM → Int32 → Int64 → Int32 → Prop) (hk16 : ∀ (p : PM) (v1 : Int32) (v2 : Int64) (v6 : Int32) (d3 d7 d8 d9 d10 d11 d12 : ZV), Gr 0 p → kg16 p v1 v2 v6 → ZJ 0 44 16 [zR 2 1, zI v1, zL v2, d3, zR 19 1, zC 4, zI v6, d7, d8, d9, d10, d11, d12] [] p (hwV (kv16 p v1 v2 v6))) : ∀ (p : PM) (v1 : Int32), Gr 0 p → bg2_shareLoss kg16 p v1 → ZJ 0 44 0 [zR 2 1, zI v1, zJ, zJ, zJ, zJ, zJ, zJ, zJ, zJ, zJ, zJ, zJ] [] p (hwV (bv2_shareLoss kv16 p v1)) := by
  intro p v1  hg H
  exact rwV (n := 3000) (q := 0) (la := [zR 2 1, zI v1, zJ, zJ, zJ, zJ, zJ, zJ, zJ, zJ, zJ, zJ, zJ]) (sa := []) (ks := [fun la sa s => kv16 s (ai la 1) (al la 2) (ai la 6), fun _ _ s => s, fun _ _ s => s, fun _ _ s => s]) (gs := [fun la sa s => zsw (tc2 la [(102, 1), (0, 0), (1, 0), (2, 0), (119, 1), (3, 4), (0, 0), (2, 0), (2, 0), (2, 0), (2, 0), (2, 0), (2, 0)] && tc2 sa []) False (kg16 s (ai la 1) (al la 2) (ai la 6)), fun _ _ _ => False, fun _ _ _ => False, fun _ _ _ => False]) (fcons o40 (fnil)) tab44 pc44 ⟨fun la sa s hg H => zcut H fun H => hk16 s (ai la 1) (al la 2) (ai la 6) (zld la 3) (zld la 7) (zld la 8) (zld la 9) (zld la 10) (zld la 11) (zld la 12) hg H, fun _ _ _ _ H => H.elim, fun _ _ _ _ H => H.elim, fun _ _ _ _ H => H.elim, trivial⟩ hg H
theorem t2_shareLoss : ∀ (p : PM) (v1 : Int32), Gr 0 p → g2_shareLoss p v1 → ZJ 0 44 0 [zR 2 1, zI v1, zJ, zJ, zJ, zJ, zJ, zJ, zJ, zJ, zJ, zJ, zJ] [] p (hwV (v2_shareLoss p v1)) := r2_shareLoss v2_give g2_give ok40 (v2_shareLoss_16 FU) (g2_shareLoss_16 FU) (t2_shareLoss_16 FU)
def CC44 (F : PM → Int32 → PM) (G : PM → Int32 → Prop) : Cal := (44, [5, 0], 0, false, fun as p => (zJ, (F p (ai as 1))), fun as p => zsw (tc2 as [(102, 1), (0, 0)]) False (G p (ai as 1)))
set_option maxRecDepth 100000 in
theorem okr44 (F : PM → Int32 → PM) (G : PM → Int32 → Prop) (h : ∀ (p : PM) (v1 : Int32), Gr 0 p → G p v1 → ZJ 0 44 0 [zR 2 1, zI v1, zJ, zJ, zJ, zJ, zJ, zJ, zJ, zJ, zJ, zJ, zJ] [] p (hwV (F p v1))) : CalOK 0 (CC44 F G) := cal_ok (m := 13) (by unfold mL; rw [mX_44]) (fun as p hg H => h p (ai as 1) hg H)
theorem ok44 : CalOK 0 (CC44 v2_shareLoss g2_shareLoss) := okr44 v2_shareLoss g2_shareLoss t2_shareLoss
noncomputable def bv2_shareLayer_96 (F18 : PM → Int32 → Nat) (F19 : PM → Int32 → Nat) (kv96 : PM → Int32 → Int32 → PM) (p : PM) (v3 : Int32) (v4 : Int32) : PM :=
  if v4 < (cn 4) then (
    if v3 = 0 then (
      let p1 : PM := pI p 9 (F18 p v4) 2 ((p.1 9 (F18 p v4) 2) - ((p.2.1 9 (F18 p v4) 8)).toInt32)
      kv96 p1 v3 (v4 + (cn 1)))
    else (
      let p2 : PM := pJ p 0 (F19 p v4) 4 ((p.2.1 0 (F19 p v4) 4) - (p.2.1 9 (F18 p v4) 8))
      kv96 p2 v3 (v4 + (cn 1))))
  else (
    p)
noncomputable def v2_shareLayer_96 (n : Nat) : PM → Int32 → Int32 → PM := Nat.rec (motive := fun _ => PM → Int32 → Int32 → PM) (fun p _ _ => p) (fun _ ih => bv2_shareLayer_96 v2_memberAt v2_lowerOf ih) n
theorem ev2_shareLayer_96 (n : Nat) (p : PM) (v3 : Int32) (v4 : Int32) : v2_shareLayer_96 (n + 1) p v3 v4 = bv2_shareLayer_96 v2_memberAt v2_lowerOf (v2_shareLayer_96 n) p v3 v4 := rfl
noncomputable def bg2_shareLayer_96 (F18 : PM → Int32 → Nat) (G18 : PM → Int32 → Prop) (F19 : PM → Int32 → Nat) (G19 : PM → Int32 → Prop) (kg96 : PM → Int32 → Int32 → Prop) (p : PM) (v3 : Int32) (v4 : Int32) : Prop :=
  if v4 < (cn 4) then (
    (G18 p v4) ∧ (
    if v3 = 0 then (
      (¬ (F18 p v4) = 0) ∧ (
      (¬ (F18 p v4) = 0) ∧ (
      (¬ (F18 p v4) = 0) ∧ (
      let p1 : PM := pI p 9 (F18 p v4) 2 ((p.1 9 (F18 p v4) 2) - ((p.2.1 9 (F18 p v4) 8)).toInt32)
      kg96 p1 v3 (v4 + (cn 1))))))
    else (
      (G19 p v4) ∧ (
      (¬ (F19 p v4) = 0) ∧ (
      (¬ (F18 p v4) = 0) ∧ (
      (¬ (F19 p v4) = 0) ∧ (
      let p2 : PM := pJ p 0 (F19 p v4) 4 ((p.2.1 0 (F19 p v4) 4) - (p.2.1 9 (F18 p v4) 8))
      kg96 p2 v3 (v4 + (cn 1)))))))))
  else (
    True)
noncomputable def g2_shareLayer_96 (n : Nat) : PM → Int32 → Int32 → Prop := Nat.rec (motive := fun _ => PM → Int32 → Int32 → Prop) (fun _ _ _ => False) (fun _ ih => bg2_shareLayer_96 v2_memberAt g2_memberAt v2_lowerOf g2_lowerOf ih) n
theorem eg2_shareLayer_96 (n : Nat) (p : PM) (v3 : Int32) (v4 : Int32) : g2_shareLayer_96 (n + 1) p v3 v4 = bg2_shareLayer_96 v2_memberAt g2_memberAt v2_lowerOf g2_lowerOf (g2_shareLayer_96 n) p v3 v4 := rfl
noncomputable def bv2_shareLayer_26 (F42 : PM → Int32 → Nat → Int32 → Int32) (F44 : PM → Int32 → PM) (kv26 : PM → Int32 → Int32 → Int32 → Int32 → PM) (kv96 : PM → Int32 → Int32 → PM) (p : PM) (v1 : Int32) (v2 : Int32) (v3 : Int32) (v6 : Int32) : PM :=
  if v6 < (cn 4) then (
    if v3 = 0 then (
      let x2 : Int32 := (p.1 9 ((v6).toNatClampNeg + 1) 2)
      if (F42 p v1 ((v6).toNatClampNeg + 1) v2) = 0 then (
        let p3 : PM := pJ p 9 ((v6).toNatClampNeg + 1) 7 (cl 0)
        kv26 p3 v1 v2 v3 (v6 + (cn 1)))
      else (
        let p4 : PM := pJ p 9 ((v6).toNatClampNeg + 1) 7 (x2).toInt64
        kv26 p4 v1 v2 v3 (v6 + (cn 1))))
    else (
      let x5 : Int32 := (p.1 9 ((v6).toNatClampNeg + 1) 6)
      if (F42 p v1 ((v6).toNatClampNeg + 1) v2) = 0 then (
        let p6 : PM := pJ p 9 ((v6).toNatClampNeg + 1) 7 (cl 0)
        kv26 p6 v1 v2 v3 (v6 + (cn 1)))
      else (
        let p7 : PM := pJ p 9 ((v6).toNatClampNeg + 1) 7 (x5).toInt64
        kv26 p7 v1 v2 v3 (v6 + (cn 1)))))
  else (
    let p1 : PM := F44 p v1
    kv96 p1 v3 (cn 0))
noncomputable def v2_shareLayer_26 (n : Nat) : PM → Int32 → Int32 → Int32 → Int32 → PM := Nat.rec (motive := fun _ => PM → Int32 → Int32 → Int32 → Int32 → PM) (fun p _ _ _ _ => p) (fun _ ih => bv2_shareLayer_26 v2_givesIn v2_shareLoss ih (v2_shareLayer_96 FU)) n
theorem ev2_shareLayer_26 (n : Nat) (p : PM) (v1 : Int32) (v2 : Int32) (v3 : Int32) (v6 : Int32) : v2_shareLayer_26 (n + 1) p v1 v2 v3 v6 = bv2_shareLayer_26 v2_givesIn v2_shareLoss (v2_shareLayer_26 n) (v2_shareLayer_96 FU) p v1 v2 v3 v6 := rfl
noncomputable def bg2_shareLayer_26 (F42 : PM → Int32 → Nat → Int32 → Int32) (G42 : PM → Int32 → Nat → Int32 → Prop) (F44 : PM → Int32 → PM) (G44 : PM → Int32 → Prop) (kg26 : PM → Int32 → Int32 → Int32 → Int32 → Prop) (kg96 : PM → Int32 → Int32 → Prop) (p : PM) (v1 : Int32) (v2 : Int32) (v3 : Int32) (v6 : Int32) : Prop :=
  if v6 < (cn 4) then (
    (inb v6 4) ∧ (
    if v3 = 0 then (
      let x2 : Int32 := (p.1 9 ((v6).toNatClampNeg + 1) 2)
      (G42 p v1 ((v6).toNatClampNeg + 1) v2) ∧ (
      if (F42 p v1 ((v6).toNatClampNeg + 1) v2) = 0 then (
        let p3 : PM := pJ p 9 ((v6).toNatClampNeg + 1) 7 (cl 0)
        kg26 p3 v1 v2 v3 (v6 + (cn 1)))
      else (
        let p4 : PM := pJ p 9 ((v6).toNatClampNeg + 1) 7 (x2).toInt64
        kg26 p4 v1 v2 v3 (v6 + (cn 1)))))
    else (
      let x5 : Int32 := (p.1 9 ((v6).toNatClampNeg + 1) 6)
      (G42 p v1 ((v6).toNatClampNeg + 1) v2) ∧ (
      if (F42 p v1 ((v6).toNatClampNeg + 1) v2) = 0 then (
        let p6 : PM := pJ p 9 ((v6).toNatClampNeg + 1) 7 (cl 0)
        kg26 p6 v1 v2 v3 (v6 + (cn 1)))
      else (
        let p7 : PM := pJ p 9 ((v6).toNatClampNeg + 1) 7 (x5).toInt64
        kg26 p7 v1 v2 v3 (v6 + (cn 1)))))))
  else (
    (G44 p v1) ∧ (
    let p1 : PM := F44 p v1
    kg96 p1 v3 (cn 0)))
noncomputable def g2_shareLayer_26 (n : Nat) : PM → Int32 → Int32 → Int32 → Int32 → Prop := Nat.rec (motive := fun _ => PM → Int32 → Int32 → Int32 → Int32 → Prop) (fun _ _ _ _ _ => False) (fun _ ih => bg2_shareLayer_26 v2_givesIn g2_givesIn v2_shareLoss g2_shareLoss ih (g2_shareLayer_96 FU)) n
theorem eg2_shareLayer_26 (n : Nat) (p : PM) (v1 : Int32) (v2 : Int32) (v3 : Int32) (v6 : Int32) : g2_shareLayer_26 (n + 1) p v1 v2 v3 v6 = bg2_shareLayer_26 v2_givesIn g2_givesIn v2_shareLoss g2_shareLoss (g2_shareLayer_26 n) (g2_shareLayer_96 FU) p v1 v2 v3 v6 := rfl
noncomputable def bv2_shareLayer (kv26 : PM → Int32 → Int32 → Int32 → Int32 → PM) (p : PM) (v1 : Int32) (v2 : Int32) : PM :=
  if v1 = (cn 7) then (
    kv26 p v1 v2 (cn 1) (cn 0))
  else (
    kv26 p v1 v2 (cn 0) (cn 0))
noncomputable def v2_shareLayer (p : PM) (v1 : Int32) (v2 : Int32) : PM := bv2_shareLayer (v2_shareLayer_26 FU) p v1 v2
noncomputable def bg2_shareLayer (kg26 : PM → Int32 → Int32 → Int32 → Int32 → Prop) (p : PM) (v1 : Int32) (v2 : Int32) : Prop :=
  if v1 = (cn 7) then (
    kg26 p v1 v2 (cn 1) (cn 0))
  else (
    kg26 p v1 v2 (cn 0) (cn 0))
noncomputable def g2_shareLayer (p : PM) (v1 : Int32) (v2 : Int32) : Prop := bg2_shareLayer (g2_shareLayer_26 FU) p v1 v2
def R43 : List Row := [(0, .iload_n 1, 1, 0, (0, 0, 0, 0, 0, 0)), (1, .bipush 7, 2, 0, (0, 0, 0, 0, 0, 7)), (3, .if_icmp .ne 7, 3, 0, (0, 0, 0, 0, 0, 0)), (6, .iconst 1, 1, 0, (0, 0, 0, 0, 0, 1)), (7, .goto 4, 3, 0, (0, 0, 0, 0, 0, 0)), (10, .iconst 0, 1, 0, (0, 0, 0, 0, 0, 0)), (11, .istore_n 3, 1, 0, (0, 0, 0, 0, 0, 0)), (12, .aload_n 0, 1, 0, (0, 0, 0, 0, 0, 0)), (13, .getfield 11, 3, 0, (2, 2, 22, 2, 1, 0)), (16, .astore 4, 2, 0, (0, 0, 0, 0, 0, 0)), (18, .aload 4, 2, 0, (0, 0, 0, 0, 0, 0)), (20, .arraylength, 1, 0, (19, 4, 0, 0, 0, 4)), (21, .istore 5, 2, 0, (0, 0, 0, 0, 0, 0)), (23, .iconst 0, 1, 0, (0, 0, 0, 0, 0, 0)), (24, .istore 6, 2, 0, (0, 0, 0, 0, 0, 0)), (26, .iload 6, 2, 1, (0, 0, 0, 0, 0, 0)), (28, .iload 5, 2, 0, (0, 0, 0, 0, 0, 0)), (30, .if_icmp .ge 58, 3, 0, (0, 0, 0, 0, 0, 0)), (33, .aload 4, 2, 0, (0, 0, 0, 0, 0, 0)), (35, .iload 6, 2, 0, (0, 0, 0, 0, 0, 0)), (37, .aaload, 1, 0, (19, 4, 0, 1, 1, 0)), (38, .astore 7, 2, 0, (0, 0, 0, 0, 0, 0)), (40, .iload_n 3, 1, 0, (0, 0, 0, 0, 0, 0)), (41, .ifCond .eq 11, 3, 0, (0, 0, 0, 0, 0, 0)), (44, .aload 7, 2, 0, (0, 0, 0, 0, 0, 0)), (46, .getfield 166, 3, 0, (9, 6, 0, 1, 0, 0)), (49, .goto 8, 3, 0, (0, 0, 0, 0, 0, 0)), (52, .aload 7, 2, 0, (0, 0, 0, 0, 0, 0)), (54, .getfield 73, 3, 0, (9, 2, 0, 1, 0, 0)), (57, .istore 8, 2, 0, (0, 0, 0, 0, 0, 0)), (59, .aload 7, 2, 0, (0, 0, 0, 0, 0, 0)), (61, .aload_n 0, 1, 0, (0, 0, 0, 0, 0, 0)), (62, .iload_n 1, 1, 0, (0, 0, 0, 0, 0, 0)), (63, .aload 7, 2, 0, (0, 0, 0, 0, 0, 0)), (65, .iload_n 2, 1, 0, (0, 0, 0, 0, 0, 0)), (66, .invokevirtual 183, 3, 0, (1, 4, 0, 0, 1, 0)), (69, .ifCond .eq 9, 3, 0, (0, 0, 0, 0, 0, 0)), (72, .iload 8, 2, 0, (0, 0, 0, 0, 0, 0)), (74, .i2l, 1, 0, (0, 0, 0, 0, 0, 0)), (75, .goto 4, 3, 0, (0, 0, 0, 0, 0, 0)), (78, .lconst 0, 1, 0, (0, 0, 0, 0, 0, 0)), (79, .putfield 187, 3, 0, (9, 7, 2, 1, 0, 0)), (82, .iinc 6 1, 3, 0, (0, 0, 0, 0, 0, 1)), (85, .goto (-59), 3, 0, (0, 0, 0, 0, 0, 0)), (88, .aload_n 0, 1, 0, (0, 0, 0, 0, 0, 0)), (89, .iload_n 1, 1, 0, (0, 0, 0, 0, 0, 0)), (90, .invokevirtual 190, 3, 0, (0, 2, 0, 0, 1, 0)), (93, .iconst 0, 1, 0, (0, 0, 0, 0, 0, 0)), (94, .istore 4, 2, 0, (0, 0, 0, 0, 0, 0)), (96, .iload 4, 2, 2, (0, 0, 0, 0, 0, 0)), (98, .iconst 4, 1, 0, (0, 0, 0, 0, 0, 4)), (99, .if_icmp .ge 59, 3, 0, (0, 0, 0, 0, 0, 0)), (102, .aload_n 0, 1, 0, (0, 0, 0, 0, 0, 0)), (103, .iload 4, 2, 0, (0, 0, 0, 0, 0, 0)), (105, .invokevirtual 51, 3, 0, (2, 2, 0, 0, 1, 0)), (108, .astore 5, 2, 0, (0, 0, 0, 0, 0, 0)), (110, .iload_n 3, 1, 0, (0, 0, 0, 0, 0, 0)), (111, .ifCond .eq 25, 3, 0, (0, 0, 0, 0, 0, 0)), (114, .aload_n 0, 1, 0, (0, 0, 0, 0, 0, 0)), (115, .iload 4, 2, 0, (0, 0, 0, 0, 0, 0)), (117, .invokevirtual 118, 3, 0, (3, 2, 0, 0, 1, 0)), (120, .dup, 1, 0, (0, 0, 0, 0, 0, 0)), (121, .getfield 121, 3, 0, (0, 4, 2, 0, 0, 0)), (124, .aload 5, 2, 0, (0, 0, 0, 0, 0, 0)), (126, .getfield 193, 3, 0, (9, 8, 2, 0, 0, 0)), (129, .lsub, 1, 0, (0, 0, 0, 0, 0, 0)), (130, .putfield 121, 3, 0, (0, 4, 2, 0, 0, 0)), (133, .goto 19, 3, 0, (0, 0, 0, 0, 0, 0)), (136, .aload 5, 2, 0, (0, 0, 0, 0, 0, 0)), (138, .dup, 1, 0, (0, 0, 0, 0, 0, 0)), (139, .getfield 73, 3, 0, (9, 2, 0, 0, 0, 0)), (142, .aload 5, 2, 0, (0, 0, 0, 0, 0, 0)), (144, .getfield 193, 3, 0, (9, 8, 2, 0, 0, 0)), (147, .l2i, 1, 0, (0, 0, 0, 0, 0, 0)), (148, .isub, 1, 0, (0, 0, 0, 0, 0, 0)), (149, .putfield 73, 3, 0, (9, 2, 0, 0, 0, 0)), (152, .iinc 4 1, 3, 0, (0, 0, 0, 0, 0, 1)), (155, .goto (-59), 3, 0, (0, 0, 0, 0, 0, 0)), (158, .return_, 1, 0, (0, 0, 0, 0, 0, 0))]
set_option maxRecDepth 100000 in
theorem rk43 : R43.all (rok 0 43 0 [(44, [5, 0]), (42, [5, 0, 12, 0]), (18, [5, 0]), (19, [5, 0])]) = true := by decide +kernel
set_option maxRecDepth 100000 in
theorem tab43 {F44 : PM → Int32 → PM} {G44 : PM → Int32 → Prop} {F42 : PM → Int32 → Nat → Int32 → Int32} {G42 : PM → Int32 → Nat → Int32 → Prop} {F18 : PM → Int32 → Nat} {G18 : PM → Int32 → Prop} {F19 : PM → Int32 → Nat} {G19 : PM → Int32 → Prop} : TabOK 0 43 0 [CC44 F44 G44, CC42 F42 G42, CC18 F18 G18, CC19 F19 G19] R43 := tab_ok (K := K43) rfl rfl (fun h => d43 h) rk43 (by decide +kernel)
set_option maxRecDepth 100000 in
theorem pc43 : cutpc [26, 96] R43 = true := by decide +kernel
set_option maxRecDepth 100000 in
theorem r2_shareLayer_96 (F44 : PM → Int32 → PM) (G44 : PM → Int32 → Prop) (o44 : CalOK 0 (CC44 F44 G44)) (F42 : PM → Int32 → Nat → Int32 → Int32) (G42 : PM → Int32 → Nat → Int32 → Prop) (o42 : CalOK 0 (CC42 F42 G42)) (F18 : PM → Int32 → Nat) (G18 : PM → Int32 → Prop) (o18 : CalOK 0 (CC18 F18 G18)) (F19 : PM → Int32 → Nat) (G19 : PM → Int32 → Prop) (o19 : CalOK 0 (CC19 F19 G19)) (kv96 : PM → Int32 → Int32 → PM) (kg96 : PM → Int32 → Int32 → Prop) (hk96 : ∀ (p : PM) (v3 : Int32) (v4 : Int32) (d1 d2 d5 d6 d7 d8 : ZV), Gr 0 p → kg96 p v3 v4 → ZJ 0 43 96 [zR 2 1, d1, d2, zI v3, zI v4, d5, d6, d7, d8] [] p (hwV (kv96 p v3 v4))) : ∀ (p : PM) (v3 : Int32) (v4 : Int32) (d1 d2 d5 d6 d7 d8 : ZV), Gr 0 p → bg2_shareLayer_96 F18 G18 F19 G19 kg96 p v3 v4 → ZJ 0 43 96 [zR 2 1, d1, d2, zI v3, zI v4, d5, d6, d7, d8] [] p (hwV (bv2_shareLayer_96 F18 F19 kv96 p v3 v4)) := by
  intro p v3 v4 d1 d2 d5 d6 d7 d8 hg H
  exact rwV (n := 3000) (q := 96) (la := [zR 2 1, d1, d2, zI v3, zI v4, d5, d6, d7, d8]) (sa := []) (ks := [fun _ _ s => s, fun la sa s => kv96 s (ai la 3) (ai la 4)]) (gs := [fun _ _ _ => False, fun la sa s => zsw (tc2 la [(102, 1), (2, 0), (2, 0), (0, 0), (0, 0), (2, 0), (2, 0), (2, 0), (2, 0)] && tc2 sa []) False (kg96 s (ai la 3) (ai la 4))]) (fcons o44 (fcons o42 (fcons o18 (fcons o19 (fnil))))) tab43 pc43 ⟨fun _ _ _ _ H => H.elim, fun la sa s hg H => zcut H fun H => hk96 s (ai la 3) (ai la 4) (zld la 1) (zld la 2) (zld la 5) (zld la 6) (zld la 7) (zld la 8) hg H, trivial⟩ hg H
theorem t2_shareLayer_96 : ∀ (n : Nat), ∀ (p : PM) (v3 : Int32) (v4 : Int32) (d1 d2 d5 d6 d7 d8 : ZV), Gr 0 p → g2_shareLayer_96 n p v3 v4 → ZJ 0 43 96 [zR 2 1, d1, d2, zI v3, zI v4, d5, d6, d7, d8] [] p (hwV (v2_shareLayer_96 n p v3 v4)) := by
  intro n
  induction n with
  | zero =>
    intro p v3 v4 d1 d2 d5 d6 d7 d8 hg H
    exact H.elim
  | succ n ih => exact r2_shareLayer_96 v2_shareLoss g2_shareLoss ok44 v2_givesIn g2_givesIn ok42 v2_memberAt g2_memberAt ok18 v2_lowerOf g2_lowerOf ok19 (v2_shareLayer_96 n) (g2_shareLayer_96 n) ih
set_option maxRecDepth 100000 in
theorem r2_shareLayer_26 (F44 : PM → Int32 → PM) (G44 : PM → Int32 → Prop) (o44 : CalOK 0 (CC44 F44 G44)) (F42 : PM → Int32 → Nat → Int32 → Int32) (G42 : PM → Int32 → Nat → Int32 → Prop) (o42 : CalOK 0 (CC42 F42 G42)) (F18 : PM → Int32 → Nat) (G18 : PM → Int32 → Prop) (o18 : CalOK 0 (CC18 F18 G18)) (F19 : PM → Int32 → Nat) (G19 : PM → Int32 → Prop) (o19 : CalOK 0 (CC19 F19 G19)) (kv26 : PM → Int32 → Int32 → Int32 → Int32 → PM) (kg26 : PM → Int32 → Int32 → Int32 → Int32 → Prop) (hk26 : ∀ (p : PM) (v1 : Int32) (v2 : Int32) (v3 : Int32) (v6 : Int32) (d7 d8 : ZV), Gr 0 p → kg26 p v1 v2 v3 v6 → ZJ 0 43 26 [zR 2 1, zI v1, zI v2, zI v3, zR 19 1, zC 4, zI v6, d7, d8] [] p (hwV (kv26 p v1 v2 v3 v6))) (kv96 : PM → Int32 → Int32 → PM) (kg96 : PM → Int32 → Int32 → Prop) (hk96 : ∀ (p : PM) (v3 : Int32) (v4 : Int32) (d1 d2 d5 d6 d7 d8 : ZV), Gr 0 p → kg96 p v3 v4 → ZJ 0 43 96 [zR 2 1, d1, d2, zI v3, zI v4, d5, d6, d7, d8] [] p (hwV (kv96 p v3 v4))) : ∀ (p : PM) (v1 : Int32) (v2 : Int32) (v3 : Int32) (v6 : Int32) (d7 d8 : ZV), Gr 0 p → bg2_shareLayer_26 F42 G42 F44 G44 kg26 kg96 p v1 v2 v3 v6 → ZJ 0 43 26 [zR 2 1, zI v1, zI v2, zI v3, zR 19 1, zC 4, zI v6, d7, d8] [] p (hwV (bv2_shareLayer_26 F42 F44 kv26 kv96 p v1 v2 v3 v6)) := by
  intro p v1 v2 v3 v6 d7 d8 hg H
  exact rwV (n := 3000) (q := 26) (la := [zR 2 1, zI v1, zI v2, zI v3, zR 19 1, zC 4, zI v6, d7, d8]) (sa := []) (ks := [fun la sa s => kv26 s (ai la 1) (ai la 2) (ai la 3) (ai la 6), fun la sa s => kv96 s (ai la 3) (ai la 4)]) (gs := [fun la sa s => zsw (tc2 la [(102, 1), (0, 0), (0, 0), (0, 0), (119, 1), (3, 4), (0, 0), (2, 0), (2, 0)] && tc2 sa []) False (kg26 s (ai la 1) (ai la 2) (ai la 3) (ai la 6)), fun la sa s => zsw (tc2 la [(102, 1), (2, 0), (2, 0), (0, 0), (0, 0), (2, 0), (2, 0), (2, 0), (2, 0)] && tc2 sa []) False (kg96 s (ai la 3) (ai la 4))]) (fcons o44 (fcons o42 (fcons o18 (fcons o19 (fnil))))) tab43 pc43 ⟨fun la sa s hg H => zcut H fun H => hk26 s (ai la 1) (ai la 2) (ai la 3) (ai la 6) (zld la 7) (zld la 8) hg H, fun la sa s hg H => zcut H fun H => hk96 s (ai la 3) (ai la 4) (zld la 1) (zld la 2) (zld la 5) (zld la 6) (zld la 7) (zld la 8) hg H, trivial⟩ hg H
theorem t2_shareLayer_26 : ∀ (n : Nat), ∀ (p : PM) (v1 : Int32) (v2 : Int32) (v3 : Int32) (v6 : Int32) (d7 d8 : ZV), Gr 0 p → g2_shareLayer_26 n p v1 v2 v3 v6 → ZJ 0 43 26 [zR 2 1, zI v1, zI v2, zI v3, zR 19 1, zC 4, zI v6, d7, d8] [] p (hwV (v2_shareLayer_26 n p v1 v2 v3 v6)) := by
  intro n
  induction n with
  | zero =>
    intro p v1 v2 v3 v6 d7 d8 hg H
    exact H.elim
  | succ n ih => exact r2_shareLayer_26 v2_shareLoss g2_shareLoss ok44 v2_givesIn g2_givesIn ok42 v2_memberAt g2_memberAt ok18 v2_lowerOf g2_lowerOf ok19 (v2_shareLayer_26 n) (g2_shareLayer_26 n) ih (v2_shareLayer_96 FU) (g2_shareLayer_96 FU) (t2_shareLayer_96 FU)
set_option maxRecDepth 100000 in
theorem r2_shareLayer (F44 : PM → Int32 → PM) (G44 : PM → Int32 → Prop) (o44 : CalOK 0 (CC44 F44 G44)) (F42 : PM → Int32 → Nat → Int32 → Int32) (G42 : PM → Int32 → Nat → Int32 → Prop) (o42 : CalOK 0 (CC42 F42 G42)) (F18 : PM → Int32 → Nat) (G18 : PM → Int32 → Prop) (o18 : CalOK 0 (CC18 F18 G18)) (F19 : PM → Int32 → Nat) (G19 : PM → Int32 → Prop) (o19 : CalOK 0 (CC19 F19 G19)) (kv26 : PM → Int32 → Int32 → Int32 → Int32 → PM) (kg26 : PM → Int32 → Int32 → Int32 → Int32 → Prop) (hk26 : ∀ (p : PM) (v1 : Int32) (v2 : Int32) (v3 : Int32) (v6 : Int32) (d7 d8 : ZV), Gr 0 p → kg26 p v1 v2 v3 v6 → ZJ 0 43 26 [zR 2 1, zI v1, zI v2, zI v3, zR 19 1, zC 4, zI v6, d7, d8] [] p (hwV (kv26 p v1 v2 v3 v6))) : ∀ (p : PM) (v1 : Int32) (v2 : Int32), Gr 0 p → bg2_shareLayer kg26 p v1 v2 → ZJ 0 43 0 [zR 2 1, zI v1, zI v2, zJ, zJ, zJ, zJ, zJ, zJ] [] p (hwV (bv2_shareLayer kv26 p v1 v2)) := by
  intro p v1 v2  hg H
  exact rwV (n := 3000) (q := 0) (la := [zR 2 1, zI v1, zI v2, zJ, zJ, zJ, zJ, zJ, zJ]) (sa := []) (ks := [fun la sa s => kv26 s (ai la 1) (ai la 2) (ai la 3) (ai la 6), fun _ _ s => s]) (gs := [fun la sa s => zsw (tc2 la [(102, 1), (0, 0), (0, 0), (0, 0), (119, 1), (3, 4), (0, 0), (2, 0), (2, 0)] && tc2 sa []) False (kg26 s (ai la 1) (ai la 2) (ai la 3) (ai la 6)), fun _ _ _ => False]) (fcons o44 (fcons o42 (fcons o18 (fcons o19 (fnil))))) tab43 pc43 ⟨fun la sa s hg H => zcut H fun H => hk26 s (ai la 1) (ai la 2) (ai la 3) (ai la 6) (zld la 7) (zld la 8) hg H, fun _ _ _ _ H => H.elim, trivial⟩ hg H
theorem t2_shareLayer : ∀ (p : PM) (v1 : Int32) (v2 : Int32), Gr 0 p → g2_shareLayer p v1 v2 → ZJ 0 43 0 [zR 2 1, zI v1, zI v2, zJ, zJ, zJ, zJ, zJ, zJ] [] p (hwV (v2_shareLayer p v1 v2)) := r2_shareLayer v2_shareLoss g2_shareLoss ok44 v2_givesIn g2_givesIn ok42 v2_memberAt g2_memberAt ok18 v2_lowerOf g2_lowerOf ok19 (v2_shareLayer_26 FU) (g2_shareLayer_26 FU) (t2_shareLayer_26 FU)
def CC43 (F : PM → Int32 → Int32 → PM) (G : PM → Int32 → Int32 → Prop) : Cal := (43, [5, 0, 0], 0, false, fun as p => (zJ, (F p (ai as 1) (ai as 2))), fun as p => zsw (tc2 as [(102, 1), (0, 0), (0, 0)]) False (G p (ai as 1) (ai as 2)))
set_option maxRecDepth 100000 in
theorem okr43 (F : PM → Int32 → Int32 → PM) (G : PM → Int32 → Int32 → Prop) (h : ∀ (p : PM) (v1 : Int32) (v2 : Int32), Gr 0 p → G p v1 v2 → ZJ 0 43 0 [zR 2 1, zI v1, zI v2, zJ, zJ, zJ, zJ, zJ, zJ] [] p (hwV (F p v1 v2))) : CalOK 0 (CC43 F G) := cal_ok (m := 9) (by unfold mL; rw [mX_43]) (fun as p hg H => h p (ai as 1) (ai as 2) hg H)
theorem ok43 : CalOK 0 (CC43 v2_shareLayer g2_shareLayer) := okr43 v2_shareLayer g2_shareLayer t2_shareLayer
noncomputable def bv2_cover_170 (F40 : PM → Int32 → Int64 → Int64 × PM) (F43 : PM → Int32 → Int32 → PM) (F104 : PM → Int32 → Nat) (kv170 : PM → Int32 → Int32 → PM) (p : PM) (v1 : Int32) (v4 : Int32) : PM :=
  if (cn 7) < v4 then (
    let r1 : Int64 × PM := F40 p (cn 8) (p.2.1 2 1 7)
    let p2 : PM := pJ r1.2 0 (F104 p (cn 8)) 4 ((p.2.1 0 (F104 p (cn 8)) 4) - r1.1)
    p2)
  else (
    let p3 : PM := F43 p v4 v1
    kv170 p3 v1 (v4 + (cn 1)))
noncomputable def v2_cover_170 (n : Nat) : PM → Int32 → Int32 → PM := Nat.rec (motive := fun _ => PM → Int32 → Int32 → PM) (fun p _ _ => p) (fun _ ih => bv2_cover_170 v2_give v2_shareLayer v7_accountAt ih) n
theorem ev2_cover_170 (n : Nat) (p : PM) (v1 : Int32) (v4 : Int32) : v2_cover_170 (n + 1) p v1 v4 = bv2_cover_170 v2_give v2_shareLayer v7_accountAt (v2_cover_170 n) p v1 v4 := rfl
noncomputable def bg2_cover_170 (F40 : PM → Int32 → Int64 → Int64 × PM) (G40 : PM → Int32 → Int64 → Prop) (F43 : PM → Int32 → Int32 → PM) (G43 : PM → Int32 → Int32 → Prop) (F104 : PM → Int32 → Nat) (G104 : PM → Int32 → Prop) (kg170 : PM → Int32 → Int32 → Prop) (p : PM) (v1 : Int32) (v4 : Int32) : Prop :=
  if (cn 7) < v4 then (
    (G104 p (cn 8)) ∧ (
    (¬ (F104 p (cn 8)) = 0) ∧ (
    (G40 p (cn 8) (p.2.1 2 1 7)) ∧ (
    let r1 : Int64 × PM := F40 p (cn 8) (p.2.1 2 1 7)
    (¬ (F104 p (cn 8)) = 0) ∧ (
    let p2 : PM := pJ r1.2 0 (F104 p (cn 8)) 4 ((p.2.1 0 (F104 p (cn 8)) 4) - r1.1)
    True)))))
  else (
    (G43 p v4 v1) ∧ (
    let p3 : PM := F43 p v4 v1
    kg170 p3 v1 (v4 + (cn 1))))
noncomputable def g2_cover_170 (n : Nat) : PM → Int32 → Int32 → Prop := Nat.rec (motive := fun _ => PM → Int32 → Int32 → Prop) (fun _ _ _ => False) (fun _ ih => bg2_cover_170 v2_give g2_give v2_shareLayer g2_shareLayer v7_accountAt g7_accountAt ih) n
theorem eg2_cover_170 (n : Nat) (p : PM) (v1 : Int32) (v4 : Int32) : g2_cover_170 (n + 1) p v1 v4 = bg2_cover_170 v2_give g2_give v2_shareLayer g2_shareLayer v7_accountAt g7_accountAt (g2_cover_170 n) p v1 v4 := rfl
noncomputable def bv2_cover_63 (F40 : PM → Int32 → Int64 → Int64 × PM) (F41 : PM → Nat → Int64 × PM) (kv63 : PM → Int32 → Nat → Nat → Int32 → PM) (kv170 : PM → Int32 → Int32 → PM) (p : PM) (v1 : Int32) (v2 : Nat) (v3 : Nat) (v6 : Int32) : PM :=
  if v6 < (cn 4) then (
    let p9 : PM := pI p 9 ((v6).toNatClampNeg + 1) 6 (p.1 9 ((v6).toNatClampNeg + 1) 2)
    kv63 p9 v1 v2 v3 (v6 + (cn 1)))
  else (
    let r1 : Int64 × PM := F40 p (cn 1) ((p.1 9 v2 0)).toInt64
    let p2 : PM := pI r1.2 9 v2 0 ((p.1 9 v2 0) - (r1.1).toInt32)
    let r3 : Int64 × PM := F41 p2 v2
    let p4 : PM := pJ r3.2 0 v3 4 ((p2.2.1 0 v3 4) + r3.1)
    let r5 : Int64 × PM := F40 p4 (cn 3) ((p4.1 9 v2 2)).toInt64
    let p6 : PM := pI r5.2 9 v2 2 ((p4.1 9 v2 2) - (r5.1).toInt32)
    let r7 : Int64 × PM := F40 p6 (cn 4) ((p6.1 2 1 5)).toInt64
    let p8 : PM := pI r7.2 2 1 5 ((p6.1 2 1 5) - (r7.1).toInt32)
    kv170 p8 v1 (cn 5))
noncomputable def v2_cover_63 (n : Nat) : PM → Int32 → Nat → Nat → Int32 → PM := Nat.rec (motive := fun _ => PM → Int32 → Nat → Nat → Int32 → PM) (fun p _ _ _ _ => p) (fun _ ih => bv2_cover_63 v2_give v2_sellUnits ih (v2_cover_170 FU)) n
theorem ev2_cover_63 (n : Nat) (p : PM) (v1 : Int32) (v2 : Nat) (v3 : Nat) (v6 : Int32) : v2_cover_63 (n + 1) p v1 v2 v3 v6 = bv2_cover_63 v2_give v2_sellUnits (v2_cover_63 n) (v2_cover_170 FU) p v1 v2 v3 v6 := rfl
noncomputable def bg2_cover_63 (F40 : PM → Int32 → Int64 → Int64 × PM) (G40 : PM → Int32 → Int64 → Prop) (F41 : PM → Nat → Int64 × PM) (G41 : PM → Nat → Prop) (kg63 : PM → Int32 → Nat → Nat → Int32 → Prop) (kg170 : PM → Int32 → Int32 → Prop) (p : PM) (v1 : Int32) (v2 : Nat) (v3 : Nat) (v6 : Int32) : Prop :=
  if v6 < (cn 4) then (
    (inb v6 4) ∧ (
    let p9 : PM := pI p 9 ((v6).toNatClampNeg + 1) 6 (p.1 9 ((v6).toNatClampNeg + 1) 2)
    kg63 p9 v1 v2 v3 (v6 + (cn 1))))
  else (
    (¬ v2 = 0) ∧ (
    (¬ v2 = 0) ∧ (
    (G40 p (cn 1) ((p.1 9 v2 0)).toInt64) ∧ (
    let r1 : Int64 × PM := F40 p (cn 1) ((p.1 9 v2 0)).toInt64
    (¬ v2 = 0) ∧ (
    let p2 : PM := pI r1.2 9 v2 0 ((p.1 9 v2 0) - (r1.1).toInt32)
    (¬ v3 = 0) ∧ (
    (G41 p2 v2) ∧ (
    let r3 : Int64 × PM := F41 p2 v2
    (¬ v3 = 0) ∧ (
    let p4 : PM := pJ r3.2 0 v3 4 ((p2.2.1 0 v3 4) + r3.1)
    (¬ v2 = 0) ∧ (
    (¬ v2 = 0) ∧ (
    (G40 p4 (cn 3) ((p4.1 9 v2 2)).toInt64) ∧ (
    let r5 : Int64 × PM := F40 p4 (cn 3) ((p4.1 9 v2 2)).toInt64
    (¬ v2 = 0) ∧ (
    let p6 : PM := pI r5.2 9 v2 2 ((p4.1 9 v2 2) - (r5.1).toInt32)
    (G40 p6 (cn 4) ((p6.1 2 1 5)).toInt64) ∧ (
    let r7 : Int64 × PM := F40 p6 (cn 4) ((p6.1 2 1 5)).toInt64
    let p8 : PM := pI r7.2 2 1 5 ((p6.1 2 1 5) - (r7.1).toInt32)
    kg170 p8 v1 (cn 5))))))))))))))
noncomputable def g2_cover_63 (n : Nat) : PM → Int32 → Nat → Nat → Int32 → Prop := Nat.rec (motive := fun _ => PM → Int32 → Nat → Nat → Int32 → Prop) (fun _ _ _ _ _ => False) (fun _ ih => bg2_cover_63 v2_give g2_give v2_sellUnits g2_sellUnits ih (g2_cover_170 FU)) n
theorem eg2_cover_63 (n : Nat) (p : PM) (v1 : Int32) (v2 : Nat) (v3 : Nat) (v6 : Int32) : g2_cover_63 (n + 1) p v1 v2 v3 v6 = bg2_cover_63 v2_give g2_give v2_sellUnits g2_sellUnits (g2_cover_63 n) (g2_cover_170 FU) p v1 v2 v3 v6 := rfl
noncomputable def bv2_cover (F18 : PM → Int32 → Nat) (F19 : PM → Int32 → Nat) (F208 : PM → Int64 → Int64 → Int64) (kv63 : PM → Int32 → Nat → Nat → Int32 → PM) (p : PM) (v1 : Int32) : PM :=
  let x1 : Nat := (F18 p (p.1 2 1 6))
  let x2 : Nat := (F19 p (p.1 2 1 6))
  let p3 : PM := pJ p 2 1 7 (F208 p (cl 0) (-(p.2.1 0 x2 4)))
  let p4 : PM := pI p3 2 1 8 (cn 0)
  let p5 : PM := pJ p4 0 x2 4 ((p4.2.1 0 x2 4) + (p4.2.1 2 1 7))
  kv63 p5 v1 x1 x2 (cn 0)
noncomputable def v2_cover (p : PM) (v1 : Int32) : PM := bv2_cover v2_memberAt v2_lowerOf v14_max_f86c9 (v2_cover_63 FU) p v1
noncomputable def bg2_cover (F18 : PM → Int32 → Nat) (G18 : PM → Int32 → Prop) (F19 : PM → Int32 → Nat) (G19 : PM → Int32 → Prop) (F208 : PM → Int64 → Int64 → Int64) (G208 : PM → Int64 → Int64 → Prop) (kg63 : PM → Int32 → Nat → Nat → Int32 → Prop) (p : PM) (v1 : Int32) : Prop :=
  (G18 p (p.1 2 1 6)) ∧ (
  let x1 : Nat := (F18 p (p.1 2 1 6))
  (G19 p (p.1 2 1 6)) ∧ (
  let x2 : Nat := (F19 p (p.1 2 1 6))
  (¬ x2 = 0) ∧ (
  (G208 p (cl 0) (-(p.2.1 0 x2 4))) ∧ (
  let p3 : PM := pJ p 2 1 7 (F208 p (cl 0) (-(p.2.1 0 x2 4)))
  let p4 : PM := pI p3 2 1 8 (cn 0)
  (¬ x2 = 0) ∧ (
  (¬ x2 = 0) ∧ (
  let p5 : PM := pJ p4 0 x2 4 ((p4.2.1 0 x2 4) + (p4.2.1 2 1 7))
  kg63 p5 v1 x1 x2 (cn 0)))))))
noncomputable def g2_cover (p : PM) (v1 : Int32) : Prop := bg2_cover v2_memberAt g2_memberAt v2_lowerOf g2_lowerOf v14_max_f86c9 g14_max_f86c9 (g2_cover_63 FU) p v1
def R39 : List Row := [(0, .aload_n 0, 1, 0, (0, 0, 0, 0, 0, 0)), (1, .aload_n 0, 1, 0, (0, 0, 0, 0, 0, 0)), (2, .getfield 42, 3, 0, (2, 6, 0, 1, 0, 0)), (5, .invokevirtual 51, 3, 0, (0, 2, 0, 0, 1, 0)), (8, .astore_n 2, 1, 0, (0, 0, 0, 0, 0, 0)), (9, .aload_n 0, 1, 0, (0, 0, 0, 0, 0, 0)), (10, .aload_n 0, 1, 0, (0, 0, 0, 0, 0, 0)), (11, .getfield 42, 3, 0, (2, 6, 0, 1, 0, 0)), (14, .invokevirtual 118, 3, 0, (1, 2, 0, 0, 1, 0)), (17, .astore_n 3, 1, 0, (0, 0, 0, 0, 0, 0)), (18, .aload_n 0, 1, 0, (0, 0, 0, 0, 0, 0)), (19, .lconst 0, 1, 0, (0, 0, 0, 0, 0, 0)), (20, .aload_n 3, 1, 0, (0, 0, 0, 0, 0, 0)), (21, .getfield 121, 3, 0, (0, 4, 2, 0, 0, 0)), (24, .lneg, 1, 0, (0, 0, 0, 0, 0, 0)), (25, .invokestatic 93, 3, 0, (2, 2, 0, 0, 0, 0)), (28, .putfield 163, 3, 0, (2, 7, 2, 1, 0, 0)), (31, .aload_n 0, 1, 0, (0, 0, 0, 0, 0, 0)), (32, .iconst 0, 1, 0, (0, 0, 0, 0, 0, 0)), (33, .putfield 156, 3, 0, (2, 8, 0, 1, 0, 0)), (36, .aload_n 3, 1, 0, (0, 0, 0, 0, 0, 0)), (37, .dup, 1, 0, (0, 0, 0, 0, 0, 0)), (38, .getfield 121, 3, 0, (0, 4, 2, 0, 0, 0)), (41, .aload_n 0, 1, 0, (0, 0, 0, 0, 0, 0)), (42, .getfield 163, 3, 0, (2, 7, 2, 1, 0, 0)), (45, .ladd, 1, 0, (0, 0, 0, 0, 0, 0)), (46, .putfield 121, 3, 0, (0, 4, 2, 0, 0, 0)), (49, .aload_n 0, 1, 0, (0, 0, 0, 0, 0, 0)), (50, .getfield 11, 3, 0, (2, 2, 22, 2, 1, 0)), (53, .astore 4, 2, 0, (0, 0, 0, 0, 0, 0)), (55, .aload 4, 2, 0, (0, 0, 0, 0, 0, 0)), (57, .arraylength, 1, 0, (19, 4, 0, 0, 0, 4)), (58, .istore 5, 2, 0, (0, 0, 0, 0, 0, 0)), (60, .iconst 0, 1, 0, (0, 0, 0, 0, 0, 0)), (61, .istore 6, 2, 0, (0, 0, 0, 0, 0, 0)), (63, .iload 6, 2, 1, (0, 0, 0, 0, 0, 0)), (65, .iload 5, 2, 0, (0, 0, 0, 0, 0, 0)), (67, .if_icmp .ge 26, 3, 0, (0, 0, 0, 0, 0, 0)), (70, .aload 4, 2, 0, (0, 0, 0, 0, 0, 0)), (72, .iload 6, 2, 0, (0, 0, 0, 0, 0, 0)), (74, .aaload, 1, 0, (19, 4, 0, 1, 1, 0)), (75, .astore 7, 2, 0, (0, 0, 0, 0, 0, 0)), (77, .aload 7, 2, 0, (0, 0, 0, 0, 0, 0)), (79, .aload 7, 2, 0, (0, 0, 0, 0, 0, 0)), (81, .getfield 73, 3, 0, (9, 2, 0, 1, 0, 0)), (84, .putfield 166, 3, 0, (9, 6, 0, 1, 0, 0)), (87, .iinc 6 1, 3, 0, (0, 0, 0, 0, 0, 1)), (90, .goto (-27), 3, 0, (0, 0, 0, 0, 0, 0)), (93, .aload_n 2, 1, 0, (0, 0, 0, 0, 0, 0)), (94, .dup, 1, 0, (0, 0, 0, 0, 0, 0)), (95, .getfield 66, 3, 0, (9, 0, 0, 0, 0, 0)), (98, .aload_n 0, 1, 0, (0, 0, 0, 0, 0, 0)), (99, .iconst 1, 1, 0, (0, 0, 0, 0, 0, 1)), (100, .aload_n 2, 1, 0, (0, 0, 0, 0, 0, 0)), (101, .getfield 66, 3, 0, (9, 0, 0, 0, 0, 0)), (104, .i2l, 1, 0, (0, 0, 0, 0, 0, 0)), (105, .invokevirtual 169, 3, 0, (3, 3, 0, 0, 1, 0)), (108, .l2i, 1, 0, (0, 0, 0, 0, 0, 0)), (109, .isub, 1, 0, (0, 0, 0, 0, 0, 0)), (110, .putfield 66, 3, 0, (9, 0, 0, 0, 0, 0)), (113, .aload_n 3, 1, 0, (0, 0, 0, 0, 0, 0)), (114, .dup, 1, 0, (0, 0, 0, 0, 0, 0)), (115, .getfield 121, 3, 0, (0, 4, 2, 0, 0, 0)), (118, .aload_n 0, 1, 0, (0, 0, 0, 0, 0, 0)), (119, .aload_n 2, 1, 0, (0, 0, 0, 0, 0, 0)), (120, .invokevirtual 173, 3, 0, (4, 2, 0, 0, 1, 0)), (123, .ladd, 1, 0, (0, 0, 0, 0, 0, 0)), (124, .putfield 121, 3, 0, (0, 4, 2, 0, 0, 0)), (127, .aload_n 2, 1, 0, (0, 0, 0, 0, 0, 0)), (128, .dup, 1, 0, (0, 0, 0, 0, 0, 0)), (129, .getfield 73, 3, 0, (9, 2, 0, 0, 0, 0)), (132, .aload_n 0, 1, 0, (0, 0, 0, 0, 0, 0)), (133, .iconst 3, 1, 0, (0, 0, 0, 0, 0, 3)), (134, .aload_n 2, 1, 0, (0, 0, 0, 0, 0, 0)), (135, .getfield 73, 3, 0, (9, 2, 0, 0, 0, 0)), (138, .i2l, 1, 0, (0, 0, 0, 0, 0, 0)), (139, .invokevirtual 169, 3, 0, (3, 3, 0, 0, 1, 0)), (142, .l2i, 1, 0, (0, 0, 0, 0, 0, 0)), (143, .isub, 1, 0, (0, 0, 0, 0, 0, 0)), (144, .putfield 73, 3, 0, (9, 2, 0, 0, 0, 0)), (147, .aload_n 0, 1, 0, (0, 0, 0, 0, 0, 0)), (148, .dup, 1, 0, (0, 0, 0, 0, 0, 0)), (149, .getfield 38, 3, 0, (2, 5, 0, 1, 0, 0)), (152, .aload_n 0, 1, 0, (0, 0, 0, 0, 0, 0)), (153, .iconst 4, 1, 0, (0, 0, 0, 0, 0, 4)), (154, .aload_n 0, 1, 0, (0, 0, 0, 0, 0, 0)), (155, .getfield 38, 3, 0, (2, 5, 0, 1, 0, 0)), (158, .i2l, 1, 0, (0, 0, 0, 0, 0, 0)), (159, .invokevirtual 169, 3, 0, (3, 3, 0, 0, 1, 0)), (162, .l2i, 1, 0, (0, 0, 0, 0, 0, 0)), (163, .isub, 1, 0, (0, 0, 0, 0, 0, 0)), (164, .putfield 38, 3, 0, (2, 5, 0, 1, 0, 0)), (167, .iconst 5, 1, 0, (0, 0, 0, 0, 0, 5)), (168, .istore 4, 2, 0, (0, 0, 0, 0, 0, 0)), (170, .iload 4, 2, 2, (0, 0, 0, 0, 0, 0)), (172, .bipush 7, 2, 0, (0, 0, 0, 0, 0, 7)), (174, .if_icmp .gt 16, 3, 0, (0, 0, 0, 0, 0, 0)), (177, .aload_n 0, 1, 0, (0, 0, 0, 0, 0, 0)), (178, .iload 4, 2, 0, (0, 0, 0, 0, 0, 0)), (180, .iload_n 1, 1, 0, (0, 0, 0, 0, 0, 0)), (181, .invokevirtual 177, 3, 0, (6, 3, 0, 0, 1, 0)), (184, .iinc 4 1, 3, 0, (0, 0, 0, 0, 0, 1)), (187, .goto (-17), 3, 0, (0, 0, 0, 0, 0, 0)), (190, .aload_n 0, 1, 0, (0, 0, 0, 0, 0, 0)), (191, .getfield 26, 3, 0, (2, 1, 10, 2, 1, 0)), (194, .bipush 8, 2, 0, (0, 0, 0, 0, 0, 8)), (196, .invokevirtual 45, 3, 0, (5, 2, 0, 0, 1, 0)), (199, .dup, 1, 0, (0, 0, 0, 0, 0, 0)), (200, .getfield 121, 3, 0, (0, 4, 2, 0, 0, 0)), (203, .aload_n 0, 1, 0, (0, 0, 0, 0, 0, 0)), (204, .bipush 8, 2, 0, (0, 0, 0, 0, 0, 8)), (206, .aload_n 0, 1, 0, (0, 0, 0, 0, 0, 0)), (207, .getfield 163, 3, 0, (2, 7, 2, 1, 0, 0)), (210, .invokevirtual 169, 3, 0, (3, 3, 0, 0, 1, 0)), (213, .lsub, 1, 0, (0, 0, 0, 0, 0, 0)), (214, .putfield 121, 3, 0, (0, 4, 2, 0, 0, 0)), (217, .return_, 1, 0, (0, 0, 0, 0, 0, 0))]
set_option maxRecDepth 100000 in
theorem rk39 : R39.all (rok 0 39 0 [(18, [5, 0]), (19, [5, 0]), (208, [1, 1]), (40, [5, 0, 1]), (41, [5, 12]), (104, [10, 0]), (43, [5, 0, 0])]) = true := by decide +kernel
set_option maxRecDepth 100000 in
theorem tab39 {F18 : PM → Int32 → Nat} {G18 : PM → Int32 → Prop} {F19 : PM → Int32 → Nat} {G19 : PM → Int32 → Prop} {F208 : PM → Int64 → Int64 → Int64} {G208 : PM → Int64 → Int64 → Prop} {F40 : PM → Int32 → Int64 → Int64 × PM} {G40 : PM → Int32 → Int64 → Prop} {F41 : PM → Nat → Int64 × PM} {G41 : PM → Nat → Prop} {F104 : PM → Int32 → Nat} {G104 : PM → Int32 → Prop} {F43 : PM → Int32 → Int32 → PM} {G43 : PM → Int32 → Int32 → Prop} : TabOK 0 39 0 [CC18 F18 G18, CC19 F19 G19, CC208 F208 G208, CC40 F40 G40, CC41 F41 G41, CC104 F104 G104, CC43 F43 G43] R39 := tab_ok (K := K39) rfl rfl (fun h => d39 h) rk39 (by decide +kernel)
set_option maxRecDepth 100000 in
theorem pc39 : cutpc [63, 170] R39 = true := by decide +kernel
set_option maxRecDepth 100000 in
theorem r2_cover_170 (F18 : PM → Int32 → Nat) (G18 : PM → Int32 → Prop) (o18 : CalOK 0 (CC18 F18 G18)) (F19 : PM → Int32 → Nat) (G19 : PM → Int32 → Prop) (o19 : CalOK 0 (CC19 F19 G19)) (F208 : PM → Int64 → Int64 → Int64) (G208 : PM → Int64 → Int64 → Prop) (o208 : CalOK 0 (CC208 F208 G208)) (F40 : PM → Int32 → Int64 → Int64 × PM) (G40 : PM → Int32 → Int64 → Prop) (o40 : CalOK 0 (CC40 F40 G40)) (F41 : PM → Nat → Int64 × PM) (G41 : PM → Nat → Prop) (o41 : CalOK 0 (CC41 F41 G41)) (F104 : PM → Int32 → Nat) (G104 : PM → Int32 → Prop) (o104 : CalOK 0 (CC104 F104 G104)) (F43 : PM → Int32 → Int32 → PM) (G43 : PM → Int32 → Int32 → Prop) (o43 : CalOK 0 (CC43 F43 G43)) (kv170 : PM → Int32 → Int32 → PM) (kg170 : PM → Int32 → Int32 → Prop) (hk170 : ∀ (p : PM) (v1 : Int32) (v4 : Int32) (d2 d3 d5 d6 d7 : ZV), Gr 0 p → kg170 p v1 v4 → ZJ 0 39 170 [zR 2 1, zI v1, d2, d3, zI v4, d5, d6, d7] [] p (hwV (kv170 p v1 v4))) : ∀ (p : PM) (v1 : Int32) (v4 : Int32) (d2 d3 d5 d6 d7 : ZV), Gr 0 p → bg2_cover_170 F40 G40 F43 G43 F104 G104 kg170 p v1 v4 → ZJ 0 39 170 [zR 2 1, zI v1, d2, d3, zI v4, d5, d6, d7] [] p (hwV (bv2_cover_170 F40 F43 F104 kv170 p v1 v4)) := by
  intro p v1 v4 d2 d3 d5 d6 d7 hg H
  exact rwV (n := 3000) (q := 170) (la := [zR 2 1, zI v1, d2, d3, zI v4, d5, d6, d7]) (sa := []) (ks := [fun _ _ s => s, fun la sa s => kv170 s (ai la 1) (ai la 4)]) (gs := [fun _ _ _ => False, fun la sa s => zsw (tc2 la [(102, 1), (0, 0), (2, 0), (2, 0), (0, 0), (2, 0), (2, 0), (2, 0)] && tc2 sa []) False (kg170 s (ai la 1) (ai la 4))]) (fcons o18 (fcons o19 (fcons o208 (fcons o40 (fcons o41 (fcons o104 (fcons o43 (fnil)))))))) tab39 pc39 ⟨fun _ _ _ _ H => H.elim, fun la sa s hg H => zcut H fun H => hk170 s (ai la 1) (ai la 4) (zld la 2) (zld la 3) (zld la 5) (zld la 6) (zld la 7) hg H, trivial⟩ hg H
theorem t2_cover_170 : ∀ (n : Nat), ∀ (p : PM) (v1 : Int32) (v4 : Int32) (d2 d3 d5 d6 d7 : ZV), Gr 0 p → g2_cover_170 n p v1 v4 → ZJ 0 39 170 [zR 2 1, zI v1, d2, d3, zI v4, d5, d6, d7] [] p (hwV (v2_cover_170 n p v1 v4)) := by
  intro n
  induction n with
  | zero =>
    intro p v1 v4 d2 d3 d5 d6 d7 hg H
    exact H.elim
  | succ n ih => exact r2_cover_170 v2_memberAt g2_memberAt ok18 v2_lowerOf g2_lowerOf ok19 v14_max_f86c9 g14_max_f86c9 ok208 v2_give g2_give ok40 v2_sellUnits g2_sellUnits ok41 v7_accountAt g7_accountAt ok104 v2_shareLayer g2_shareLayer ok43 (v2_cover_170 n) (g2_cover_170 n) ih
set_option maxRecDepth 100000 in
theorem r2_cover_63 (F18 : PM → Int32 → Nat) (G18 : PM → Int32 → Prop) (o18 : CalOK 0 (CC18 F18 G18)) (F19 : PM → Int32 → Nat) (G19 : PM → Int32 → Prop) (o19 : CalOK 0 (CC19 F19 G19)) (F208 : PM → Int64 → Int64 → Int64) (G208 : PM → Int64 → Int64 → Prop) (o208 : CalOK 0 (CC208 F208 G208)) (F40 : PM → Int32 → Int64 → Int64 × PM) (G40 : PM → Int32 → Int64 → Prop) (o40 : CalOK 0 (CC40 F40 G40)) (F41 : PM → Nat → Int64 × PM) (G41 : PM → Nat → Prop) (o41 : CalOK 0 (CC41 F41 G41)) (F104 : PM → Int32 → Nat) (G104 : PM → Int32 → Prop) (o104 : CalOK 0 (CC104 F104 G104)) (F43 : PM → Int32 → Int32 → PM) (G43 : PM → Int32 → Int32 → Prop) (o43 : CalOK 0 (CC43 F43 G43)) (kv63 : PM → Int32 → Nat → Nat → Int32 → PM) (kg63 : PM → Int32 → Nat → Nat → Int32 → Prop) (hk63 : ∀ (p : PM) (v1 : Int32) (v2 : Nat) (v3 : Nat) (v6 : Int32) (d7 : ZV), Gr 0 p → kg63 p v1 v2 v3 v6 → ZJ 0 39 63 [zR 2 1, zI v1, zR 9 v2, zR 0 v3, zR 19 1, zC 4, zI v6, d7] [] p (hwV (kv63 p v1 v2 v3 v6))) (kv170 : PM → Int32 → Int32 → PM) (kg170 : PM → Int32 → Int32 → Prop) (hk170 : ∀ (p : PM) (v1 : Int32) (v4 : Int32) (d2 d3 d5 d6 d7 : ZV), Gr 0 p → kg170 p v1 v4 → ZJ 0 39 170 [zR 2 1, zI v1, d2, d3, zI v4, d5, d6, d7] [] p (hwV (kv170 p v1 v4))) : ∀ (p : PM) (v1 : Int32) (v2 : Nat) (v3 : Nat) (v6 : Int32) (d7 : ZV), Gr 0 p → bg2_cover_63 F40 G40 F41 G41 kg63 kg170 p v1 v2 v3 v6 → ZJ 0 39 63 [zR 2 1, zI v1, zR 9 v2, zR 0 v3, zR 19 1, zC 4, zI v6, d7] [] p (hwV (bv2_cover_63 F40 F41 kv63 kv170 p v1 v2 v3 v6)) := by
  intro p v1 v2 v3 v6 d7 hg H
  exact rwV (n := 3000) (q := 63) (la := [zR 2 1, zI v1, zR 9 v2, zR 0 v3, zR 19 1, zC 4, zI v6, d7]) (sa := []) (ks := [fun la sa s => kv63 s (ai la 1) (ar la 2) (ar la 3) (ai la 6), fun la sa s => kv170 s (ai la 1) (ai la 4)]) (gs := [fun la sa s => zsw (tc2 la [(102, 1), (0, 0), (13, 0), (4, 0), (119, 1), (3, 4), (0, 0), (2, 0)] && tc2 sa []) False (kg63 s (ai la 1) (ar la 2) (ar la 3) (ai la 6)), fun la sa s => zsw (tc2 la [(102, 1), (0, 0), (2, 0), (2, 0), (0, 0), (2, 0), (2, 0), (2, 0)] && tc2 sa []) False (kg170 s (ai la 1) (ai la 4))]) (fcons o18 (fcons o19 (fcons o208 (fcons o40 (fcons o41 (fcons o104 (fcons o43 (fnil)))))))) tab39 pc39 ⟨fun la sa s hg H => zcut H fun H => hk63 s (ai la 1) (ar la 2) (ar la 3) (ai la 6) (zld la 7) hg H, fun la sa s hg H => zcut H fun H => hk170 s (ai la 1) (ai la 4) (zld la 2) (zld la 3) (zld la 5) (zld la 6) (zld la 7) hg H, trivial⟩ hg H
theorem t2_cover_63 : ∀ (n : Nat), ∀ (p : PM) (v1 : Int32) (v2 : Nat) (v3 : Nat) (v6 : Int32) (d7 : ZV), Gr 0 p → g2_cover_63 n p v1 v2 v3 v6 → ZJ 0 39 63 [zR 2 1, zI v1, zR 9 v2, zR 0 v3, zR 19 1, zC 4, zI v6, d7] [] p (hwV (v2_cover_63 n p v1 v2 v3 v6)) := by
  intro n
  induction n with
  | zero =>
    intro p v1 v2 v3 v6 d7 hg H
    exact H.elim
  | succ n ih => exact r2_cover_63 v2_memberAt g2_memberAt ok18 v2_lowerOf g2_lowerOf ok19 v14_max_f86c9 g14_max_f86c9 ok208 v2_give g2_give ok40 v2_sellUnits g2_sellUnits ok41 v7_accountAt g7_accountAt ok104 v2_shareLayer g2_shareLayer ok43 (v2_cover_63 n) (g2_cover_63 n) ih (v2_cover_170 FU) (g2_cover_170 FU) (t2_cover_170 FU)
set_option maxRecDepth 100000 in
theorem r2_cover (F18 : PM → Int32 → Nat) (G18 : PM → Int32 → Prop) (o18 : CalOK 0 (CC18 F18 G18)) (F19 : PM → Int32 → Nat) (G19 : PM → Int32 → Prop) (o19 : CalOK 0 (CC19 F19 G19)) (F208 : PM → Int64 → Int64 → Int64) (G208 : PM → Int64 → Int64 → Prop) (o208 : CalOK 0 (CC208 F208 G208)) (F40 : PM → Int32 → Int64 → Int64 × PM) (G40 : PM → Int32 → Int64 → Prop) (o40 : CalOK 0 (CC40 F40 G40)) (F41 : PM → Nat → Int64 × PM) (G41 : PM → Nat → Prop) (o41 : CalOK 0 (CC41 F41 G41)) (F104 : PM → Int32 → Nat) (G104 : PM → Int32 → Prop) (o104 : CalOK 0 (CC104 F104 G104)) (F43 : PM → Int32 → Int32 → PM) (G43 : PM → Int32 → Int32 → Prop) (o43 : CalOK 0 (CC43 F43 G43)) (kv63 : PM → Int32 → Nat → Nat → Int32 → PM) (kg63 : PM → Int32 → Nat → Nat → Int32 → Prop) (hk63 : ∀ (p : PM) (v1 : Int32) (v2 : Nat) (v3 : Nat) (v6 : Int32) (d7 : ZV), Gr 0 p → kg63 p v1 v2 v3 v6 → ZJ 0 39 63 [zR 2 1, zI v1, zR 9 v2, zR 0 v3, zR 19 1, zC 4, zI v6, d7] [] p (hwV (kv63 p v1 v2 v3 v6))) : ∀ (p : PM) (v1 : Int32), Gr 0 p → bg2_cover F18 G18 F19 G19 F208 G208 kg63 p v1 → ZJ 0 39 0 [zR 2 1, zI v1, zJ, zJ, zJ, zJ, zJ, zJ] [] p (hwV (bv2_cover F18 F19 F208 kv63 p v1)) := by
  intro p v1  hg H
  exact rwV (n := 3000) (q := 0) (la := [zR 2 1, zI v1, zJ, zJ, zJ, zJ, zJ, zJ]) (sa := []) (ks := [fun la sa s => kv63 s (ai la 1) (ar la 2) (ar la 3) (ai la 6), fun _ _ s => s]) (gs := [fun la sa s => zsw (tc2 la [(102, 1), (0, 0), (13, 0), (4, 0), (119, 1), (3, 4), (0, 0), (2, 0)] && tc2 sa []) False (kg63 s (ai la 1) (ar la 2) (ar la 3) (ai la 6)), fun _ _ _ => False]) (fcons o18 (fcons o19 (fcons o208 (fcons o40 (fcons o41 (fcons o104 (fcons o43 (fnil)))))))) tab39 pc39 ⟨fun la sa s hg H => zcut H fun H => hk63 s (ai la 1) (ar la 2) (ar la 3) (ai la 6) (zld la 7) hg H, fun _ _ _ _ H => H.elim, trivial⟩ hg H
theorem t2_cover : ∀ (p : PM) (v1 : Int32), Gr 0 p → g2_cover p v1 → ZJ 0 39 0 [zR 2 1, zI v1, zJ, zJ, zJ, zJ, zJ, zJ] [] p (hwV (v2_cover p v1)) := r2_cover v2_memberAt g2_memberAt ok18 v2_lowerOf g2_lowerOf ok19 v14_max_f86c9 g14_max_f86c9 ok208 v2_give g2_give ok40 v2_sellUnits g2_sellUnits ok41 v7_accountAt g7_accountAt ok104 v2_shareLayer g2_shareLayer ok43 (v2_cover_63 FU) (g2_cover_63 FU) (t2_cover_63 FU)
def CC39 (F : PM → Int32 → PM) (G : PM → Int32 → Prop) : Cal := (39, [5, 0], 0, false, fun as p => (zJ, (F p (ai as 1))), fun as p => zsw (tc2 as [(102, 1), (0, 0)]) False (G p (ai as 1)))
set_option maxRecDepth 100000 in
theorem okr39 (F : PM → Int32 → PM) (G : PM → Int32 → Prop) (h : ∀ (p : PM) (v1 : Int32), Gr 0 p → G p v1 → ZJ 0 39 0 [zR 2 1, zI v1, zJ, zJ, zJ, zJ, zJ, zJ] [] p (hwV (F p v1))) : CalOK 0 (CC39 F G) := cal_ok (m := 8) (by unfold mL; rw [mX_39]) (fun as p hg H => h p (ai as 1) hg H)
theorem ok39 : CalOK 0 (CC39 v2_cover g2_cover) := okr39 v2_cover g2_cover t2_cover
noncomputable def bv2_closePortfolio_37 (F139 : PM → Nat → PM) (kv37 : PM → Int32 → Int32 × PM) (p : PM) (v4 : Int32) : Int32 × PM :=
  if v4 < (cn 4) then (
    let p2 : PM := F139 p ((v4).toNatClampNeg + 1)
    kv37 p2 (v4 + (cn 1)))
  else (
    let p1 : PM := pI p 2 1 6 (cn (-100000))
    ((p1.1 2 1 8), p1))
noncomputable def v2_closePortfolio_37 (n : Nat) : PM → Int32 → Int32 × PM := Nat.rec (motive := fun _ => PM → Int32 → Int32 × PM) (fun p _ => (0, p)) (fun _ ih => bv2_closePortfolio_37 v9_forgetBid ih) n
theorem ev2_closePortfolio_37 (n : Nat) (p : PM) (v4 : Int32) : v2_closePortfolio_37 (n + 1) p v4 = bv2_closePortfolio_37 v9_forgetBid (v2_closePortfolio_37 n) p v4 := rfl
noncomputable def bg2_closePortfolio_37 (F139 : PM → Nat → PM) (G139 : PM → Nat → Prop) (kg37 : PM → Int32 → Prop) (p : PM) (v4 : Int32) : Prop :=
  if v4 < (cn 4) then (
    (inb v4 4) ∧ (
    (G139 p ((v4).toNatClampNeg + 1)) ∧ (
    let p2 : PM := F139 p ((v4).toNatClampNeg + 1)
    kg37 p2 (v4 + (cn 1)))))
  else (
    let p1 : PM := pI p 2 1 6 (cn (-100000))
    True)
noncomputable def g2_closePortfolio_37 (n : Nat) : PM → Int32 → Prop := Nat.rec (motive := fun _ => PM → Int32 → Prop) (fun _ _ => False) (fun _ ih => bg2_closePortfolio_37 v9_forgetBid g9_forgetBid ih) n
theorem eg2_closePortfolio_37 (n : Nat) (p : PM) (v4 : Int32) : g2_closePortfolio_37 (n + 1) p v4 = bg2_closePortfolio_37 v9_forgetBid g9_forgetBid (g2_closePortfolio_37 n) p v4 := rfl
noncomputable def bv2_closePortfolio (F36 : PM → Int32) (F38 : PM → Int32 → PM) (F39 : PM → Int32 → PM) (kv37 : PM → Int32 → Int32 × PM) (p : PM) : Int32 × PM :=
  if (p.1 2 1 6) = (cn (-100000)) then (
    ((cn 0), p))
  else (
    let p1 : PM := F38 p (F36 p)
    let p2 : PM := F39 p1 (F36 p)
    kv37 p2 (cn 0))
noncomputable def v2_closePortfolio (p : PM) : Int32 × PM := bv2_closePortfolio v2_highestBidder v2_handOver v2_cover (v2_closePortfolio_37 FU) p
noncomputable def bg2_closePortfolio (F36 : PM → Int32) (G36 : PM → Prop) (F38 : PM → Int32 → PM) (G38 : PM → Int32 → Prop) (F39 : PM → Int32 → PM) (G39 : PM → Int32 → Prop) (kg37 : PM → Int32 → Prop) (p : PM) : Prop :=
  if (p.1 2 1 6) = (cn (-100000)) then (
    True)
  else (
    (G36 p) ∧ (
    (G38 p (F36 p)) ∧ (
    let p1 : PM := F38 p (F36 p)
    (G39 p1 (F36 p)) ∧ (
    let p2 : PM := F39 p1 (F36 p)
    kg37 p2 (cn 0)))))
noncomputable def g2_closePortfolio (p : PM) : Prop := bg2_closePortfolio v2_highestBidder g2_highestBidder v2_handOver g2_handOver v2_cover g2_cover (g2_closePortfolio_37 FU) p
def R37 : List Row := [(0, .aload_n 0, 1, 0, (0, 0, 0, 0, 0, 0)), (1, .getfield 42, 3, 0, (2, 6, 0, 1, 0, 0)), (4, .ldc 41, 2, 0, (0, 0, 0, 0, 0, -100000)), (6, .if_icmp .ne 5, 3, 0, (0, 0, 0, 0, 0, 0)), (9, .iconst 0, 1, 0, (0, 0, 0, 0, 0, 0)), (10, .ireturn, 1, 0, (0, 0, 0, 0, 0, 0)), (11, .aload_n 0, 1, 0, (0, 0, 0, 0, 0, 0)), (12, .invokevirtual 142, 3, 0, (0, 1, 0, 0, 1, 0)), (15, .istore_n 1, 1, 0, (0, 0, 0, 0, 0, 0)), (16, .aload_n 0, 1, 0, (0, 0, 0, 0, 0, 0)), (17, .iload_n 1, 1, 0, (0, 0, 0, 0, 0, 0)), (18, .invokevirtual 146, 3, 0, (1, 2, 0, 0, 1, 0)), (21, .aload_n 0, 1, 0, (0, 0, 0, 0, 0, 0)), (22, .iload_n 1, 1, 0, (0, 0, 0, 0, 0, 0)), (23, .invokevirtual 150, 3, 0, (2, 2, 0, 0, 1, 0)), (26, .aload_n 0, 1, 0, (0, 0, 0, 0, 0, 0)), (27, .getfield 11, 3, 0, (2, 2, 22, 2, 1, 0)), (30, .astore_n 2, 1, 0, (0, 0, 0, 0, 0, 0)), (31, .aload_n 2, 1, 0, (0, 0, 0, 0, 0, 0)), (32, .arraylength, 1, 0, (19, 4, 0, 0, 0, 4)), (33, .istore_n 3, 1, 0, (0, 0, 0, 0, 0, 0)), (34, .iconst 0, 1, 0, (0, 0, 0, 0, 0, 0)), (35, .istore 4, 2, 0, (0, 0, 0, 0, 0, 0)), (37, .iload 4, 2, 1, (0, 0, 0, 0, 0, 0)), (39, .iload_n 3, 1, 0, (0, 0, 0, 0, 0, 0)), (40, .if_icmp .ge 20, 3, 0, (0, 0, 0, 0, 0, 0)), (43, .aload_n 2, 1, 0, (0, 0, 0, 0, 0, 0)), (44, .iload 4, 2, 0, (0, 0, 0, 0, 0, 0)), (46, .aaload, 1, 0, (19, 4, 0, 1, 1, 0)), (47, .astore 5, 2, 0, (0, 0, 0, 0, 0, 0)), (49, .aload 5, 2, 0, (0, 0, 0, 0, 0, 0)), (51, .invokevirtual 153, 3, 0, (3, 1, 0, 0, 1, 0)), (54, .iinc 4 1, 3, 0, (0, 0, 0, 0, 0, 1)), (57, .goto (-20), 3, 0, (0, 0, 0, 0, 0, 0)), (60, .aload_n 0, 1, 0, (0, 0, 0, 0, 0, 0)), (61, .ldc 41, 2, 0, (0, 0, 0, 0, 0, -100000)), (63, .putfield 42, 3, 0, (2, 6, 0, 1, 0, 0)), (66, .aload_n 0, 1, 0, (0, 0, 0, 0, 0, 0)), (67, .getfield 156, 3, 0, (2, 8, 0, 1, 0, 0)), (70, .ireturn, 1, 0, (0, 0, 0, 0, 0, 0))]
set_option maxRecDepth 100000 in
theorem rk37 : R37.all (rok 0 37 1 [(36, [5]), (38, [5, 0]), (39, [5, 0]), (139, [12])]) = true := by decide +kernel
set_option maxRecDepth 100000 in
theorem tab37 {F36 : PM → Int32} {G36 : PM → Prop} {F38 : PM → Int32 → PM} {G38 : PM → Int32 → Prop} {F39 : PM → Int32 → PM} {G39 : PM → Int32 → Prop} {F139 : PM → Nat → PM} {G139 : PM → Nat → Prop} : TabOK 0 37 1 [CC36 F36 G36, CC38 F38 G38, CC39 F39 G39, CC139 F139 G139] R37 := tab_ok (K := K37) rfl rfl (fun h => d37 h) rk37 (by decide +kernel)
set_option maxRecDepth 100000 in
theorem pc37 : cutpc [37] R37 = true := by decide +kernel
set_option maxRecDepth 100000 in
theorem r2_closePortfolio_37 (F36 : PM → Int32) (G36 : PM → Prop) (o36 : CalOK 0 (CC36 F36 G36)) (F38 : PM → Int32 → PM) (G38 : PM → Int32 → Prop) (o38 : CalOK 0 (CC38 F38 G38)) (F39 : PM → Int32 → PM) (G39 : PM → Int32 → Prop) (o39 : CalOK 0 (CC39 F39 G39)) (F139 : PM → Nat → PM) (G139 : PM → Nat → Prop) (o139 : CalOK 0 (CC139 F139 G139)) (kv37 : PM → Int32 → Int32 × PM) (kg37 : PM → Int32 → Prop) (hk37 : ∀ (p : PM) (v4 : Int32) (d1 d5 : ZV), Gr 0 p → kg37 p v4 → ZJ 0 37 37 [zR 2 1, d1, zR 19 1, zC 4, zI v4, d5] [] p (hwI (kv37 p v4))) : ∀ (p : PM) (v4 : Int32) (d1 d5 : ZV), Gr 0 p → bg2_closePortfolio_37 F139 G139 kg37 p v4 → ZJ 0 37 37 [zR 2 1, d1, zR 19 1, zC 4, zI v4, d5] [] p (hwI (bv2_closePortfolio_37 F139 kv37 p v4)) := by
  intro p v4 d1 d5 hg H
  exact rwI (n := 3000) (q := 37) (la := [zR 2 1, d1, zR 19 1, zC 4, zI v4, d5]) (sa := []) (ks := [fun la sa s => kv37 s (ai la 4)]) (gs := [fun la sa s => zsw (tc2 la [(102, 1), (2, 0), (119, 1), (3, 4), (0, 0), (2, 0)] && tc2 sa []) False (kg37 s (ai la 4))]) (fcons o36 (fcons o38 (fcons o39 (fcons o139 (fnil))))) tab37 pc37 ⟨fun la sa s hg H => zcut H fun H => hk37 s (ai la 4) (zld la 1) (zld la 5) hg H, trivial⟩ hg H
theorem t2_closePortfolio_37 : ∀ (n : Nat), ∀ (p : PM) (v4 : Int32) (d1 d5 : ZV), Gr 0 p → g2_closePortfolio_37 n p v4 → ZJ 0 37 37 [zR 2 1, d1, zR 19 1, zC 4, zI v4, d5] [] p (hwI (v2_closePortfolio_37 n p v4)) := by
  intro n
  induction n with
  | zero =>
    intro p v4 d1 d5 hg H
    exact H.elim
  | succ n ih => exact r2_closePortfolio_37 v2_highestBidder g2_highestBidder ok36 v2_handOver g2_handOver ok38 v2_cover g2_cover ok39 v9_forgetBid g9_forgetBid ok139 (v2_closePortfolio_37 n) (g2_closePortfolio_37 n) ih
set_option maxRecDepth 100000 in
theorem r2_closePortfolio (F36 : PM → Int32) (G36 : PM → Prop) (o36 : CalOK 0 (CC36 F36 G36)) (F38 : PM → Int32 → PM) (G38 : PM → Int32 → Prop) (o38 : CalOK 0 (CC38 F38 G38)) (F39 : PM → Int32 → PM) (G39 : PM → Int32 → Prop) (o39 : CalOK 0 (CC39 F39 G39)) (F139 : PM → Nat → PM) (G139 : PM → Nat → Prop) (o139 : CalOK 0 (CC139 F139 G139)) (kv37 : PM → Int32 → Int32 × PM) (kg37 : PM → Int32 → Prop) (hk37 : ∀ (p : PM) (v4 : Int32) (d1 d5 : ZV), Gr 0 p → kg37 p v4 → ZJ 0 37 37 [zR 2 1, d1, zR 19 1, zC 4, zI v4, d5] [] p (hwI (kv37 p v4))) : ∀ (p : PM), Gr 0 p → bg2_closePortfolio F36 G36 F38 G38 F39 G39 kg37 p → ZJ 0 37 0 [zR 2 1, zJ, zJ, zJ, zJ, zJ] [] p (hwI (bv2_closePortfolio F36 F38 F39 kv37 p)) := by
  intro p   hg H
  exact rwI (n := 3000) (q := 0) (la := [zR 2 1, zJ, zJ, zJ, zJ, zJ]) (sa := []) (ks := [fun la sa s => kv37 s (ai la 4)]) (gs := [fun la sa s => zsw (tc2 la [(102, 1), (2, 0), (119, 1), (3, 4), (0, 0), (2, 0)] && tc2 sa []) False (kg37 s (ai la 4))]) (fcons o36 (fcons o38 (fcons o39 (fcons o139 (fnil))))) tab37 pc37 ⟨fun la sa s hg H => zcut H fun H => hk37 s (ai la 4) (zld la 1) (zld la 5) hg H, trivial⟩ hg H
theorem t2_closePortfolio : ∀ (p : PM), Gr 0 p → g2_closePortfolio p → ZJ 0 37 0 [zR 2 1, zJ, zJ, zJ, zJ, zJ] [] p (hwI (v2_closePortfolio p)) := r2_closePortfolio v2_highestBidder g2_highestBidder ok36 v2_handOver g2_handOver ok38 v2_cover g2_cover ok39 v9_forgetBid g9_forgetBid ok139 (v2_closePortfolio_37 FU) (g2_closePortfolio_37 FU) (t2_closePortfolio_37 FU)
def CC37 (F : PM → Int32 × PM) (G : PM → Prop) : Cal := (37, [5], 1, false, fun as p => (zI (F p ).1, (F p ).2), fun as p => zsw (tc2 as [(102, 1)]) False (G p ))
set_option maxRecDepth 100000 in
theorem okr37 (F : PM → Int32 × PM) (G : PM → Prop) (h : ∀ (p : PM), Gr 0 p → G p  → ZJ 0 37 0 [zR 2 1, zJ, zJ, zJ, zJ, zJ] [] p (hwI (F p ))) : CalOK 0 (CC37 F G) := cal_ok (m := 6) (by unfold mL; rw [mX_37]) (fun as p hg H => h p  hg H)
theorem ok37 : CalOK 0 (CC37 v2_closePortfolio g2_closePortfolio) := okr37 v2_closePortfolio g2_closePortfolio t2_closePortfolio
noncomputable def bv10_standsIn (p : PM) (v0 : Nat) (v1 : Nat) (v2 : Int32) : Int32 :=
  if (p.1 10 v0 2) = (cn 1) then (
    if (p.2.2 10 v0 4) = v1 then (
      if (p.1 10 v0 5) = v2 then (
        (cn 1))
      else (
        (cn 0)))
    else (
      (cn 0)))
  else (
    (cn 0))
noncomputable def v10_standsIn (p : PM) (v0 : Nat) (v1 : Nat) (v2 : Int32) : Int32 := bv10_standsIn p v0 v1 v2
noncomputable def bg10_standsIn (p : PM) (v0 : Nat) (v1 : Nat) (v2 : Int32) : Prop :=
  (¬ v0 = 0) ∧ (
  if (p.1 10 v0 2) = (cn 1) then (
    (¬ v0 = 0) ∧ (
    if (p.2.2 10 v0 4) = v1 then (
      (¬ v0 = 0) ∧ (
      if (p.1 10 v0 5) = v2 then (
        True)
      else (
        True)))
    else (
      True)))
  else (
    True))
noncomputable def g10_standsIn (p : PM) (v0 : Nat) (v1 : Nat) (v2 : Int32) : Prop := bg10_standsIn p v0 v1 v2
def R142 : List Row := [(0, .aload_n 0, 1, 0, (0, 0, 0, 0, 0, 0)), (1, .getfield 26, 3, 0, (10, 2, 0, 0, 0, 0)), (4, .iconst 1, 1, 0, (0, 0, 0, 0, 0, 1)), (5, .if_icmp .ne 23, 3, 0, (0, 0, 0, 0, 0, 0)), (8, .aload_n 0, 1, 0, (0, 0, 0, 0, 0, 0)), (9, .getfield 15, 3, 0, (10, 4, 4, 0, 0, 0)), (12, .aload_n 1, 1, 0, (0, 0, 0, 0, 0, 0)), (13, .if_acmp .ne 15, 3, 0, (0, 0, 0, 0, 0, 0)), (16, .aload_n 0, 1, 0, (0, 0, 0, 0, 0, 0)), (17, .getfield 29, 3, 0, (10, 5, 1, 0, 0, 0)), (20, .iload_n 2, 1, 0, (0, 0, 0, 0, 0, 0)), (21, .if_icmp .ne 7, 3, 0, (0, 0, 0, 0, 0, 0)), (24, .iconst 1, 1, 0, (0, 0, 0, 0, 0, 1)), (25, .goto 4, 3, 0, (0, 0, 0, 0, 0, 0)), (28, .iconst 0, 1, 0, (0, 0, 0, 0, 0, 0)), (29, .ireturn, 1, 0, (1, 0, 0, 0, 0, 0))]
set_option maxRecDepth 100000 in
theorem rk142 : R142.all (rok 0 142 1 []) = true := by decide +kernel
set_option maxRecDepth 100000 in
theorem tab142 : TabOK 0 142 1 [] R142 := tab_ok (K := K142) rfl rfl (fun h => d142 h) rk142 (by decide +kernel)
set_option maxRecDepth 100000 in
theorem pc142 : cutpc [] R142 = true := by decide +kernel
set_option maxRecDepth 100000 in
theorem r10_standsIn (p : PM) (hg : Gr 0 p) : ∀ (v0 : Nat) (v1 : Nat) (v2 : Int32), bg10_standsIn p v0 v1 v2 → ZJ 0 142 0 [zR 10 v0, zR 1 v1, zI v2] [] p (hoI p (bv10_standsIn p v0 v1 v2)) := by
  intro v0 v1 v2  H
  exact roI (n := 3000) (q := 0) (la := [zR 10 v0, zR 1 v1, zI v2]) (sa := []) (ks := []) (gs := []) (fnil) tab142 pc142 trivial hg H
theorem t10_standsIn (p : PM) (hg : Gr 0 p) : ∀ (v0 : Nat) (v1 : Nat) (v2 : Int32), g10_standsIn p v0 v1 v2 → ZJ 0 142 0 [zR 10 v0, zR 1 v1, zI v2] [] p (hoI p (v10_standsIn p v0 v1 v2)) := r10_standsIn p hg
def CC142 (F : PM → Nat → Nat → Int32 → Int32) (G : PM → Nat → Nat → Int32 → Prop) : Cal := (142, [13, 4, 0], 1, true, fun as p => (zI (F p (ar as 0) (ar as 1) (ai as 2)), p), fun as p => zsw (tc2 as [(14, 0), (5, 0), (0, 0)]) False (G p (ar as 0) (ar as 1) (ai as 2)))
set_option maxRecDepth 100000 in
theorem okr142 (F : PM → Nat → Nat → Int32 → Int32) (G : PM → Nat → Nat → Int32 → Prop) (h : ∀ (p : PM) (v0 : Nat) (v1 : Nat) (v2 : Int32), Gr 0 p → G p v0 v1 v2 → ZJ 0 142 0 [zR 10 v0, zR 1 v1, zI v2] [] p (hoI p (F p v0 v1 v2))) : CalOK 0 (CC142 F G) := cal_ok (m := 3) (by unfold mL; rw [mX_142]) (fun as p hg H => h p (ar as 0) (ar as 1) (ai as 2) hg H)
theorem ok142 : CalOK 0 (CC142 v10_standsIn g10_standsIn) := okr142 v10_standsIn g10_standsIn (fun p v0 v1 v2 hg H => t10_standsIn p hg v0 v1 v2 H)
noncomputable def bv10_isBetter (p : PM) (v0 : Nat) (v1 : Int32) (v2 : Int32) : Int32 :=
  if (p.1 10 v0 5) = 0 then (
    if v1 < v2 then (
      (cn 1))
    else (
      (cn 0)))
  else (
    if v2 < v1 then (
      (cn 1))
    else (
      (cn 0)))
noncomputable def v10_isBetter (p : PM) (v0 : Nat) (v1 : Int32) (v2 : Int32) : Int32 := bv10_isBetter p v0 v1 v2
noncomputable def bg10_isBetter (p : PM) (v0 : Nat) (v1 : Int32) (v2 : Int32) : Prop :=
  (¬ v0 = 0) ∧ (
  if (p.1 10 v0 5) = 0 then (
    if v1 < v2 then (
      True)
    else (
      True))
  else (
    if v2 < v1 then (
      True)
    else (
      True)))
noncomputable def g10_isBetter (p : PM) (v0 : Nat) (v1 : Int32) (v2 : Int32) : Prop := bg10_isBetter p v0 v1 v2
def R144 : List Row := [(0, .aload_n 0, 1, 0, (0, 0, 0, 0, 0, 0)), (1, .getfield 29, 3, 0, (10, 5, 1, 0, 0, 0)), (4, .ifCond .eq 16, 3, 0, (0, 0, 0, 0, 0, 0)), (7, .iload_n 1, 1, 0, (0, 0, 0, 0, 0, 0)), (8, .iload_n 2, 1, 0, (0, 0, 0, 0, 0, 0)), (9, .if_icmp .le 7, 3, 0, (0, 0, 0, 0, 0, 0)), (12, .iconst 1, 1, 0, (0, 0, 0, 0, 0, 1)), (13, .goto 17, 3, 0, (0, 0, 0, 0, 0, 0)), (16, .iconst 0, 1, 0, (0, 0, 0, 0, 0, 0)), (17, .goto 13, 3, 0, (0, 0, 0, 0, 0, 0)), (20, .iload_n 1, 1, 0, (0, 0, 0, 0, 0, 0)), (21, .iload_n 2, 1, 0, (0, 0, 0, 0, 0, 0)), (22, .if_icmp .ge 7, 3, 0, (0, 0, 0, 0, 0, 0)), (25, .iconst 1, 1, 0, (0, 0, 0, 0, 0, 1)), (26, .goto 4, 3, 0, (0, 0, 0, 0, 0, 0)), (29, .iconst 0, 1, 0, (0, 0, 0, 0, 0, 0)), (30, .ireturn, 1, 0, (1, 0, 0, 0, 0, 0))]
set_option maxRecDepth 100000 in
theorem rk144 : R144.all (rok 0 144 1 []) = true := by decide +kernel
set_option maxRecDepth 100000 in
theorem tab144 : TabOK 0 144 1 [] R144 := tab_ok (K := K144) rfl rfl (fun h => d144 h) rk144 (by decide +kernel)
set_option maxRecDepth 100000 in
theorem pc144 : cutpc [] R144 = true := by decide +kernel
set_option maxRecDepth 100000 in
theorem r10_isBetter (p : PM) (hg : Gr 0 p) : ∀ (v0 : Nat) (v1 : Int32) (v2 : Int32), bg10_isBetter p v0 v1 v2 → ZJ 0 144 0 [zR 10 v0, zI v1, zI v2] [] p (hoI p (bv10_isBetter p v0 v1 v2)) := by
  intro v0 v1 v2  H
  exact roI (n := 3000) (q := 0) (la := [zR 10 v0, zI v1, zI v2]) (sa := []) (ks := []) (gs := []) (fnil) tab144 pc144 trivial hg H
theorem t10_isBetter (p : PM) (hg : Gr 0 p) : ∀ (v0 : Nat) (v1 : Int32) (v2 : Int32), g10_isBetter p v0 v1 v2 → ZJ 0 144 0 [zR 10 v0, zI v1, zI v2] [] p (hoI p (v10_isBetter p v0 v1 v2)) := r10_isBetter p hg
def CC144 (F : PM → Nat → Int32 → Int32 → Int32) (G : PM → Nat → Int32 → Int32 → Prop) : Cal := (144, [13, 0, 0], 1, true, fun as p => (zI (F p (ar as 0) (ai as 1) (ai as 2)), p), fun as p => zsw (tc2 as [(14, 0), (0, 0), (0, 0)]) False (G p (ar as 0) (ai as 1) (ai as 2)))
set_option maxRecDepth 100000 in
theorem okr144 (F : PM → Nat → Int32 → Int32 → Int32) (G : PM → Nat → Int32 → Int32 → Prop) (h : ∀ (p : PM) (v0 : Nat) (v1 : Int32) (v2 : Int32), Gr 0 p → G p v0 v1 v2 → ZJ 0 144 0 [zR 10 v0, zI v1, zI v2] [] p (hoI p (F p v0 v1 v2))) : CalOK 0 (CC144 F G) := cal_ok (m := 3) (by unfold mL; rw [mX_144]) (fun as p hg H => h p (ar as 0) (ai as 1) (ai as 2) hg H)
theorem ok144 : CalOK 0 (CC144 v10_isBetter g10_isBetter) := okr144 v10_isBetter g10_isBetter (fun p v0 v1 v2 hg H => t10_isBetter p hg v0 v1 v2 H)
noncomputable def bv6_bestPrice_18 (p : PM) (F142 : PM → Nat → Nat → Int32 → Int32) (F144 : PM → Nat → Int32 → Int32 → Int32) (kv18 : Nat → Int32 → Int32 → Int32 → Int32 → Int32) (v1 : Nat) (v2 : Int32) (v3 : Int32) (v4 : Int32) (v7 : Int32) : Int32 :=
  if v7 < (cn 40) then (
    if (F142 p ((v7).toNatClampNeg + 1) v1 v2) = 0 then (
      kv18 v1 v2 v3 v4 (v7 + (cn 1)))
    else (
      if (p.1 10 ((v7).toNatClampNeg + 1) 7) = (cn (-100000)) then (
        kv18 v1 v2 v3 v4 (v7 + (cn 1)))
      else (
        if v3 = 0 then (
          if (p.1 10 ((v7).toNatClampNeg + 1) 1) = (cn 1) then (
            kv18 v1 v2 v3 v4 (v7 + (cn 1)))
          else (
            if v4 = (cn (-100000)) then (
              let x3 : Int32 := (p.1 10 ((v7).toNatClampNeg + 1) 7)
              kv18 v1 v2 v3 x3 (v7 + (cn 1)))
            else (
              if (F144 p ((v7).toNatClampNeg + 1) (p.1 10 ((v7).toNatClampNeg + 1) 7) v4) = 0 then (
                kv18 v1 v2 v3 v4 (v7 + (cn 1)))
              else (
                let x4 : Int32 := (p.1 10 ((v7).toNatClampNeg + 1) 7)
                kv18 v1 v2 v3 x4 (v7 + (cn 1))))))
        else (
          if v4 = (cn (-100000)) then (
            let x1 : Int32 := (p.1 10 ((v7).toNatClampNeg + 1) 7)
            kv18 v1 v2 v3 x1 (v7 + (cn 1)))
          else (
            if (F144 p ((v7).toNatClampNeg + 1) (p.1 10 ((v7).toNatClampNeg + 1) 7) v4) = 0 then (
              kv18 v1 v2 v3 v4 (v7 + (cn 1)))
            else (
              let x2 : Int32 := (p.1 10 ((v7).toNatClampNeg + 1) 7)
              kv18 v1 v2 v3 x2 (v7 + (cn 1))))))))
  else (
    v4)
noncomputable def v6_bestPrice_18 (p : PM) (n : Nat) : Nat → Int32 → Int32 → Int32 → Int32 → Int32 := Nat.rec (motive := fun _ => Nat → Int32 → Int32 → Int32 → Int32 → Int32) (fun _ _ _ _ _ => 0) (fun _ ih => bv6_bestPrice_18 p v10_standsIn v10_isBetter ih) n
theorem ev6_bestPrice_18 (p : PM) (n : Nat) (v1 : Nat) (v2 : Int32) (v3 : Int32) (v4 : Int32) (v7 : Int32) : v6_bestPrice_18 p (n + 1) v1 v2 v3 v4 v7 = bv6_bestPrice_18 p v10_standsIn v10_isBetter (v6_bestPrice_18 p n) v1 v2 v3 v4 v7 := rfl
noncomputable def bg6_bestPrice_18 (p : PM) (F142 : PM → Nat → Nat → Int32 → Int32) (G142 : PM → Nat → Nat → Int32 → Prop) (F144 : PM → Nat → Int32 → Int32 → Int32) (G144 : PM → Nat → Int32 → Int32 → Prop) (kg18 : Nat → Int32 → Int32 → Int32 → Int32 → Prop) (v1 : Nat) (v2 : Int32) (v3 : Int32) (v4 : Int32) (v7 : Int32) : Prop :=
  if v7 < (cn 40) then (
    (inb v7 40) ∧ (
    (G142 p ((v7).toNatClampNeg + 1) v1 v2) ∧ (
    if (F142 p ((v7).toNatClampNeg + 1) v1 v2) = 0 then (
      kg18 v1 v2 v3 v4 (v7 + (cn 1)))
    else (
      if (p.1 10 ((v7).toNatClampNeg + 1) 7) = (cn (-100000)) then (
        kg18 v1 v2 v3 v4 (v7 + (cn 1)))
      else (
        if v3 = 0 then (
          if (p.1 10 ((v7).toNatClampNeg + 1) 1) = (cn 1) then (
            kg18 v1 v2 v3 v4 (v7 + (cn 1)))
          else (
            if v4 = (cn (-100000)) then (
              let x3 : Int32 := (p.1 10 ((v7).toNatClampNeg + 1) 7)
              kg18 v1 v2 v3 x3 (v7 + (cn 1)))
            else (
              (G144 p ((v7).toNatClampNeg + 1) (p.1 10 ((v7).toNatClampNeg + 1) 7) v4) ∧ (
              if (F144 p ((v7).toNatClampNeg + 1) (p.1 10 ((v7).toNatClampNeg + 1) 7) v4) = 0 then (
                kg18 v1 v2 v3 v4 (v7 + (cn 1)))
              else (
                let x4 : Int32 := (p.1 10 ((v7).toNatClampNeg + 1) 7)
                kg18 v1 v2 v3 x4 (v7 + (cn 1)))))))
        else (
          if v4 = (cn (-100000)) then (
            let x1 : Int32 := (p.1 10 ((v7).toNatClampNeg + 1) 7)
            kg18 v1 v2 v3 x1 (v7 + (cn 1)))
          else (
            (G144 p ((v7).toNatClampNeg + 1) (p.1 10 ((v7).toNatClampNeg + 1) 7) v4) ∧ (
            if (F144 p ((v7).toNatClampNeg + 1) (p.1 10 ((v7).toNatClampNeg + 1) 7) v4) = 0 then (
              kg18 v1 v2 v3 v4 (v7 + (cn 1)))
            else (
              let x2 : Int32 := (p.1 10 ((v7).toNatClampNeg + 1) 7)
              kg18 v1 v2 v3 x2 (v7 + (cn 1)))))))))))
  else (
    True)
noncomputable def g6_bestPrice_18 (p : PM) (n : Nat) : Nat → Int32 → Int32 → Int32 → Int32 → Prop := Nat.rec (motive := fun _ => Nat → Int32 → Int32 → Int32 → Int32 → Prop) (fun _ _ _ _ _ => False) (fun _ ih => bg6_bestPrice_18 p v10_standsIn g10_standsIn v10_isBetter g10_isBetter ih) n
theorem eg6_bestPrice_18 (p : PM) (n : Nat) (v1 : Nat) (v2 : Int32) (v3 : Int32) (v4 : Int32) (v7 : Int32) : g6_bestPrice_18 p (n + 1) v1 v2 v3 v4 v7 = bg6_bestPrice_18 p v10_standsIn g10_standsIn v10_isBetter g10_isBetter (g6_bestPrice_18 p n) v1 v2 v3 v4 v7 := rfl
noncomputable def bv6_bestPrice (p : PM) (kv18 : Nat → Int32 → Int32 → Int32 → Int32 → Int32) (v1 : Nat) (v2 : Int32) (v3 : Int32) : Int32 :=
  kv18 v1 v2 v3 (cn (-100000)) (cn 0)
noncomputable def v6_bestPrice (p : PM) (v1 : Nat) (v2 : Int32) (v3 : Int32) : Int32 := bv6_bestPrice p (v6_bestPrice_18 p FU) v1 v2 v3
noncomputable def bg6_bestPrice (p : PM) (kg18 : Nat → Int32 → Int32 → Int32 → Int32 → Prop) (v1 : Nat) (v2 : Int32) (v3 : Int32) : Prop :=
  kg18 v1 v2 v3 (cn (-100000)) (cn 0)
noncomputable def g6_bestPrice (p : PM) (v1 : Nat) (v2 : Int32) (v3 : Int32) : Prop := bg6_bestPrice p (g6_bestPrice_18 p FU) v1 v2 v3
def R80 : List Row := [(0, .ldc 71, 2, 0, (0, 0, 0, 0, 0, -100000)), (2, .istore 4, 2, 0, (0, 0, 0, 0, 0, 0)), (4, .aload_n 0, 1, 0, (0, 0, 0, 0, 0, 0)), (5, .getfield 11, 3, 0, (6, 1, 23, 2, 1, 0)), (8, .astore 5, 2, 0, (0, 0, 0, 0, 0, 0)), (10, .aload 5, 2, 0, (0, 0, 0, 0, 0, 0)), (12, .arraylength, 1, 0, (20, 40, 0, 0, 0, 40)), (13, .istore 6, 2, 0, (0, 0, 0, 0, 0, 0)), (15, .iconst 0, 1, 0, (0, 0, 0, 0, 0, 0)), (16, .istore 7, 2, 0, (0, 0, 0, 0, 0, 0)), (18, .iload 7, 2, 1, (0, 0, 0, 0, 0, 0)), (20, .iload 6, 2, 0, (0, 0, 0, 0, 0, 0)), (22, .if_icmp .ge 78, 3, 0, (0, 0, 0, 0, 0, 0)), (25, .aload 5, 2, 0, (0, 0, 0, 0, 0, 0)), (27, .iload 7, 2, 0, (0, 0, 0, 0, 0, 0)), (29, .aaload, 1, 0, (20, 40, 0, 1, 1, 0)), (30, .astore 8, 2, 0, (0, 0, 0, 0, 0, 0)), (32, .aload 8, 2, 0, (0, 0, 0, 0, 0, 0)), (34, .aload_n 1, 1, 0, (0, 0, 0, 0, 0, 0)), (35, .iload_n 2, 1, 0, (0, 0, 0, 0, 0, 0)), (36, .invokevirtual 72, 3, 0, (0, 3, 0, 0, 1, 0)), (39, .ifCond .eq 55, 3, 0, (0, 0, 0, 0, 0, 0)), (42, .aload 8, 2, 0, (0, 0, 0, 0, 0, 0)), (44, .getfield 55, 3, 0, (10, 7, 0, 1, 0, 0)), (47, .ldc 71, 2, 0, (0, 0, 0, 0, 0, -100000)), (49, .if_icmp .eq 45, 3, 0, (0, 0, 0, 0, 0, 0)), (52, .iload_n 3, 1, 0, (0, 0, 0, 0, 0, 0)), (53, .ifCond .ne 12, 3, 0, (0, 0, 0, 0, 0, 0)), (56, .aload 8, 2, 0, (0, 0, 0, 0, 0, 0)), (58, .getfield 76, 3, 0, (10, 1, 0, 1, 0, 0)), (61, .iconst 1, 1, 0, (0, 0, 0, 0, 0, 1)), (62, .if_icmp .eq 32, 3, 0, (0, 0, 0, 0, 0, 0)), (65, .iload 4, 2, 0, (0, 0, 0, 0, 0, 0)), (67, .ldc 71, 2, 0, (0, 0, 0, 0, 0, -100000)), (69, .if_icmp .eq 18, 3, 0, (0, 0, 0, 0, 0, 0)), (72, .aload 8, 2, 0, (0, 0, 0, 0, 0, 0)), (74, .aload 8, 2, 0, (0, 0, 0, 0, 0, 0)), (76, .getfield 55, 3, 0, (10, 7, 0, 1, 0, 0)), (79, .iload 4, 2, 0, (0, 0, 0, 0, 0, 0)), (81, .invokevirtual 79, 3, 0, (1, 3, 0, 0, 1, 0)), (84, .ifCond .eq 10, 3, 0, (0, 0, 0, 0, 0, 0)), (87, .aload 8, 2, 0, (0, 0, 0, 0, 0, 0)), (89, .getfield 55, 3, 0, (10, 7, 0, 1, 0, 0)), (92, .istore 4, 2, 0, (0, 0, 0, 0, 0, 0)), (94, .iinc 7 1, 3, 0, (0, 0, 0, 0, 0, 1)), (97, .goto (-79), 3, 0, (0, 0, 0, 0, 0, 0)), (100, .iload 4, 2, 0, (0, 0, 0, 0, 0, 0)), (102, .ireturn, 1, 0, (0, 0, 0, 0, 0, 0))]
set_option maxRecDepth 100000 in
theorem rk80 : R80.all (rok 0 80 1 [(142, [13, 4, 0]), (144, [13, 0, 0])]) = true := by decide +kernel
set_option maxRecDepth 100000 in
theorem tab80 {F142 : PM → Nat → Nat → Int32 → Int32} {G142 : PM → Nat → Nat → Int32 → Prop} {F144 : PM → Nat → Int32 → Int32 → Int32} {G144 : PM → Nat → Int32 → Int32 → Prop} : TabOK 0 80 1 [CC142 F142 G142, CC144 F144 G144] R80 := tab_ok (K := K80) rfl rfl (fun h => d80 h) rk80 (by decide +kernel)
set_option maxRecDepth 100000 in
theorem pc80 : cutpc [18] R80 = true := by decide +kernel
set_option maxRecDepth 100000 in
theorem r6_bestPrice_18 (p : PM) (hg : Gr 0 p) (F142 : PM → Nat → Nat → Int32 → Int32) (G142 : PM → Nat → Nat → Int32 → Prop) (o142 : CalOK 0 (CC142 F142 G142)) (F144 : PM → Nat → Int32 → Int32 → Int32) (G144 : PM → Nat → Int32 → Int32 → Prop) (o144 : CalOK 0 (CC144 F144 G144)) (kv18 : Nat → Int32 → Int32 → Int32 → Int32 → Int32) (kg18 : Nat → Int32 → Int32 → Int32 → Int32 → Prop) (hk18 : ∀ (v1 : Nat) (v2 : Int32) (v3 : Int32) (v4 : Int32) (v7 : Int32) (d0 d8 : ZV), kg18 v1 v2 v3 v4 v7 → ZJ 0 80 18 [d0, zR 1 v1, zI v2, zI v3, zI v4, zR 20 1, zC 40, zI v7, d8] [] p (hoI p (kv18 v1 v2 v3 v4 v7))) : ∀ (v1 : Nat) (v2 : Int32) (v3 : Int32) (v4 : Int32) (v7 : Int32) (d0 d8 : ZV), bg6_bestPrice_18 p F142 G142 F144 G144 kg18 v1 v2 v3 v4 v7 → ZJ 0 80 18 [d0, zR 1 v1, zI v2, zI v3, zI v4, zR 20 1, zC 40, zI v7, d8] [] p (hoI p (bv6_bestPrice_18 p F142 F144 kv18 v1 v2 v3 v4 v7)) := by
  intro v1 v2 v3 v4 v7 d0 d8 H
  exact roI (n := 3000) (q := 18) (la := [d0, zR 1 v1, zI v2, zI v3, zI v4, zR 20 1, zC 40, zI v7, d8]) (sa := []) (ks := [fun la sa _ => kv18 (ar la 1) (ai la 2) (ai la 3) (ai la 4) (ai la 7)]) (gs := [fun la sa _ => zsw (tc2 la [(2, 0), (5, 0), (0, 0), (0, 0), (0, 0), (120, 1), (3, 40), (0, 0), (2, 0)] && tc2 sa []) False (kg18 (ar la 1) (ai la 2) (ai la 3) (ai la 4) (ai la 7))]) (fcons o142 (fcons o144 (fnil))) tab80 pc80 ⟨fun la sa s hg H => zcut H fun H => hk18 (ar la 1) (ai la 2) (ai la 3) (ai la 4) (ai la 7) (zld la 0) (zld la 8) H, trivial⟩ hg H
theorem t6_bestPrice_18 (p : PM) (hg : Gr 0 p) : ∀ (n : Nat), ∀ (v1 : Nat) (v2 : Int32) (v3 : Int32) (v4 : Int32) (v7 : Int32) (d0 d8 : ZV), g6_bestPrice_18 p n v1 v2 v3 v4 v7 → ZJ 0 80 18 [d0, zR 1 v1, zI v2, zI v3, zI v4, zR 20 1, zC 40, zI v7, d8] [] p (hoI p (v6_bestPrice_18 p n v1 v2 v3 v4 v7)) := by
  intro n
  induction n with
  | zero =>
    intro v1 v2 v3 v4 v7 d0 d8 H
    exact H.elim
  | succ n ih => exact r6_bestPrice_18 p hg v10_standsIn g10_standsIn ok142 v10_isBetter g10_isBetter ok144 (v6_bestPrice_18 p n) (g6_bestPrice_18 p n) ih
set_option maxRecDepth 100000 in
theorem r6_bestPrice (p : PM) (hg : Gr 0 p) (F142 : PM → Nat → Nat → Int32 → Int32) (G142 : PM → Nat → Nat → Int32 → Prop) (o142 : CalOK 0 (CC142 F142 G142)) (F144 : PM → Nat → Int32 → Int32 → Int32) (G144 : PM → Nat → Int32 → Int32 → Prop) (o144 : CalOK 0 (CC144 F144 G144)) (kv18 : Nat → Int32 → Int32 → Int32 → Int32 → Int32) (kg18 : Nat → Int32 → Int32 → Int32 → Int32 → Prop) (hk18 : ∀ (v1 : Nat) (v2 : Int32) (v3 : Int32) (v4 : Int32) (v7 : Int32) (d0 d8 : ZV), kg18 v1 v2 v3 v4 v7 → ZJ 0 80 18 [d0, zR 1 v1, zI v2, zI v3, zI v4, zR 20 1, zC 40, zI v7, d8] [] p (hoI p (kv18 v1 v2 v3 v4 v7))) : ∀ (v1 : Nat) (v2 : Int32) (v3 : Int32), bg6_bestPrice p kg18 v1 v2 v3 → ZJ 0 80 0 [zR 6 1, zR 1 v1, zI v2, zI v3, zJ, zJ, zJ, zJ, zJ] [] p (hoI p (bv6_bestPrice p kv18 v1 v2 v3)) := by
  intro v1 v2 v3  H
  exact roI (n := 3000) (q := 0) (la := [zR 6 1, zR 1 v1, zI v2, zI v3, zJ, zJ, zJ, zJ, zJ]) (sa := []) (ks := [fun la sa _ => kv18 (ar la 1) (ai la 2) (ai la 3) (ai la 4) (ai la 7)]) (gs := [fun la sa _ => zsw (tc2 la [(2, 0), (5, 0), (0, 0), (0, 0), (0, 0), (120, 1), (3, 40), (0, 0), (2, 0)] && tc2 sa []) False (kg18 (ar la 1) (ai la 2) (ai la 3) (ai la 4) (ai la 7))]) (fcons o142 (fcons o144 (fnil))) tab80 pc80 ⟨fun la sa s hg H => zcut H fun H => hk18 (ar la 1) (ai la 2) (ai la 3) (ai la 4) (ai la 7) (zld la 0) (zld la 8) H, trivial⟩ hg H
theorem t6_bestPrice (p : PM) (hg : Gr 0 p) : ∀ (v1 : Nat) (v2 : Int32) (v3 : Int32), g6_bestPrice p v1 v2 v3 → ZJ 0 80 0 [zR 6 1, zR 1 v1, zI v2, zI v3, zJ, zJ, zJ, zJ, zJ] [] p (hoI p (v6_bestPrice p v1 v2 v3)) := r6_bestPrice p hg v10_standsIn g10_standsIn ok142 v10_isBetter g10_isBetter ok144 (v6_bestPrice_18 p FU) (g6_bestPrice_18 p FU) (t6_bestPrice_18 p hg FU)
def CC80 (F : PM → Nat → Int32 → Int32 → Int32) (G : PM → Nat → Int32 → Int32 → Prop) : Cal := (80, [9, 4, 0, 0], 1, true, fun as p => (zI (F p (ar as 1) (ai as 2) (ai as 3)), p), fun as p => zsw (tc2 as [(106, 1), (5, 0), (0, 0), (0, 0)]) False (G p (ar as 1) (ai as 2) (ai as 3)))
set_option maxRecDepth 100000 in
theorem okr80 (F : PM → Nat → Int32 → Int32 → Int32) (G : PM → Nat → Int32 → Int32 → Prop) (h : ∀ (p : PM) (v1 : Nat) (v2 : Int32) (v3 : Int32), Gr 0 p → G p v1 v2 v3 → ZJ 0 80 0 [zR 6 1, zR 1 v1, zI v2, zI v3, zJ, zJ, zJ, zJ, zJ] [] p (hoI p (F p v1 v2 v3))) : CalOK 0 (CC80 F G) := cal_ok (m := 9) (by unfold mL; rw [mX_80]) (fun as p hg H => h p (ar as 1) (ai as 2) (ai as 3) hg H)
theorem ok80 : CalOK 0 (CC80 v6_bestPrice g6_bestPrice) := okr80 v6_bestPrice g6_bestPrice (fun p v1 v2 v3 hg H => t6_bestPrice p hg v1 v2 v3 H)
noncomputable def bv6_firstOf_25 (p : PM) (F142 : PM → Nat → Nat → Int32 → Int32) (kv25 : Nat → Int32 → Int32 → Nat → Int32 → Nat) (v1 : Nat) (v2 : Int32) (v3 : Int32) (v4 : Nat) (v7 : Int32) : Nat :=
  if v7 < (cn 40) then (
    if (F142 p ((v7).toNatClampNeg + 1) v1 v2) = 0 then (
      kv25 v1 v2 v3 v4 (v7 + (cn 1)))
    else (
      if (p.1 10 ((v7).toNatClampNeg + 1) 7) = v3 then (
        if v3 = (cn (-100000)) then (
          kv25 v1 v2 v3 v4 (v7 + (cn 1)))
        else (
          if (p.1 10 ((v7).toNatClampNeg + 1) 1) = (cn 1) then (
            kv25 v1 v2 v3 v4 (v7 + (cn 1)))
          else (
            if v4 = 0 then (
              kv25 v1 v2 v3 ((v7).toNatClampNeg + 1) (v7 + (cn 1)))
            else (
              if (p.1 10 ((v7).toNatClampNeg + 1) 12) < (p.1 10 v4 12) then (
                kv25 v1 v2 v3 ((v7).toNatClampNeg + 1) (v7 + (cn 1)))
              else (
                kv25 v1 v2 v3 v4 (v7 + (cn 1)))))))
      else (
        kv25 v1 v2 v3 v4 (v7 + (cn 1)))))
  else (
    v4)
noncomputable def v6_firstOf_25 (p : PM) (n : Nat) : Nat → Int32 → Int32 → Nat → Int32 → Nat := Nat.rec (motive := fun _ => Nat → Int32 → Int32 → Nat → Int32 → Nat) (fun _ _ _ _ _ => 0) (fun _ ih => bv6_firstOf_25 p v10_standsIn ih) n
theorem ev6_firstOf_25 (p : PM) (n : Nat) (v1 : Nat) (v2 : Int32) (v3 : Int32) (v4 : Nat) (v7 : Int32) : v6_firstOf_25 p (n + 1) v1 v2 v3 v4 v7 = bv6_firstOf_25 p v10_standsIn (v6_firstOf_25 p n) v1 v2 v3 v4 v7 := rfl
noncomputable def bg6_firstOf_25 (p : PM) (F142 : PM → Nat → Nat → Int32 → Int32) (G142 : PM → Nat → Nat → Int32 → Prop) (kg25 : Nat → Int32 → Int32 → Nat → Int32 → Prop) (v1 : Nat) (v2 : Int32) (v3 : Int32) (v4 : Nat) (v7 : Int32) : Prop :=
  if v7 < (cn 40) then (
    (inb v7 40) ∧ (
    (G142 p ((v7).toNatClampNeg + 1) v1 v2) ∧ (
    if (F142 p ((v7).toNatClampNeg + 1) v1 v2) = 0 then (
      kg25 v1 v2 v3 v4 (v7 + (cn 1)))
    else (
      if (p.1 10 ((v7).toNatClampNeg + 1) 7) = v3 then (
        if v3 = (cn (-100000)) then (
          kg25 v1 v2 v3 v4 (v7 + (cn 1)))
        else (
          if (p.1 10 ((v7).toNatClampNeg + 1) 1) = (cn 1) then (
            kg25 v1 v2 v3 v4 (v7 + (cn 1)))
          else (
            if v4 = 0 then (
              kg25 v1 v2 v3 ((v7).toNatClampNeg + 1) (v7 + (cn 1)))
            else (
              (¬ v4 = 0) ∧ (
              if (p.1 10 ((v7).toNatClampNeg + 1) 12) < (p.1 10 v4 12) then (
                kg25 v1 v2 v3 ((v7).toNatClampNeg + 1) (v7 + (cn 1)))
              else (
                kg25 v1 v2 v3 v4 (v7 + (cn 1))))))))
      else (
        kg25 v1 v2 v3 v4 (v7 + (cn 1)))))))
  else (
    True)
noncomputable def g6_firstOf_25 (p : PM) (n : Nat) : Nat → Int32 → Int32 → Nat → Int32 → Prop := Nat.rec (motive := fun _ => Nat → Int32 → Int32 → Nat → Int32 → Prop) (fun _ _ _ _ _ => False) (fun _ ih => bg6_firstOf_25 p v10_standsIn g10_standsIn ih) n
theorem eg6_firstOf_25 (p : PM) (n : Nat) (v1 : Nat) (v2 : Int32) (v3 : Int32) (v4 : Nat) (v7 : Int32) : g6_firstOf_25 p (n + 1) v1 v2 v3 v4 v7 = bg6_firstOf_25 p v10_standsIn g10_standsIn (g6_firstOf_25 p n) v1 v2 v3 v4 v7 := rfl
noncomputable def bv6_firstOf (p : PM) (F80 : PM → Nat → Int32 → Int32 → Int32) (kv25 : Nat → Int32 → Int32 → Nat → Int32 → Nat) (v1 : Nat) (v2 : Int32) : Nat :=
  let x1 : Int32 := (F80 p v1 v2 (cn 0))
  kv25 v1 v2 x1 0 (cn 0)
noncomputable def v6_firstOf (p : PM) (v1 : Nat) (v2 : Int32) : Nat := bv6_firstOf p v6_bestPrice (v6_firstOf_25 p FU) v1 v2
noncomputable def bg6_firstOf (p : PM) (F80 : PM → Nat → Int32 → Int32 → Int32) (G80 : PM → Nat → Int32 → Int32 → Prop) (kg25 : Nat → Int32 → Int32 → Nat → Int32 → Prop) (v1 : Nat) (v2 : Int32) : Prop :=
  (G80 p v1 v2 (cn 0)) ∧ (
  let x1 : Int32 := (F80 p v1 v2 (cn 0))
  kg25 v1 v2 x1 0 (cn 0))
noncomputable def g6_firstOf (p : PM) (v1 : Nat) (v2 : Int32) : Prop := bg6_firstOf p v6_bestPrice g6_bestPrice (g6_firstOf_25 p FU) v1 v2
def R81 : List Row := [(0, .aload_n 0, 1, 0, (0, 0, 0, 0, 0, 0)), (1, .aload_n 1, 1, 0, (0, 0, 0, 0, 0, 0)), (2, .iload_n 2, 1, 0, (0, 0, 0, 0, 0, 0)), (3, .iconst 0, 1, 0, (0, 0, 0, 0, 0, 0)), (4, .invokevirtual 83, 3, 0, (0, 4, 0, 0, 1, 0)), (7, .istore_n 3, 1, 0, (0, 0, 0, 0, 0, 0)), (8, .aconst_null, 1, 0, (10, 0, 0, 0, 0, 0)), (9, .astore 4, 2, 0, (0, 0, 0, 0, 0, 0)), (11, .aload_n 0, 1, 0, (0, 0, 0, 0, 0, 0)), (12, .getfield 11, 3, 0, (6, 1, 23, 2, 1, 0)), (15, .astore 5, 2, 0, (0, 0, 0, 0, 0, 0)), (17, .aload 5, 2, 0, (0, 0, 0, 0, 0, 0)), (19, .arraylength, 1, 0, (20, 40, 0, 0, 0, 40)), (20, .istore 6, 2, 0, (0, 0, 0, 0, 0, 0)), (22, .iconst 0, 1, 0, (0, 0, 0, 0, 0, 0)), (23, .istore 7, 2, 0, (0, 0, 0, 0, 0, 0)), (25, .iload 7, 2, 1, (0, 0, 0, 0, 0, 0)), (27, .iload 6, 2, 0, (0, 0, 0, 0, 0, 0)), (29, .if_icmp .ge 72, 3, 0, (0, 0, 0, 0, 0, 0)), (32, .aload 5, 2, 0, (0, 0, 0, 0, 0, 0)), (34, .iload 7, 2, 0, (0, 0, 0, 0, 0, 0)), (36, .aaload, 1, 0, (20, 40, 0, 1, 1, 0)), (37, .astore 8, 2, 0, (0, 0, 0, 0, 0, 0)), (39, .aload 8, 2, 0, (0, 0, 0, 0, 0, 0)), (41, .aload_n 1, 1, 0, (0, 0, 0, 0, 0, 0)), (42, .iload_n 2, 1, 0, (0, 0, 0, 0, 0, 0)), (43, .invokevirtual 72, 3, 0, (1, 3, 0, 0, 1, 0)), (46, .ifCond .eq 49, 3, 0, (0, 0, 0, 0, 0, 0)), (49, .aload 8, 2, 0, (0, 0, 0, 0, 0, 0)), (51, .getfield 55, 3, 0, (10, 7, 0, 1, 0, 0)), (54, .iload_n 3, 1, 0, (0, 0, 0, 0, 0, 0)), (55, .if_icmp .ne 40, 3, 0, (0, 0, 0, 0, 0, 0)), (58, .iload_n 3, 1, 0, (0, 0, 0, 0, 0, 0)), (59, .ldc 71, 2, 0, (0, 0, 0, 0, 0, -100000)), (61, .if_icmp .eq 34, 3, 0, (0, 0, 0, 0, 0, 0)), (64, .aload 8, 2, 0, (0, 0, 0, 0, 0, 0)), (66, .getfield 76, 3, 0, (10, 1, 0, 1, 0, 0)), (69, .iconst 1, 1, 0, (0, 0, 0, 0, 0, 1)), (70, .if_icmp .eq 25, 3, 0, (0, 0, 0, 0, 0, 0)), (73, .aload 4, 2, 0, (0, 0, 0, 0, 0, 0)), (75, .ifnull 16, 3, 0, (0, 0, 0, 0, 0, 0)), (78, .aload 8, 2, 0, (0, 0, 0, 0, 0, 0)), (80, .getfield 68, 3, 0, (10, 12, 0, 1, 0, 0)), (83, .aload 4, 2, 0, (0, 0, 0, 0, 0, 0)), (85, .getfield 68, 3, 0, (10, 12, 0, 0, 0, 0)), (88, .if_icmp .ge 7, 3, 0, (0, 0, 0, 0, 0, 0)), (91, .aload 8, 2, 0, (0, 0, 0, 0, 0, 0)), (93, .astore 4, 2, 0, (0, 0, 0, 0, 0, 0)), (95, .iinc 7 1, 3, 0, (0, 0, 0, 0, 0, 1)), (98, .goto (-73), 3, 0, (0, 0, 0, 0, 0, 0)), (101, .aload 4, 2, 0, (0, 0, 0, 0, 0, 0)), (103, .areturn, 1, 0, (10, 0, 0, 0, 0, 0))]
set_option maxRecDepth 100000 in
theorem rk81 : R81.all (rok 0 81 (3 + 10) [(80, [9, 4, 0, 0]), (142, [13, 4, 0])]) = true := by decide +kernel
set_option maxRecDepth 100000 in
theorem tab81 {F80 : PM → Nat → Int32 → Int32 → Int32} {G80 : PM → Nat → Int32 → Int32 → Prop} {F142 : PM → Nat → Nat → Int32 → Int32} {G142 : PM → Nat → Nat → Int32 → Prop} : TabOK 0 81 (3 + 10) [CC80 F80 G80, CC142 F142 G142] R81 := tab_ok (K := K81) rfl rfl (fun h => d81 h) rk81 (by decide +kernel)
set_option maxRecDepth 100000 in
theorem pc81 : cutpc [25] R81 = true := by decide +kernel
set_option maxRecDepth 100000 in
theorem r6_firstOf_25 (p : PM) (hg : Gr 0 p) (F80 : PM → Nat → Int32 → Int32 → Int32) (G80 : PM → Nat → Int32 → Int32 → Prop) (o80 : CalOK 0 (CC80 F80 G80)) (F142 : PM → Nat → Nat → Int32 → Int32) (G142 : PM → Nat → Nat → Int32 → Prop) (o142 : CalOK 0 (CC142 F142 G142)) (kv25 : Nat → Int32 → Int32 → Nat → Int32 → Nat) (kg25 : Nat → Int32 → Int32 → Nat → Int32 → Prop) (hk25 : ∀ (v1 : Nat) (v2 : Int32) (v3 : Int32) (v4 : Nat) (v7 : Int32) (d0 d8 : ZV), kg25 v1 v2 v3 v4 v7 → ZJ 0 81 25 [d0, zR 1 v1, zI v2, zI v3, zR 10 v4, zR 20 1, zC 40, zI v7, d8] [] p (hoR 10 p (kv25 v1 v2 v3 v4 v7))) : ∀ (v1 : Nat) (v2 : Int32) (v3 : Int32) (v4 : Nat) (v7 : Int32) (d0 d8 : ZV), bg6_firstOf_25 p F142 G142 kg25 v1 v2 v3 v4 v7 → ZJ 0 81 25 [d0, zR 1 v1, zI v2, zI v3, zR 10 v4, zR 20 1, zC 40, zI v7, d8] [] p (hoR 10 p (bv6_firstOf_25 p F142 kv25 v1 v2 v3 v4 v7)) := by
  intro v1 v2 v3 v4 v7 d0 d8 H
  exact roR 10 (n := 3000) (q := 25) (la := [d0, zR 1 v1, zI v2, zI v3, zR 10 v4, zR 20 1, zC 40, zI v7, d8]) (sa := []) (ks := [fun la sa _ => kv25 (ar la 1) (ai la 2) (ai la 3) (ar la 4) (ai la 7)]) (gs := [fun la sa _ => zsw (tc2 la [(2, 0), (5, 0), (0, 0), (0, 0), (14, 0), (120, 1), (3, 40), (0, 0), (2, 0)] && tc2 sa []) False (kg25 (ar la 1) (ai la 2) (ai la 3) (ar la 4) (ai la 7))]) (fcons o80 (fcons o142 (fnil))) tab81 pc81 ⟨fun la sa s hg H => zcut H fun H => hk25 (ar la 1) (ai la 2) (ai la 3) (ar la 4) (ai la 7) (zld la 0) (zld la 8) H, trivial⟩ hg H
theorem t6_firstOf_25 (p : PM) (hg : Gr 0 p) : ∀ (n : Nat), ∀ (v1 : Nat) (v2 : Int32) (v3 : Int32) (v4 : Nat) (v7 : Int32) (d0 d8 : ZV), g6_firstOf_25 p n v1 v2 v3 v4 v7 → ZJ 0 81 25 [d0, zR 1 v1, zI v2, zI v3, zR 10 v4, zR 20 1, zC 40, zI v7, d8] [] p (hoR 10 p (v6_firstOf_25 p n v1 v2 v3 v4 v7)) := by
  intro n
  induction n with
  | zero =>
    intro v1 v2 v3 v4 v7 d0 d8 H
    exact H.elim
  | succ n ih => exact r6_firstOf_25 p hg v6_bestPrice g6_bestPrice ok80 v10_standsIn g10_standsIn ok142 (v6_firstOf_25 p n) (g6_firstOf_25 p n) ih
set_option maxRecDepth 100000 in
theorem r6_firstOf (p : PM) (hg : Gr 0 p) (F80 : PM → Nat → Int32 → Int32 → Int32) (G80 : PM → Nat → Int32 → Int32 → Prop) (o80 : CalOK 0 (CC80 F80 G80)) (F142 : PM → Nat → Nat → Int32 → Int32) (G142 : PM → Nat → Nat → Int32 → Prop) (o142 : CalOK 0 (CC142 F142 G142)) (kv25 : Nat → Int32 → Int32 → Nat → Int32 → Nat) (kg25 : Nat → Int32 → Int32 → Nat → Int32 → Prop) (hk25 : ∀ (v1 : Nat) (v2 : Int32) (v3 : Int32) (v4 : Nat) (v7 : Int32) (d0 d8 : ZV), kg25 v1 v2 v3 v4 v7 → ZJ 0 81 25 [d0, zR 1 v1, zI v2, zI v3, zR 10 v4, zR 20 1, zC 40, zI v7, d8] [] p (hoR 10 p (kv25 v1 v2 v3 v4 v7))) : ∀ (v1 : Nat) (v2 : Int32), bg6_firstOf p F80 G80 kg25 v1 v2 → ZJ 0 81 0 [zR 6 1, zR 1 v1, zI v2, zJ, zJ, zJ, zJ, zJ, zJ] [] p (hoR 10 p (bv6_firstOf p F80 kv25 v1 v2)) := by
  intro v1 v2  H
  exact roR 10 (n := 3000) (q := 0) (la := [zR 6 1, zR 1 v1, zI v2, zJ, zJ, zJ, zJ, zJ, zJ]) (sa := []) (ks := [fun la sa _ => kv25 (ar la 1) (ai la 2) (ai la 3) (ar la 4) (ai la 7)]) (gs := [fun la sa _ => zsw (tc2 la [(2, 0), (5, 0), (0, 0), (0, 0), (14, 0), (120, 1), (3, 40), (0, 0), (2, 0)] && tc2 sa []) False (kg25 (ar la 1) (ai la 2) (ai la 3) (ar la 4) (ai la 7))]) (fcons o80 (fcons o142 (fnil))) tab81 pc81 ⟨fun la sa s hg H => zcut H fun H => hk25 (ar la 1) (ai la 2) (ai la 3) (ar la 4) (ai la 7) (zld la 0) (zld la 8) H, trivial⟩ hg H
theorem t6_firstOf (p : PM) (hg : Gr 0 p) : ∀ (v1 : Nat) (v2 : Int32), g6_firstOf p v1 v2 → ZJ 0 81 0 [zR 6 1, zR 1 v1, zI v2, zJ, zJ, zJ, zJ, zJ, zJ] [] p (hoR 10 p (v6_firstOf p v1 v2)) := r6_firstOf p hg v6_bestPrice g6_bestPrice ok80 v10_standsIn g10_standsIn ok142 (v6_firstOf_25 p FU) (g6_firstOf_25 p FU) (t6_firstOf_25 p hg FU)
def CC81 (F : PM → Nat → Int32 → Nat) (G : PM → Nat → Int32 → Prop) : Cal := (81, [9, 4, 0], (3 + 10), true, fun as p => (zR 10 (F p (ar as 1) (ai as 2)), p), fun as p => zsw (tc2 as [(106, 1), (5, 0), (0, 0)]) False (G p (ar as 1) (ai as 2)))
set_option maxRecDepth 100000 in
theorem okr81 (F : PM → Nat → Int32 → Nat) (G : PM → Nat → Int32 → Prop) (h : ∀ (p : PM) (v1 : Nat) (v2 : Int32), Gr 0 p → G p v1 v2 → ZJ 0 81 0 [zR 6 1, zR 1 v1, zI v2, zJ, zJ, zJ, zJ, zJ, zJ] [] p (hoR 10 p (F p v1 v2))) : CalOK 0 (CC81 F G) := cal_ok (m := 9) (by unfold mL; rw [mX_81]) (fun as p hg H => h p (ar as 1) (ai as 2) hg H)
theorem ok81 : CalOK 0 (CC81 v6_firstOf g6_firstOf) := okr81 v6_firstOf g6_firstOf (fun p v1 v2 hg H => t6_firstOf p hg v1 v2 H)
noncomputable def bv3_isBarred (p : PM) (F11 : PM → Nat → Int32 → Int32) (F13 : PM → Nat → Int32 → Int32) (v0 : Nat) (v1 : Int32) (v2 : Nat) (v3 : Nat) : Int32 :=
  if (F11 p v0 v1) = 0 then (
    (cn 1))
  else (
    if (F13 p v0 v1) = 0 then (
      if (p.1 1 v0 11) = 0 then (
        (cn 0))
      else (
        if (p.1 0 (p.2.2 10 v2 3) 1) = (p.1 0 (p.2.2 10 v3 3) 1) then (
          (cn 1))
        else (
          (cn 0))))
    else (
      (cn 1)))
noncomputable def v3_isBarred (p : PM) (v0 : Nat) (v1 : Int32) (v2 : Nat) (v3 : Nat) : Int32 := bv3_isBarred p v1_hasPrice v1_isBeyondBand v0 v1 v2 v3
noncomputable def bg3_isBarred (p : PM) (F11 : PM → Nat → Int32 → Int32) (G11 : PM → Nat → Int32 → Prop) (F13 : PM → Nat → Int32 → Int32) (G13 : PM → Nat → Int32 → Prop) (v0 : Nat) (v1 : Int32) (v2 : Nat) (v3 : Nat) : Prop :=
  (¬ v0 = 0) ∧ (
  (G11 p v0 v1) ∧ (
  if (F11 p v0 v1) = 0 then (
    True)
  else (
    (¬ v0 = 0) ∧ (
    (G13 p v0 v1) ∧ (
    if (F13 p v0 v1) = 0 then (
      (¬ v0 = 0) ∧ (
      if (p.1 1 v0 11) = 0 then (
        True)
      else (
        (¬ v2 = 0) ∧ (
        (¬ (p.2.2 10 v2 3) = 0) ∧ (
        (¬ v3 = 0) ∧ (
        (¬ (p.2.2 10 v3 3) = 0) ∧ (
        if (p.1 0 (p.2.2 10 v2 3) 1) = (p.1 0 (p.2.2 10 v3 3) 1) then (
          True)
        else (
          True))))))))
    else (
      True))))))
noncomputable def g3_isBarred (p : PM) (v0 : Nat) (v1 : Int32) (v2 : Nat) (v3 : Nat) : Prop := bg3_isBarred p v1_hasPrice g1_hasPrice v1_isBeyondBand g1_isBeyondBand v0 v1 v2 v3
def R48 : List Row := [(0, .aload_n 0, 1, 0, (0, 0, 0, 0, 0, 0)), (1, .iload_n 1, 1, 0, (0, 0, 0, 0, 0, 0)), (2, .invokevirtual 66, 3, 0, (0, 2, 0, 0, 2, 0)), (5, .ifCond .eq 35, 3, 0, (0, 0, 0, 0, 0, 0)), (8, .aload_n 0, 1, 0, (0, 0, 0, 0, 0, 0)), (9, .iload_n 1, 1, 0, (0, 0, 0, 0, 0, 0)), (10, .invokevirtual 70, 3, 0, (1, 2, 0, 0, 2, 0)), (13, .ifCond .ne 27, 3, 0, (0, 0, 0, 0, 0, 0)), (16, .aload_n 0, 1, 0, (0, 0, 0, 0, 0, 0)), (17, .getfield 73, 3, 0, (1, 11, 0, 0, 0, 0)), (20, .ifCond .eq 24, 3, 0, (0, 0, 0, 0, 0, 0)), (23, .aload_n 2, 1, 0, (0, 0, 0, 0, 0, 0)), (24, .getfield 76, 3, 0, (10, 3, 3, 0, 0, 0)), (27, .getfield 80, 3, 0, (0, 1, 0, 0, 0, 0)), (30, .aload_n 3, 1, 0, (0, 0, 0, 0, 0, 0)), (31, .getfield 76, 3, 0, (10, 3, 3, 0, 0, 0)), (34, .getfield 80, 3, 0, (0, 1, 0, 0, 0, 0)), (37, .if_icmp .ne 7, 3, 0, (0, 0, 0, 0, 0, 0)), (40, .iconst 1, 1, 0, (0, 0, 0, 0, 0, 1)), (41, .goto 4, 3, 0, (0, 0, 0, 0, 0, 0)), (44, .iconst 0, 1, 0, (0, 0, 0, 0, 0, 0)), (45, .ireturn, 1, 0, (1, 0, 0, 0, 0, 0))]
set_option maxRecDepth 100000 in
theorem rk48 : R48.all (rok 0 48 1 [(11, [4, 0]), (13, [4, 0])]) = true := by decide +kernel
set_option maxRecDepth 100000 in
theorem tab48 {F11 : PM → Nat → Int32 → Int32} {G11 : PM → Nat → Int32 → Prop} {F13 : PM → Nat → Int32 → Int32} {G13 : PM → Nat → Int32 → Prop} : TabOK 0 48 1 [CC11 F11 G11, CC13 F13 G13] R48 := tab_ok (K := K48) rfl rfl (fun h => d48 h) rk48 (by decide +kernel)
set_option maxRecDepth 100000 in
theorem pc48 : cutpc [] R48 = true := by decide +kernel
set_option maxRecDepth 100000 in
theorem r3_isBarred (p : PM) (hg : Gr 0 p) (F11 : PM → Nat → Int32 → Int32) (G11 : PM → Nat → Int32 → Prop) (o11 : CalOK 0 (CC11 F11 G11)) (F13 : PM → Nat → Int32 → Int32) (G13 : PM → Nat → Int32 → Prop) (o13 : CalOK 0 (CC13 F13 G13)) : ∀ (v0 : Nat) (v1 : Int32) (v2 : Nat) (v3 : Nat), bg3_isBarred p F11 G11 F13 G13 v0 v1 v2 v3 → ZJ 0 48 0 [zR 1 v0, zI v1, zR 10 v2, zR 10 v3] [] p (hoI p (bv3_isBarred p F11 F13 v0 v1 v2 v3)) := by
  intro v0 v1 v2 v3  H
  exact roI (n := 3000) (q := 0) (la := [zR 1 v0, zI v1, zR 10 v2, zR 10 v3]) (sa := []) (ks := []) (gs := []) (fcons o11 (fcons o13 (fnil))) tab48 pc48 trivial hg H
theorem t3_isBarred (p : PM) (hg : Gr 0 p) : ∀ (v0 : Nat) (v1 : Int32) (v2 : Nat) (v3 : Nat), g3_isBarred p v0 v1 v2 v3 → ZJ 0 48 0 [zR 1 v0, zI v1, zR 10 v2, zR 10 v3] [] p (hoI p (v3_isBarred p v0 v1 v2 v3)) := r3_isBarred p hg v1_hasPrice g1_hasPrice ok11 v1_isBeyondBand g1_isBeyondBand ok13
def CC48 (F : PM → Nat → Int32 → Nat → Nat → Int32) (G : PM → Nat → Int32 → Nat → Nat → Prop) : Cal := (48, [4, 0, 13, 13], 1, true, fun as p => (zI (F p (ar as 0) (ai as 1) (ar as 2) (ar as 3)), p), fun as p => zsw (tc2 as [(5, 0), (0, 0), (14, 0), (14, 0)]) False (G p (ar as 0) (ai as 1) (ar as 2) (ar as 3)))
set_option maxRecDepth 100000 in
theorem okr48 (F : PM → Nat → Int32 → Nat → Nat → Int32) (G : PM → Nat → Int32 → Nat → Nat → Prop) (h : ∀ (p : PM) (v0 : Nat) (v1 : Int32) (v2 : Nat) (v3 : Nat), Gr 0 p → G p v0 v1 v2 v3 → ZJ 0 48 0 [zR 1 v0, zI v1, zR 10 v2, zR 10 v3] [] p (hoI p (F p v0 v1 v2 v3))) : CalOK 0 (CC48 F G) := cal_ok (m := 4) (by unfold mL; rw [mX_48]) (fun as p hg H => h p (ar as 0) (ai as 1) (ar as 2) (ar as 3) hg H)
theorem ok48 : CalOK 0 (CC48 v3_isBarred g3_isBarred) := okr48 v3_isBarred g3_isBarred (fun p v0 v1 v2 v3 hg H => t3_isBarred p hg v0 v1 v2 v3 H)
noncomputable def bv14_min_7cf53 (p : PM) (v0 : Int32) (v1 : Int32) : Int32 :=
  if v1 < v0 then (
    v1)
  else (
    v0)
noncomputable def v14_min_7cf53 (p : PM) (v0 : Int32) (v1 : Int32) : Int32 := bv14_min_7cf53 p v0 v1
noncomputable def bg14_min_7cf53 (p : PM) (v0 : Int32) (v1 : Int32) : Prop :=
  if v1 < v0 then (
    True)
  else (
    True)
noncomputable def g14_min_7cf53 (p : PM) (v0 : Int32) (v1 : Int32) : Prop := bg14_min_7cf53 p v0 v1
def R209 : List Row := [(0, .iload_n 0, 1, 0, (0, 0, 0, 0, 0, 0)), (1, .iload_n 1, 1, 0, (0, 0, 0, 0, 0, 0)), (2, .if_icmp .gt 7, 3, 0, (0, 0, 0, 0, 0, 0)), (5, .iload_n 0, 1, 0, (0, 0, 0, 0, 0, 0)), (6, .goto 4, 3, 0, (0, 0, 0, 0, 0, 0)), (9, .iload_n 1, 1, 0, (0, 0, 0, 0, 0, 0)), (10, .ireturn, 1, 0, (0, 0, 0, 0, 0, 0))]
set_option maxRecDepth 100000 in
theorem rk209 : R209.all (rok 0 209 1 []) = true := by decide +kernel
set_option maxRecDepth 100000 in
theorem tab209 : TabOK 0 209 1 [] R209 := tab_ok (K := K209) rfl rfl (fun h => d209 h) rk209 (by decide +kernel)
set_option maxRecDepth 100000 in
theorem pc209 : cutpc [] R209 = true := by decide +kernel
set_option maxRecDepth 100000 in
theorem r14_min_7cf53 (p : PM) (hg : Gr 0 p) : ∀ (v0 : Int32) (v1 : Int32), bg14_min_7cf53 p v0 v1 → ZJ 0 209 0 [zI v0, zI v1] [] p (hoI p (bv14_min_7cf53 p v0 v1)) := by
  intro v0 v1  H
  exact roI (n := 3000) (q := 0) (la := [zI v0, zI v1]) (sa := []) (ks := []) (gs := []) (fnil) tab209 pc209 trivial hg H
theorem t14_min_7cf53 (p : PM) (hg : Gr 0 p) : ∀ (v0 : Int32) (v1 : Int32), g14_min_7cf53 p v0 v1 → ZJ 0 209 0 [zI v0, zI v1] [] p (hoI p (v14_min_7cf53 p v0 v1)) := r14_min_7cf53 p hg
def CC209 (F : PM → Int32 → Int32 → Int32) (G : PM → Int32 → Int32 → Prop) : Cal := (209, [0, 0], 1, true, fun as p => (zI (F p (ai as 0) (ai as 1)), p), fun as p => zsw (tc2 as [(0, 0), (0, 0)]) False (G p (ai as 0) (ai as 1)))
set_option maxRecDepth 100000 in
theorem okr209 (F : PM → Int32 → Int32 → Int32) (G : PM → Int32 → Int32 → Prop) (h : ∀ (p : PM) (v0 : Int32) (v1 : Int32), Gr 0 p → G p v0 v1 → ZJ 0 209 0 [zI v0, zI v1] [] p (hoI p (F p v0 v1))) : CalOK 0 (CC209 F G) := cal_ok (m := 2) (by unfold mL; rw [mX_209]) (fun as p hg H => h p (ai as 0) (ai as 1) hg H)
theorem ok209 : CalOK 0 (CC209 v14_min_7cf53 g14_min_7cf53) := okr209 v14_min_7cf53 g14_min_7cf53 (fun p v0 v1 hg H => t14_min_7cf53 p hg v0 v1 H)
noncomputable def bv4_fill (p : PM) (v0 : Nat) (v1 : Nat) (v2 : Nat) (v3 : Nat) (v4 : Int32) (v5 : Int32) : PM :=
  let p1 : PM := pR p 4 v0 0 v1
  let p2 : PM := pR p1 4 v0 1 v2
  let p3 : PM := pR p2 4 v0 2 v3
  let p4 : PM := pI p3 4 v0 3 v4
  let p5 : PM := pI p4 4 v0 4 v5
  let p6 : PM := pI p5 4 v0 5 (cn 0)
  let p7 : PM := pI p6 4 v0 6 (cn 1)
  p7
noncomputable def v4_fill (p : PM) (v0 : Nat) (v1 : Nat) (v2 : Nat) (v3 : Nat) (v4 : Int32) (v5 : Int32) : PM := bv4_fill p v0 v1 v2 v3 v4 v5
noncomputable def bg4_fill (p : PM) (v0 : Nat) (v1 : Nat) (v2 : Nat) (v3 : Nat) (v4 : Int32) (v5 : Int32) : Prop :=
  (¬ v0 = 0) ∧ (
  let p1 : PM := pR p 4 v0 0 v1
  (¬ v0 = 0) ∧ (
  let p2 : PM := pR p1 4 v0 1 v2
  (¬ v0 = 0) ∧ (
  let p3 : PM := pR p2 4 v0 2 v3
  (¬ v0 = 0) ∧ (
  let p4 : PM := pI p3 4 v0 3 v4
  (¬ v0 = 0) ∧ (
  let p5 : PM := pI p4 4 v0 4 v5
  (¬ v0 = 0) ∧ (
  let p6 : PM := pI p5 4 v0 5 (cn 0)
  (¬ v0 = 0) ∧ (
  let p7 : PM := pI p6 4 v0 6 (cn 1)
  True)))))))
noncomputable def g4_fill (p : PM) (v0 : Nat) (v1 : Nat) (v2 : Nat) (v3 : Nat) (v4 : Int32) (v5 : Int32) : Prop := bg4_fill p v0 v1 v2 v3 v4 v5
def R52 : List Row := [(0, .aload_n 0, 1, 0, (0, 0, 0, 0, 0, 0)), (1, .aload_n 1, 1, 0, (0, 0, 0, 0, 0, 0)), (2, .putfield 7, 3, 0, (4, 0, 4, 0, 0, 0)), (5, .aload_n 0, 1, 0, (0, 0, 0, 0, 0, 0)), (6, .aload_n 2, 1, 0, (0, 0, 0, 0, 0, 0)), (7, .putfield 13, 3, 0, (4, 1, 3, 0, 0, 0)), (10, .aload_n 0, 1, 0, (0, 0, 0, 0, 0, 0)), (11, .aload_n 3, 1, 0, (0, 0, 0, 0, 0, 0)), (12, .putfield 17, 3, 0, (4, 2, 3, 0, 0, 0)), (15, .aload_n 0, 1, 0, (0, 0, 0, 0, 0, 0)), (16, .iload 4, 2, 0, (0, 0, 0, 0, 0, 0)), (18, .putfield 20, 3, 0, (4, 3, 0, 0, 0, 0)), (21, .aload_n 0, 1, 0, (0, 0, 0, 0, 0, 0)), (22, .iload 5, 2, 0, (0, 0, 0, 0, 0, 0)), (24, .putfield 24, 3, 0, (4, 4, 0, 0, 0, 0)), (27, .aload_n 0, 1, 0, (0, 0, 0, 0, 0, 0)), (28, .iconst 0, 1, 0, (0, 0, 0, 0, 0, 0)), (29, .putfield 27, 3, 0, (4, 5, 1, 0, 0, 0)), (32, .aload_n 0, 1, 0, (0, 0, 0, 0, 0, 0)), (33, .iconst 1, 1, 0, (0, 0, 0, 0, 0, 1)), (34, .putfield 31, 3, 0, (4, 6, 1, 0, 0, 0)), (37, .return_, 1, 0, (0, 0, 0, 0, 0, 0))]
set_option maxRecDepth 100000 in
theorem rk52 : R52.all (rok 0 52 0 []) = true := by decide +kernel
set_option maxRecDepth 100000 in
theorem tab52 : TabOK 0 52 0 [] R52 := tab_ok (K := K52) rfl rfl (fun h => d52 h) rk52 (by decide +kernel)
set_option maxRecDepth 100000 in
theorem pc52 : cutpc [] R52 = true := by decide +kernel
set_option maxRecDepth 100000 in
theorem r4_fill : ∀ (p : PM) (v0 : Nat) (v1 : Nat) (v2 : Nat) (v3 : Nat) (v4 : Int32) (v5 : Int32), Gr 0 p → bg4_fill p v0 v1 v2 v3 v4 v5 → ZJ 0 52 0 [zR 4 v0, zR 1 v1, zR 0 v2, zR 0 v3, zI v4, zI v5] [] p (hwV (bv4_fill p v0 v1 v2 v3 v4 v5)) := by
  intro p v0 v1 v2 v3 v4 v5  hg H
  exact rwV (n := 3000) (q := 0) (la := [zR 4 v0, zR 1 v1, zR 0 v2, zR 0 v3, zI v4, zI v5]) (sa := []) (ks := []) (gs := []) (fnil) tab52 pc52 trivial hg H
theorem t4_fill : ∀ (p : PM) (v0 : Nat) (v1 : Nat) (v2 : Nat) (v3 : Nat) (v4 : Int32) (v5 : Int32), Gr 0 p → g4_fill p v0 v1 v2 v3 v4 v5 → ZJ 0 52 0 [zR 4 v0, zR 1 v1, zR 0 v2, zR 0 v3, zI v4, zI v5] [] p (hwV (v4_fill p v0 v1 v2 v3 v4 v5)) := r4_fill
def CC52 (F : PM → Nat → Nat → Nat → Nat → Int32 → Int32 → PM) (G : PM → Nat → Nat → Nat → Nat → Int32 → Int32 → Prop) : Cal := (52, [7, 4, 3, 3, 0, 0], 0, false, fun as p => (zJ, (F p (ar as 0) (ar as 1) (ar as 2) (ar as 3) (ai as 4) (ai as 5))), fun as p => zsw (tc2 as [(8, 0), (5, 0), (4, 0), (4, 0), (0, 0), (0, 0)]) False (G p (ar as 0) (ar as 1) (ar as 2) (ar as 3) (ai as 4) (ai as 5)))
set_option maxRecDepth 100000 in
theorem okr52 (F : PM → Nat → Nat → Nat → Nat → Int32 → Int32 → PM) (G : PM → Nat → Nat → Nat → Nat → Int32 → Int32 → Prop) (h : ∀ (p : PM) (v0 : Nat) (v1 : Nat) (v2 : Nat) (v3 : Nat) (v4 : Int32) (v5 : Int32), Gr 0 p → G p v0 v1 v2 v3 v4 v5 → ZJ 0 52 0 [zR 4 v0, zR 1 v1, zR 0 v2, zR 0 v3, zI v4, zI v5] [] p (hwV (F p v0 v1 v2 v3 v4 v5))) : CalOK 0 (CC52 F G) := cal_ok (m := 6) (by unfold mL; rw [mX_52]) (fun as p hg H => h p (ar as 0) (ar as 1) (ar as 2) (ar as 3) (ai as 4) (ai as 5) hg H)
theorem ok52 : CalOK 0 (CC52 v4_fill g4_fill) := okr52 v4_fill g4_fill t4_fill
noncomputable def bv7_record (F5 : PM → Nat → Nat → Int32 → Int32 → PM) (F52 : PM → Nat → Nat → Nat → Nat → Int32 → Int32 → PM) (p : PM) (v1 : Nat) (v2 : Nat) (v3 : Nat) (v4 : Int32) (v5 : Int32) : PM :=
  let x1 : Int32 := (irm (p.1 7 1 2) (cn 60))
  if x1 < 0 then (
    p)
  else (
    if x1 < (cn 60) then (
      let p2 : PM := F52 p ((x1).toNatClampNeg + 1) v1 v2 v3 v4 v5
      let p3 : PM := pI p2 7 1 2 ((p2.1 7 1 2) + (cn 1))
      let p4 : PM := pI p3 1 v1 3 v4
      let p5 : PM := F5 p4 v2 v1 v5 v4
      let p6 : PM := F5 p5 v3 v1 (-v5) v4
      p6)
    else (
      p))
noncomputable def v7_record (p : PM) (v1 : Nat) (v2 : Nat) (v3 : Nat) (v4 : Int32) (v5 : Int32) : PM := bv7_record v0_take v4_fill p v1 v2 v3 v4 v5
noncomputable def bg7_record (F5 : PM → Nat → Nat → Int32 → Int32 → PM) (G5 : PM → Nat → Nat → Int32 → Int32 → Prop) (F52 : PM → Nat → Nat → Nat → Nat → Int32 → Int32 → PM) (G52 : PM → Nat → Nat → Nat → Nat → Int32 → Int32 → Prop) (p : PM) (v1 : Nat) (v2 : Nat) (v3 : Nat) (v4 : Int32) (v5 : Int32) : Prop :=
  let x1 : Int32 := (irm (p.1 7 1 2) (cn 60))
  if x1 < 0 then (
    True)
  else (
    if x1 < (cn 60) then (
      (inb x1 60) ∧ (
      (G52 p ((x1).toNatClampNeg + 1) v1 v2 v3 v4 v5) ∧ (
      let p2 : PM := F52 p ((x1).toNatClampNeg + 1) v1 v2 v3 v4 v5
      let p3 : PM := pI p2 7 1 2 ((p2.1 7 1 2) + (cn 1))
      (¬ v1 = 0) ∧ (
      let p4 : PM := pI p3 1 v1 3 v4
      (¬ v2 = 0) ∧ (
      (G5 p4 v2 v1 v5 v4) ∧ (
      let p5 : PM := F5 p4 v2 v1 v5 v4
      (¬ v3 = 0) ∧ (
      (G5 p5 v3 v1 (-v5) v4) ∧ (
      let p6 : PM := F5 p5 v3 v1 (-v5) v4
      True))))))))
    else (
      True))
noncomputable def g7_record (p : PM) (v1 : Nat) (v2 : Nat) (v3 : Nat) (v4 : Int32) (v5 : Int32) : Prop := bg7_record v0_take g0_take v4_fill g4_fill p v1 v2 v3 v4 v5
def R105 : List Row := [(0, .aload_n 0, 1, 0, (0, 0, 0, 0, 0, 0)), (1, .getfield 36, 3, 0, (7, 2, 0, 1, 0, 0)), (4, .bipush 60, 2, 0, (0, 0, 0, 0, 0, 60)), (6, .irem, 1, 0, (0, 0, 0, 0, 0, 0)), (7, .istore 6, 2, 0, (0, 0, 0, 0, 0, 0)), (9, .iload 6, 2, 0, (0, 0, 0, 0, 0, 0)), (11, .ifCond .lt 13, 3, 0, (0, 0, 0, 0, 0, 0)), (14, .iload 6, 2, 0, (0, 0, 0, 0, 0, 0)), (16, .aload_n 0, 1, 0, (0, 0, 0, 0, 0, 0)), (17, .getfield 19, 3, 0, (7, 1, 21, 2, 1, 0)), (20, .arraylength, 1, 0, (18, 60, 0, 0, 0, 60)), (21, .if_icmp .lt 4, 3, 0, (0, 0, 0, 0, 0, 0)), (24, .return_, 1, 0, (0, 0, 0, 0, 0, 0)), (25, .aload_n 0, 1, 0, (0, 0, 0, 0, 0, 0)), (26, .getfield 19, 3, 0, (7, 1, 21, 2, 1, 0)), (29, .iload 6, 2, 0, (0, 0, 0, 0, 0, 0)), (31, .aaload, 1, 0, (18, 60, 0, 1, 1, 0)), (32, .aload_n 1, 1, 0, (0, 0, 0, 0, 0, 0)), (33, .aload_n 2, 1, 0, (0, 0, 0, 0, 0, 0)), (34, .aload_n 3, 1, 0, (0, 0, 0, 0, 0, 0)), (35, .iload 4, 2, 0, (0, 0, 0, 0, 0, 0)), (37, .iload 5, 2, 0, (0, 0, 0, 0, 0, 0)), (39, .invokevirtual 40, 3, 0, (0, 6, 0, 0, 1, 0)), (42, .aload_n 0, 1, 0, (0, 0, 0, 0, 0, 0)), (43, .dup, 1, 0, (0, 0, 0, 0, 0, 0)), (44, .getfield 36, 3, 0, (7, 2, 0, 1, 0, 0)), (47, .iconst 1, 1, 0, (0, 0, 0, 0, 0, 1)), (48, .iadd, 1, 0, (0, 0, 0, 0, 0, 0)), (49, .putfield 36, 3, 0, (7, 2, 0, 1, 0, 0)), (52, .aload_n 1, 1, 0, (0, 0, 0, 0, 0, 0)), (53, .iload 4, 2, 0, (0, 0, 0, 0, 0, 0)), (55, .putfield 44, 3, 0, (1, 3, 0, 0, 0, 0)), (58, .aload_n 2, 1, 0, (0, 0, 0, 0, 0, 0)), (59, .aload_n 1, 1, 0, (0, 0, 0, 0, 0, 0)), (60, .iload 5, 2, 0, (0, 0, 0, 0, 0, 0)), (62, .iload 4, 2, 0, (0, 0, 0, 0, 0, 0)), (64, .invokevirtual 49, 3, 0, (1, 4, 0, 0, 2, 0)), (67, .aload_n 3, 1, 0, (0, 0, 0, 0, 0, 0)), (68, .aload_n 1, 1, 0, (0, 0, 0, 0, 0, 0)), (69, .iload 5, 2, 0, (0, 0, 0, 0, 0, 0)), (71, .ineg, 1, 0, (0, 0, 0, 0, 0, 0)), (72, .iload 4, 2, 0, (0, 0, 0, 0, 0, 0)), (74, .invokevirtual 49, 3, 0, (1, 4, 0, 0, 2, 0)), (77, .return_, 1, 0, (0, 0, 0, 0, 0, 0))]
set_option maxRecDepth 100000 in
theorem rk105 : R105.all (rok 0 105 0 [(52, [7, 4, 3, 3, 0, 0]), (5, [3, 4, 0, 0])]) = true := by decide +kernel
set_option maxRecDepth 100000 in
theorem tab105 {F52 : PM → Nat → Nat → Nat → Nat → Int32 → Int32 → PM} {G52 : PM → Nat → Nat → Nat → Nat → Int32 → Int32 → Prop} {F5 : PM → Nat → Nat → Int32 → Int32 → PM} {G5 : PM → Nat → Nat → Int32 → Int32 → Prop} : TabOK 0 105 0 [CC52 F52 G52, CC5 F5 G5] R105 := tab_ok (K := K105) rfl rfl (fun h => d105 h) rk105 (by decide +kernel)
set_option maxRecDepth 100000 in
theorem pc105 : cutpc [] R105 = true := by decide +kernel
set_option maxRecDepth 100000 in
theorem r7_record (F52 : PM → Nat → Nat → Nat → Nat → Int32 → Int32 → PM) (G52 : PM → Nat → Nat → Nat → Nat → Int32 → Int32 → Prop) (o52 : CalOK 0 (CC52 F52 G52)) (F5 : PM → Nat → Nat → Int32 → Int32 → PM) (G5 : PM → Nat → Nat → Int32 → Int32 → Prop) (o5 : CalOK 0 (CC5 F5 G5)) : ∀ (p : PM) (v1 : Nat) (v2 : Nat) (v3 : Nat) (v4 : Int32) (v5 : Int32), Gr 0 p → bg7_record F5 G5 F52 G52 p v1 v2 v3 v4 v5 → ZJ 0 105 0 [zR 7 1, zR 1 v1, zR 0 v2, zR 0 v3, zI v4, zI v5, zJ] [] p (hwV (bv7_record F5 F52 p v1 v2 v3 v4 v5)) := by
  intro p v1 v2 v3 v4 v5  hg H
  exact rwV (n := 3000) (q := 0) (la := [zR 7 1, zR 1 v1, zR 0 v2, zR 0 v3, zI v4, zI v5, zJ]) (sa := []) (ks := []) (gs := []) (fcons o52 (fcons o5 (fnil))) tab105 pc105 trivial hg H
theorem t7_record : ∀ (p : PM) (v1 : Nat) (v2 : Nat) (v3 : Nat) (v4 : Int32) (v5 : Int32), Gr 0 p → g7_record p v1 v2 v3 v4 v5 → ZJ 0 105 0 [zR 7 1, zR 1 v1, zR 0 v2, zR 0 v3, zI v4, zI v5, zJ] [] p (hwV (v7_record p v1 v2 v3 v4 v5)) := r7_record v4_fill g4_fill ok52 v0_take g0_take ok5
def CC105 (F : PM → Nat → Nat → Nat → Int32 → Int32 → PM) (G : PM → Nat → Nat → Nat → Int32 → Int32 → Prop) : Cal := (105, [10, 4, 3, 3, 0, 0], 0, false, fun as p => (zJ, (F p (ar as 1) (ar as 2) (ar as 3) (ai as 4) (ai as 5))), fun as p => zsw (tc2 as [(107, 1), (5, 0), (4, 0), (4, 0), (0, 0), (0, 0)]) False (G p (ar as 1) (ar as 2) (ar as 3) (ai as 4) (ai as 5)))
set_option maxRecDepth 100000 in
theorem okr105 (F : PM → Nat → Nat → Nat → Int32 → Int32 → PM) (G : PM → Nat → Nat → Nat → Int32 → Int32 → Prop) (h : ∀ (p : PM) (v1 : Nat) (v2 : Nat) (v3 : Nat) (v4 : Int32) (v5 : Int32), Gr 0 p → G p v1 v2 v3 v4 v5 → ZJ 0 105 0 [zR 7 1, zR 1 v1, zR 0 v2, zR 0 v3, zI v4, zI v5, zJ] [] p (hwV (F p v1 v2 v3 v4 v5))) : CalOK 0 (CC105 F G) := cal_ok (m := 7) (by unfold mL; rw [mX_105]) (fun as p hg H => h p (ar as 1) (ar as 2) (ar as 3) (ai as 4) (ai as 5) hg H)
theorem ok105 : CalOK 0 (CC105 v7_record g7_record) := okr105 v7_record g7_record t7_record
noncomputable def bv3_record (F105 : PM → Nat → Nat → Nat → Int32 → Int32 → PM) (p : PM) (v1 : Nat) (v2 : Int32) (v3 : Nat) (v4 : Nat) (v5 : Int32) (v6 : Int32) : PM :=
  if v2 = 0 then (
    if v2 = 0 then (
      let p1 : PM := F105 p v1 (p.2.2 10 v4 3) (p.2.2 10 v3 3) v5 v6
      p1)
    else (
      let p2 : PM := F105 p v1 (p.2.2 10 v4 3) (p.2.2 10 v4 3) v5 v6
      p2))
  else (
    if v2 = 0 then (
      let p3 : PM := F105 p v1 (p.2.2 10 v3 3) (p.2.2 10 v3 3) v5 v6
      p3)
    else (
      let p4 : PM := F105 p v1 (p.2.2 10 v3 3) (p.2.2 10 v4 3) v5 v6
      p4))
noncomputable def v3_record (p : PM) (v1 : Nat) (v2 : Int32) (v3 : Nat) (v4 : Nat) (v5 : Int32) (v6 : Int32) : PM := bv3_record v7_record p v1 v2 v3 v4 v5 v6
noncomputable def bg3_record (F105 : PM → Nat → Nat → Nat → Int32 → Int32 → PM) (G105 : PM → Nat → Nat → Nat → Int32 → Int32 → Prop) (p : PM) (v1 : Nat) (v2 : Int32) (v3 : Nat) (v4 : Nat) (v5 : Int32) (v6 : Int32) : Prop :=
  if v2 = 0 then (
    (¬ v4 = 0) ∧ (
    if v2 = 0 then (
      (¬ v3 = 0) ∧ (
      (G105 p v1 (p.2.2 10 v4 3) (p.2.2 10 v3 3) v5 v6) ∧ (
      let p1 : PM := F105 p v1 (p.2.2 10 v4 3) (p.2.2 10 v3 3) v5 v6
      True)))
    else (
      (¬ v4 = 0) ∧ (
      (G105 p v1 (p.2.2 10 v4 3) (p.2.2 10 v4 3) v5 v6) ∧ (
      let p2 : PM := F105 p v1 (p.2.2 10 v4 3) (p.2.2 10 v4 3) v5 v6
      True)))))
  else (
    (¬ v3 = 0) ∧ (
    if v2 = 0 then (
      (¬ v3 = 0) ∧ (
      (G105 p v1 (p.2.2 10 v3 3) (p.2.2 10 v3 3) v5 v6) ∧ (
      let p3 : PM := F105 p v1 (p.2.2 10 v3 3) (p.2.2 10 v3 3) v5 v6
      True)))
    else (
      (¬ v4 = 0) ∧ (
      (G105 p v1 (p.2.2 10 v3 3) (p.2.2 10 v4 3) v5 v6) ∧ (
      let p4 : PM := F105 p v1 (p.2.2 10 v3 3) (p.2.2 10 v4 3) v5 v6
      True)))))
noncomputable def g3_record (p : PM) (v1 : Nat) (v2 : Int32) (v3 : Nat) (v4 : Nat) (v5 : Int32) (v6 : Int32) : Prop := bg3_record v7_record g7_record p v1 v2 v3 v4 v5 v6
def R49 : List Row := [(0, .iload_n 2, 1, 0, (0, 0, 0, 0, 0, 0)), (1, .ifCond .eq 10, 3, 0, (0, 0, 0, 0, 0, 0)), (4, .aload_n 3, 1, 0, (0, 0, 0, 0, 0, 0)), (5, .getfield 76, 3, 0, (10, 3, 3, 0, 0, 0)), (8, .goto 8, 3, 0, (0, 0, 0, 0, 0, 0)), (11, .aload 4, 2, 0, (0, 0, 0, 0, 0, 0)), (13, .getfield 76, 3, 0, (10, 3, 3, 0, 0, 0)), (16, .astore 7, 2, 0, (0, 0, 0, 0, 0, 0)), (18, .iload_n 2, 1, 0, (0, 0, 0, 0, 0, 0)), (19, .ifCond .eq 11, 3, 0, (0, 0, 0, 0, 0, 0)), (22, .aload 4, 2, 0, (0, 0, 0, 0, 0, 0)), (24, .getfield 76, 3, 0, (10, 3, 3, 0, 0, 0)), (27, .goto 7, 3, 0, (0, 0, 0, 0, 0, 0)), (30, .aload_n 3, 1, 0, (0, 0, 0, 0, 0, 0)), (31, .getfield 76, 3, 0, (10, 3, 3, 0, 0, 0)), (34, .astore 8, 2, 0, (0, 0, 0, 0, 0, 0)), (36, .aload_n 0, 1, 0, (0, 0, 0, 0, 0, 0)), (37, .getfield 13, 3, 0, (3, 1, 10, 2, 1, 0)), (40, .aload_n 1, 1, 0, (0, 0, 0, 0, 0, 0)), (41, .aload 7, 2, 0, (0, 0, 0, 0, 0, 0)), (43, .aload 8, 2, 0, (0, 0, 0, 0, 0, 0)), (45, .iload 5, 2, 0, (0, 0, 0, 0, 0, 0)), (47, .iload 6, 2, 0, (0, 0, 0, 0, 0, 0)), (49, .invokevirtual 85, 3, 0, (0, 6, 0, 0, 1, 0)), (52, .return_, 1, 0, (0, 0, 0, 0, 0, 0))]
set_option maxRecDepth 100000 in
theorem rk49 : R49.all (rok 0 49 0 [(105, [10, 4, 3, 3, 0, 0])]) = true := by decide +kernel
set_option maxRecDepth 100000 in
theorem tab49 {F105 : PM → Nat → Nat → Nat → Int32 → Int32 → PM} {G105 : PM → Nat → Nat → Nat → Int32 → Int32 → Prop} : TabOK 0 49 0 [CC105 F105 G105] R49 := tab_ok (K := K49) rfl rfl (fun h => d49 h) rk49 (by decide +kernel)
set_option maxRecDepth 100000 in
theorem pc49 : cutpc [] R49 = true := by decide +kernel
set_option maxRecDepth 100000 in
theorem r3_record (F105 : PM → Nat → Nat → Nat → Int32 → Int32 → PM) (G105 : PM → Nat → Nat → Nat → Int32 → Int32 → Prop) (o105 : CalOK 0 (CC105 F105 G105)) : ∀ (p : PM) (v1 : Nat) (v2 : Int32) (v3 : Nat) (v4 : Nat) (v5 : Int32) (v6 : Int32), Gr 0 p → bg3_record F105 G105 p v1 v2 v3 v4 v5 v6 → ZJ 0 49 0 [zR 3 1, zR 1 v1, zI v2, zR 10 v3, zR 10 v4, zI v5, zI v6, zJ, zJ] [] p (hwV (bv3_record F105 p v1 v2 v3 v4 v5 v6)) := by
  intro p v1 v2 v3 v4 v5 v6  hg H
  exact rwV (n := 3000) (q := 0) (la := [zR 3 1, zR 1 v1, zI v2, zR 10 v3, zR 10 v4, zI v5, zI v6, zJ, zJ]) (sa := []) (ks := []) (gs := []) (fcons o105 (fnil)) tab49 pc49 trivial hg H
theorem t3_record : ∀ (p : PM) (v1 : Nat) (v2 : Int32) (v3 : Nat) (v4 : Nat) (v5 : Int32) (v6 : Int32), Gr 0 p → g3_record p v1 v2 v3 v4 v5 v6 → ZJ 0 49 0 [zR 3 1, zR 1 v1, zI v2, zR 10 v3, zR 10 v4, zI v5, zI v6, zJ, zJ] [] p (hwV (v3_record p v1 v2 v3 v4 v5 v6)) := r3_record v7_record g7_record ok105
def CC49 (F : PM → Nat → Int32 → Nat → Nat → Int32 → Int32 → PM) (G : PM → Nat → Int32 → Nat → Nat → Int32 → Int32 → Prop) : Cal := (49, [6, 4, 0, 13, 13, 0, 0], 0, false, fun as p => (zJ, (F p (ar as 1) (ai as 2) (ar as 3) (ar as 4) (ai as 5) (ai as 6))), fun as p => zsw (tc2 as [(103, 1), (5, 0), (0, 0), (14, 0), (14, 0), (0, 0), (0, 0)]) False (G p (ar as 1) (ai as 2) (ar as 3) (ar as 4) (ai as 5) (ai as 6)))
set_option maxRecDepth 100000 in
theorem okr49 (F : PM → Nat → Int32 → Nat → Nat → Int32 → Int32 → PM) (G : PM → Nat → Int32 → Nat → Nat → Int32 → Int32 → Prop) (h : ∀ (p : PM) (v1 : Nat) (v2 : Int32) (v3 : Nat) (v4 : Nat) (v5 : Int32) (v6 : Int32), Gr 0 p → G p v1 v2 v3 v4 v5 v6 → ZJ 0 49 0 [zR 3 1, zR 1 v1, zI v2, zR 10 v3, zR 10 v4, zI v5, zI v6, zJ, zJ] [] p (hwV (F p v1 v2 v3 v4 v5 v6))) : CalOK 0 (CC49 F G) := cal_ok (m := 9) (by unfold mL; rw [mX_49]) (fun as p hg H => h p (ar as 1) (ai as 2) (ar as 3) (ar as 4) (ai as 5) (ai as 6) hg H)
theorem ok49 : CalOK 0 (CC49 v3_record g3_record) := okr49 v3_record g3_record t3_record
noncomputable def bv10_fall (p : PM) (v0 : Nat) (v1 : Int32) : PM :=
  let p1 : PM := pI p 10 v0 9 ((p.1 10 v0 9) - v1)
  let p2 : PM := pI p1 10 v0 11 ((p1.1 10 v0 11) - v1)
  let p3 : PM := pI p2 10 v0 16 (cn 1)
  if 0 < (p3.1 10 v0 9) then (
    p3)
  else (
    let p4 : PM := pI p3 10 v0 2 (cn 0)
    p4)
noncomputable def v10_fall (p : PM) (v0 : Nat) (v1 : Int32) : PM := bv10_fall p v0 v1
noncomputable def bg10_fall (p : PM) (v0 : Nat) (v1 : Int32) : Prop :=
  (¬ v0 = 0) ∧ (
  (¬ v0 = 0) ∧ (
  let p1 : PM := pI p 10 v0 9 ((p.1 10 v0 9) - v1)
  (¬ v0 = 0) ∧ (
  (¬ v0 = 0) ∧ (
  let p2 : PM := pI p1 10 v0 11 ((p1.1 10 v0 11) - v1)
  (¬ v0 = 0) ∧ (
  let p3 : PM := pI p2 10 v0 16 (cn 1)
  (¬ v0 = 0) ∧ (
  if 0 < (p3.1 10 v0 9) then (
    True)
  else (
    (¬ v0 = 0) ∧ (
    let p4 : PM := pI p3 10 v0 2 (cn 0)
    True))))))))
noncomputable def g10_fall (p : PM) (v0 : Nat) (v1 : Int32) : Prop := bg10_fall p v0 v1
def R149 : List Row := [(0, .aload_n 0, 1, 0, (0, 0, 0, 0, 0, 0)), (1, .dup, 1, 0, (0, 0, 0, 0, 0, 0)), (2, .getfield 49, 3, 0, (10, 9, 0, 0, 0, 0)), (5, .iload_n 1, 1, 0, (0, 0, 0, 0, 0, 0)), (6, .isub, 1, 0, (0, 0, 0, 0, 0, 0)), (7, .putfield 49, 3, 0, (10, 9, 0, 0, 0, 0)), (10, .aload_n 0, 1, 0, (0, 0, 0, 0, 0, 0)), (11, .dup, 1, 0, (0, 0, 0, 0, 0, 0)), (12, .getfield 55, 3, 0, (10, 11, 0, 0, 0, 0)), (15, .iload_n 1, 1, 0, (0, 0, 0, 0, 0, 0)), (16, .isub, 1, 0, (0, 0, 0, 0, 0, 0)), (17, .putfield 55, 3, 0, (10, 11, 0, 0, 0, 0)), (20, .aload_n 0, 1, 0, (0, 0, 0, 0, 0, 0)), (21, .iconst 1, 1, 0, (0, 0, 0, 0, 0, 1)), (22, .putfield 70, 3, 0, (10, 16, 1, 0, 0, 0)), (25, .aload_n 0, 1, 0, (0, 0, 0, 0, 0, 0)), (26, .getfield 49, 3, 0, (10, 9, 0, 0, 0, 0)), (29, .ifCond .gt 8, 3, 0, (0, 0, 0, 0, 0, 0)), (32, .aload_n 0, 1, 0, (0, 0, 0, 0, 0, 0)), (33, .iconst 0, 1, 0, (0, 0, 0, 0, 0, 0)), (34, .putfield 26, 3, 0, (10, 2, 0, 0, 0, 0)), (37, .return_, 1, 0, (0, 0, 0, 0, 0, 0))]
set_option maxRecDepth 100000 in
theorem rk149 : R149.all (rok 0 149 0 []) = true := by decide +kernel
set_option maxRecDepth 100000 in
theorem tab149 : TabOK 0 149 0 [] R149 := tab_ok (K := K149) rfl rfl (fun h => d149 h) rk149 (by decide +kernel)
set_option maxRecDepth 100000 in
theorem pc149 : cutpc [] R149 = true := by decide +kernel
set_option maxRecDepth 100000 in
theorem r10_fall : ∀ (p : PM) (v0 : Nat) (v1 : Int32), Gr 0 p → bg10_fall p v0 v1 → ZJ 0 149 0 [zR 10 v0, zI v1] [] p (hwV (bv10_fall p v0 v1)) := by
  intro p v0 v1  hg H
  exact rwV (n := 3000) (q := 0) (la := [zR 10 v0, zI v1]) (sa := []) (ks := []) (gs := []) (fnil) tab149 pc149 trivial hg H
theorem t10_fall : ∀ (p : PM) (v0 : Nat) (v1 : Int32), Gr 0 p → g10_fall p v0 v1 → ZJ 0 149 0 [zR 10 v0, zI v1] [] p (hwV (v10_fall p v0 v1)) := r10_fall
def CC149 (F : PM → Nat → Int32 → PM) (G : PM → Nat → Int32 → Prop) : Cal := (149, [13, 0], 0, false, fun as p => (zJ, (F p (ar as 0) (ai as 1))), fun as p => zsw (tc2 as [(14, 0), (0, 0)]) False (G p (ar as 0) (ai as 1)))
set_option maxRecDepth 100000 in
theorem okr149 (F : PM → Nat → Int32 → PM) (G : PM → Nat → Int32 → Prop) (h : ∀ (p : PM) (v0 : Nat) (v1 : Int32), Gr 0 p → G p v0 v1 → ZJ 0 149 0 [zR 10 v0, zI v1] [] p (hwV (F p v0 v1))) : CalOK 0 (CC149 F G) := cal_ok (m := 2) (by unfold mL; rw [mX_149]) (fun as p hg H => h p (ar as 0) (ai as 1) hg H)
theorem ok149 : CalOK 0 (CC149 v10_fall g10_fall) := okr149 v10_fall g10_fall t10_fall
noncomputable def bv6_guard_62 (kv62 : PM → Nat → Int32 → PM) (p : PM) (v3 : Nat) (v6 : Int32) : PM :=
  if v6 < (cn 40) then (
    if (p.1 10 ((v6).toNatClampNeg + 1) 1) = (cn 3) then (
      if (p.2.2 10 ((v6).toNatClampNeg + 1) 3) = v3 then (
        let p1 : PM := pI p 10 ((v6).toNatClampNeg + 1) 2 (cn 0)
        kv62 p1 v3 (v6 + (cn 1)))
      else (
        kv62 p v3 (v6 + (cn 1))))
    else (
      kv62 p v3 (v6 + (cn 1))))
  else (
    p)
noncomputable def v6_guard_62 (n : Nat) : PM → Nat → Int32 → PM := Nat.rec (motive := fun _ => PM → Nat → Int32 → PM) (fun p _ _ => p) (fun _ ih => bv6_guard_62 ih) n
theorem ev6_guard_62 (n : Nat) (p : PM) (v3 : Nat) (v6 : Int32) : v6_guard_62 (n + 1) p v3 v6 = bv6_guard_62 (v6_guard_62 n) p v3 v6 := rfl
noncomputable def bg6_guard_62 (kg62 : PM → Nat → Int32 → Prop) (p : PM) (v3 : Nat) (v6 : Int32) : Prop :=
  if v6 < (cn 40) then (
    (inb v6 40) ∧ (
    if (p.1 10 ((v6).toNatClampNeg + 1) 1) = (cn 3) then (
      if (p.2.2 10 ((v6).toNatClampNeg + 1) 3) = v3 then (
        let p1 : PM := pI p 10 ((v6).toNatClampNeg + 1) 2 (cn 0)
        kg62 p1 v3 (v6 + (cn 1)))
      else (
        kg62 p v3 (v6 + (cn 1))))
    else (
      kg62 p v3 (v6 + (cn 1)))))
  else (
    True)
noncomputable def g6_guard_62 (n : Nat) : PM → Nat → Int32 → Prop := Nat.rec (motive := fun _ => PM → Nat → Int32 → Prop) (fun _ _ _ => False) (fun _ ih => bg6_guard_62 ih) n
theorem eg6_guard_62 (n : Nat) (p : PM) (v3 : Nat) (v6 : Int32) : g6_guard_62 (n + 1) p v3 v6 = bg6_guard_62 (g6_guard_62 n) p v3 v6 := rfl
noncomputable def bv6_guard (kv62 : PM → Nat → Int32 → PM) (p : PM) (v1 : Nat) (v2 : Int32) : PM :=
  if (p.1 10 v1 1) = (cn 3) then (
    let p1 : PM := pI p 0 (p.2.2 10 v1 3) 6 ((p.1 0 (p.2.2 10 v1 3) 6) + v2)
    if (p1.1 0 (p.2.2 10 v1 3) 5) = 0 then (
      p1)
    else (
      if (p1.1 0 (p.2.2 10 v1 3) 6) < (p1.1 0 (p.2.2 10 v1 3) 5) then (
        p1)
      else (
        let p2 : PM := pI p1 0 (p.2.2 10 v1 3) 7 (cn 1)
        kv62 p2 (p.2.2 10 v1 3) (cn 0))))
  else (
    p)
noncomputable def v6_guard (p : PM) (v1 : Nat) (v2 : Int32) : PM := bv6_guard (v6_guard_62 FU) p v1 v2
noncomputable def bg6_guard (kg62 : PM → Nat → Int32 → Prop) (p : PM) (v1 : Nat) (v2 : Int32) : Prop :=
  (¬ v1 = 0) ∧ (
  if (p.1 10 v1 1) = (cn 3) then (
    (¬ v1 = 0) ∧ (
    (¬ (p.2.2 10 v1 3) = 0) ∧ (
    (¬ (p.2.2 10 v1 3) = 0) ∧ (
    let p1 : PM := pI p 0 (p.2.2 10 v1 3) 6 ((p.1 0 (p.2.2 10 v1 3) 6) + v2)
    (¬ (p.2.2 10 v1 3) = 0) ∧ (
    if (p1.1 0 (p.2.2 10 v1 3) 5) = 0 then (
      True)
    else (
      (¬ (p.2.2 10 v1 3) = 0) ∧ (
      (¬ (p.2.2 10 v1 3) = 0) ∧ (
      if (p1.1 0 (p.2.2 10 v1 3) 6) < (p1.1 0 (p.2.2 10 v1 3) 5) then (
        True)
      else (
        (¬ (p.2.2 10 v1 3) = 0) ∧ (
        let p2 : PM := pI p1 0 (p.2.2 10 v1 3) 7 (cn 1)
        kg62 p2 (p.2.2 10 v1 3) (cn 0)))))))))))
  else (
    True))
noncomputable def g6_guard (p : PM) (v1 : Nat) (v2 : Int32) : Prop := bg6_guard (g6_guard_62 FU) p v1 v2
def R89 : List Row := [(0, .aload_n 1, 1, 0, (0, 0, 0, 0, 0, 0)), (1, .getfield 76, 3, 0, (10, 1, 0, 0, 0, 0)), (4, .iconst 3, 1, 0, (0, 0, 0, 0, 0, 3)), (5, .if_icmp .eq 4, 3, 0, (0, 0, 0, 0, 0, 0)), (8, .return_, 1, 0, (0, 0, 0, 0, 0, 0)), (9, .aload_n 1, 1, 0, (0, 0, 0, 0, 0, 0)), (10, .getfield 115, 3, 0, (10, 3, 3, 0, 0, 0)), (13, .astore_n 3, 1, 0, (0, 0, 0, 0, 0, 0)), (14, .aload_n 3, 1, 0, (0, 0, 0, 0, 0, 0)), (15, .dup, 1, 0, (0, 0, 0, 0, 0, 0)), (16, .getfield 141, 3, 0, (0, 6, 0, 0, 0, 0)), (19, .iload_n 2, 1, 0, (0, 0, 0, 0, 0, 0)), (20, .iadd, 1, 0, (0, 0, 0, 0, 0, 0)), (21, .putfield 141, 3, 0, (0, 6, 0, 0, 0, 0)), (24, .aload_n 3, 1, 0, (0, 0, 0, 0, 0, 0)), (25, .getfield 144, 3, 0, (0, 5, 0, 0, 0, 0)), (28, .ifCond .eq 14, 3, 0, (0, 0, 0, 0, 0, 0)), (31, .aload_n 3, 1, 0, (0, 0, 0, 0, 0, 0)), (32, .getfield 141, 3, 0, (0, 6, 0, 0, 0, 0)), (35, .aload_n 3, 1, 0, (0, 0, 0, 0, 0, 0)), (36, .getfield 144, 3, 0, (0, 5, 0, 0, 0, 0)), (39, .if_icmp .ge 4, 3, 0, (0, 0, 0, 0, 0, 0)), (42, .return_, 1, 0, (0, 0, 0, 0, 0, 0)), (43, .aload_n 3, 1, 0, (0, 0, 0, 0, 0, 0)), (44, .iconst 1, 1, 0, (0, 0, 0, 0, 0, 1)), (45, .putfield 147, 3, 0, (0, 7, 1, 0, 0, 0)), (48, .aload_n 0, 1, 0, (0, 0, 0, 0, 0, 0)), (49, .getfield 11, 3, 0, (6, 1, 23, 2, 1, 0)), (52, .astore 4, 2, 0, (0, 0, 0, 0, 0, 0)), (54, .aload 4, 2, 0, (0, 0, 0, 0, 0, 0)), (56, .arraylength, 1, 0, (20, 40, 0, 0, 0, 40)), (57, .istore 5, 2, 0, (0, 0, 0, 0, 0, 0)), (59, .iconst 0, 1, 0, (0, 0, 0, 0, 0, 0)), (60, .istore 6, 2, 0, (0, 0, 0, 0, 0, 0)), (62, .iload 6, 2, 1, (0, 0, 0, 0, 0, 0)), (64, .iload 5, 2, 0, (0, 0, 0, 0, 0, 0)), (66, .if_icmp .ge 40, 3, 0, (0, 0, 0, 0, 0, 0)), (69, .aload 4, 2, 0, (0, 0, 0, 0, 0, 0)), (71, .iload 6, 2, 0, (0, 0, 0, 0, 0, 0)), (73, .aaload, 1, 0, (20, 40, 0, 1, 1, 0)), (74, .astore 7, 2, 0, (0, 0, 0, 0, 0, 0)), (76, .aload 7, 2, 0, (0, 0, 0, 0, 0, 0)), (78, .getfield 76, 3, 0, (10, 1, 0, 1, 0, 0)), (81, .iconst 3, 1, 0, (0, 0, 0, 0, 0, 3)), (82, .if_icmp .ne 18, 3, 0, (0, 0, 0, 0, 0, 0)), (85, .aload 7, 2, 0, (0, 0, 0, 0, 0, 0)), (87, .getfield 115, 3, 0, (10, 3, 3, 1, 0, 0)), (90, .aload_n 3, 1, 0, (0, 0, 0, 0, 0, 0)), (91, .if_acmp .ne 9, 3, 0, (0, 0, 0, 0, 0, 0)), (94, .aload 7, 2, 0, (0, 0, 0, 0, 0, 0)), (96, .iconst 0, 1, 0, (0, 0, 0, 0, 0, 0)), (97, .putfield 29, 3, 0, (10, 2, 0, 1, 0, 0)), (100, .iinc 6 1, 3, 0, (0, 0, 0, 0, 0, 1)), (103, .goto (-41), 3, 0, (0, 0, 0, 0, 0, 0)), (106, .return_, 1, 0, (0, 0, 0, 0, 0, 0))]
set_option maxRecDepth 100000 in
theorem rk89 : R89.all (rok 0 89 0 []) = true := by decide +kernel
set_option maxRecDepth 100000 in
theorem tab89 : TabOK 0 89 0 [] R89 := tab_ok (K := K89) rfl rfl (fun h => d89 h) rk89 (by decide +kernel)
set_option maxRecDepth 100000 in
theorem pc89 : cutpc [62] R89 = true := by decide +kernel
set_option maxRecDepth 100000 in
theorem r6_guard_62 (kv62 : PM → Nat → Int32 → PM) (kg62 : PM → Nat → Int32 → Prop) (hk62 : ∀ (p : PM) (v3 : Nat) (v6 : Int32) (d0 d1 d2 d7 : ZV), Gr 0 p → kg62 p v3 v6 → ZJ 0 89 62 [d0, d1, d2, zR 0 v3, zR 20 1, zC 40, zI v6, d7] [] p (hwV (kv62 p v3 v6))) : ∀ (p : PM) (v3 : Nat) (v6 : Int32) (d0 d1 d2 d7 : ZV), Gr 0 p → bg6_guard_62 kg62 p v3 v6 → ZJ 0 89 62 [d0, d1, d2, zR 0 v3, zR 20 1, zC 40, zI v6, d7] [] p (hwV (bv6_guard_62 kv62 p v3 v6)) := by
  intro p v3 v6 d0 d1 d2 d7 hg H
  exact rwV (n := 3000) (q := 62) (la := [d0, d1, d2, zR 0 v3, zR 20 1, zC 40, zI v6, d7]) (sa := []) (ks := [fun la sa s => kv62 s (ar la 3) (ai la 6)]) (gs := [fun la sa s => zsw (tc2 la [(2, 0), (2, 0), (2, 0), (4, 0), (120, 1), (3, 40), (0, 0), (2, 0)] && tc2 sa []) False (kg62 s (ar la 3) (ai la 6))]) (fnil) tab89 pc89 ⟨fun la sa s hg H => zcut H fun H => hk62 s (ar la 3) (ai la 6) (zld la 0) (zld la 1) (zld la 2) (zld la 7) hg H, trivial⟩ hg H
theorem t6_guard_62 : ∀ (n : Nat), ∀ (p : PM) (v3 : Nat) (v6 : Int32) (d0 d1 d2 d7 : ZV), Gr 0 p → g6_guard_62 n p v3 v6 → ZJ 0 89 62 [d0, d1, d2, zR 0 v3, zR 20 1, zC 40, zI v6, d7] [] p (hwV (v6_guard_62 n p v3 v6)) := by
  intro n
  induction n with
  | zero =>
    intro p v3 v6 d0 d1 d2 d7 hg H
    exact H.elim
  | succ n ih => exact r6_guard_62 (v6_guard_62 n) (g6_guard_62 n) ih
set_option maxRecDepth 100000 in
theorem r6_guard (kv62 : PM → Nat → Int32 → PM) (kg62 : PM → Nat → Int32 → Prop) (hk62 : ∀ (p : PM) (v3 : Nat) (v6 : Int32) (d0 d1 d2 d7 : ZV), Gr 0 p → kg62 p v3 v6 → ZJ 0 89 62 [d0, d1, d2, zR 0 v3, zR 20 1, zC 40, zI v6, d7] [] p (hwV (kv62 p v3 v6))) : ∀ (p : PM) (v1 : Nat) (v2 : Int32), Gr 0 p → bg6_guard kg62 p v1 v2 → ZJ 0 89 0 [zR 6 1, zR 10 v1, zI v2, zJ, zJ, zJ, zJ, zJ] [] p (hwV (bv6_guard kv62 p v1 v2)) := by
  intro p v1 v2  hg H
  exact rwV (n := 3000) (q := 0) (la := [zR 6 1, zR 10 v1, zI v2, zJ, zJ, zJ, zJ, zJ]) (sa := []) (ks := [fun la sa s => kv62 s (ar la 3) (ai la 6)]) (gs := [fun la sa s => zsw (tc2 la [(2, 0), (2, 0), (2, 0), (4, 0), (120, 1), (3, 40), (0, 0), (2, 0)] && tc2 sa []) False (kg62 s (ar la 3) (ai la 6))]) (fnil) tab89 pc89 ⟨fun la sa s hg H => zcut H fun H => hk62 s (ar la 3) (ai la 6) (zld la 0) (zld la 1) (zld la 2) (zld la 7) hg H, trivial⟩ hg H
theorem t6_guard : ∀ (p : PM) (v1 : Nat) (v2 : Int32), Gr 0 p → g6_guard p v1 v2 → ZJ 0 89 0 [zR 6 1, zR 10 v1, zI v2, zJ, zJ, zJ, zJ, zJ] [] p (hwV (v6_guard p v1 v2)) := r6_guard (v6_guard_62 FU) (g6_guard_62 FU) (t6_guard_62 FU)
def CC89 (F : PM → Nat → Int32 → PM) (G : PM → Nat → Int32 → Prop) : Cal := (89, [9, 13, 0], 0, false, fun as p => (zJ, (F p (ar as 1) (ai as 2))), fun as p => zsw (tc2 as [(106, 1), (14, 0), (0, 0)]) False (G p (ar as 1) (ai as 2)))
set_option maxRecDepth 100000 in
theorem okr89 (F : PM → Nat → Int32 → PM) (G : PM → Nat → Int32 → Prop) (h : ∀ (p : PM) (v1 : Nat) (v2 : Int32), Gr 0 p → G p v1 v2 → ZJ 0 89 0 [zR 6 1, zR 10 v1, zI v2, zJ, zJ, zJ, zJ, zJ] [] p (hwV (F p v1 v2))) : CalOK 0 (CC89 F G) := cal_ok (m := 8) (by unfold mL; rw [mX_89]) (fun as p hg H => h p (ar as 1) (ai as 2) hg H)
theorem ok89 : CalOK 0 (CC89 v6_guard g6_guard) := okr89 v6_guard g6_guard t6_guard
noncomputable def bv10_showable (p : PM) (F209 : PM → Int32 → Int32 → Int32) (v0 : Nat) : Int32 :=
  (F209 p (p.1 10 v0 10) (p.1 10 v0 9))
noncomputable def v10_showable (p : PM) (v0 : Nat) : Int32 := bv10_showable p v14_min_7cf53 v0
noncomputable def bg10_showable (p : PM) (F209 : PM → Int32 → Int32 → Int32) (G209 : PM → Int32 → Int32 → Prop) (v0 : Nat) : Prop :=
  (¬ v0 = 0) ∧ (
  (¬ v0 = 0) ∧ (
  (G209 p (p.1 10 v0 10) (p.1 10 v0 9)) ∧ (
  True)))
noncomputable def g10_showable (p : PM) (v0 : Nat) : Prop := bg10_showable p v14_min_7cf53 g14_min_7cf53 v0
def R148 : List Row := [(0, .aload_n 0, 1, 0, (0, 0, 0, 0, 0, 0)), (1, .getfield 52, 3, 0, (10, 10, 0, 0, 0, 0)), (4, .aload_n 0, 1, 0, (0, 0, 0, 0, 0, 0)), (5, .getfield 49, 3, 0, (10, 9, 0, 0, 0, 0)), (8, .invokestatic 87, 3, 0, (0, 2, 0, 0, 0, 0)), (11, .ireturn, 1, 0, (0, 0, 0, 0, 0, 0))]
set_option maxRecDepth 100000 in
theorem rk148 : R148.all (rok 0 148 1 [(209, [0, 0])]) = true := by decide +kernel
set_option maxRecDepth 100000 in
theorem tab148 {F209 : PM → Int32 → Int32 → Int32} {G209 : PM → Int32 → Int32 → Prop} : TabOK 0 148 1 [CC209 F209 G209] R148 := tab_ok (K := K148) rfl rfl (fun h => d148 h) rk148 (by decide +kernel)
set_option maxRecDepth 100000 in
theorem pc148 : cutpc [] R148 = true := by decide +kernel
set_option maxRecDepth 100000 in
theorem r10_showable (p : PM) (hg : Gr 0 p) (F209 : PM → Int32 → Int32 → Int32) (G209 : PM → Int32 → Int32 → Prop) (o209 : CalOK 0 (CC209 F209 G209)) : ∀ (v0 : Nat), bg10_showable p F209 G209 v0 → ZJ 0 148 0 [zR 10 v0] [] p (hoI p (bv10_showable p F209 v0)) := by
  intro v0  H
  exact roI (n := 3000) (q := 0) (la := [zR 10 v0]) (sa := []) (ks := []) (gs := []) (fcons o209 (fnil)) tab148 pc148 trivial hg H
theorem t10_showable (p : PM) (hg : Gr 0 p) : ∀ (v0 : Nat), g10_showable p v0 → ZJ 0 148 0 [zR 10 v0] [] p (hoI p (v10_showable p v0)) := r10_showable p hg v14_min_7cf53 g14_min_7cf53 ok209
def CC148 (F : PM → Nat → Int32) (G : PM → Nat → Prop) : Cal := (148, [13], 1, true, fun as p => (zI (F p (ar as 0)), p), fun as p => zsw (tc2 as [(14, 0)]) False (G p (ar as 0)))
set_option maxRecDepth 100000 in
theorem okr148 (F : PM → Nat → Int32) (G : PM → Nat → Prop) (h : ∀ (p : PM) (v0 : Nat), Gr 0 p → G p v0 → ZJ 0 148 0 [zR 10 v0] [] p (hoI p (F p v0))) : CalOK 0 (CC148 F G) := cal_ok (m := 1) (by unfold mL; rw [mX_148]) (fun as p hg H => h p (ar as 0) hg H)
theorem ok148 : CalOK 0 (CC148 v10_showable g10_showable) := okr148 v10_showable g10_showable (fun p v0 hg H => t10_showable p hg v0 H)
noncomputable def bv6_nextTurn (p : PM) : Int32 × PM :=
  let p1 : PM := pI p 6 1 5 ((p.1 6 1 5) + (cn 1))
  ((p1.1 6 1 5), p1)
noncomputable def v6_nextTurn (p : PM) : Int32 × PM := bv6_nextTurn p
noncomputable def bg6_nextTurn (p : PM) : Prop :=
  let p1 : PM := pI p 6 1 5 ((p.1 6 1 5) + (cn 1))
  True
noncomputable def g6_nextTurn (p : PM) : Prop := bg6_nextTurn p
def R78 : List Row := [(0, .aload_n 0, 1, 0, (0, 0, 0, 0, 0, 0)), (1, .dup, 1, 0, (0, 0, 0, 0, 0, 0)), (2, .getfield 42, 3, 0, (6, 5, 0, 1, 0, 0)), (5, .iconst 1, 1, 0, (0, 0, 0, 0, 0, 1)), (6, .iadd, 1, 0, (0, 0, 0, 0, 0, 0)), (7, .putfield 42, 3, 0, (6, 5, 0, 1, 0, 0)), (10, .aload_n 0, 1, 0, (0, 0, 0, 0, 0, 0)), (11, .getfield 42, 3, 0, (6, 5, 0, 1, 0, 0)), (14, .ireturn, 1, 0, (0, 0, 0, 0, 0, 0))]
set_option maxRecDepth 100000 in
theorem rk78 : R78.all (rok 0 78 1 []) = true := by decide +kernel
set_option maxRecDepth 100000 in
theorem tab78 : TabOK 0 78 1 [] R78 := tab_ok (K := K78) rfl rfl (fun h => d78 h) rk78 (by decide +kernel)
set_option maxRecDepth 100000 in
theorem pc78 : cutpc [] R78 = true := by decide +kernel
set_option maxRecDepth 100000 in
theorem r6_nextTurn : ∀ (p : PM), Gr 0 p → bg6_nextTurn p → ZJ 0 78 0 [zR 6 1] [] p (hwI (bv6_nextTurn p)) := by
  intro p   hg H
  exact rwI (n := 3000) (q := 0) (la := [zR 6 1]) (sa := []) (ks := []) (gs := []) (fnil) tab78 pc78 trivial hg H
theorem t6_nextTurn : ∀ (p : PM), Gr 0 p → g6_nextTurn p → ZJ 0 78 0 [zR 6 1] [] p (hwI (v6_nextTurn p)) := r6_nextTurn
def CC78 (F : PM → Int32 × PM) (G : PM → Prop) : Cal := (78, [9], 1, false, fun as p => (zI (F p ).1, (F p ).2), fun as p => zsw (tc2 as [(106, 1)]) False (G p ))
set_option maxRecDepth 100000 in
theorem okr78 (F : PM → Int32 × PM) (G : PM → Prop) (h : ∀ (p : PM), Gr 0 p → G p  → ZJ 0 78 0 [zR 6 1] [] p (hwI (F p ))) : CalOK 0 (CC78 F G) := cal_ok (m := 1) (by unfold mL; rw [mX_78]) (fun as p hg H => h p  hg H)
theorem ok78 : CalOK 0 (CC78 v6_nextTurn g6_nextTurn) := okr78 v6_nextTurn g6_nextTurn t6_nextTurn
noncomputable def bv6_showAnew (F78 : PM → Int32 × PM) (F148 : PM → Nat → Int32) (p : PM) (v1 : Nat) : PM :=
  if (p.1 10 v1 2) = (cn 1) then (
    if 0 < (p.1 10 v1 11) then (
      p)
    else (
      let p1 : PM := pI p 10 v1 11 (F148 p v1)
      let r2 : Int32 × PM := F78 p1
      let p3 : PM := pI r2.2 10 v1 12 r2.1
      p3))
  else (
    p)
noncomputable def v6_showAnew (p : PM) (v1 : Nat) : PM := bv6_showAnew v6_nextTurn v10_showable p v1
noncomputable def bg6_showAnew (F78 : PM → Int32 × PM) (G78 : PM → Prop) (F148 : PM → Nat → Int32) (G148 : PM → Nat → Prop) (p : PM) (v1 : Nat) : Prop :=
  (¬ v1 = 0) ∧ (
  if (p.1 10 v1 2) = (cn 1) then (
    (¬ v1 = 0) ∧ (
    if 0 < (p.1 10 v1 11) then (
      True)
    else (
      (¬ v1 = 0) ∧ (
      (G148 p v1) ∧ (
      (¬ v1 = 0) ∧ (
      let p1 : PM := pI p 10 v1 11 (F148 p v1)
      (G78 p1) ∧ (
      let r2 : Int32 × PM := F78 p1
      (¬ v1 = 0) ∧ (
      let p3 : PM := pI r2.2 10 v1 12 r2.1
      True))))))))
  else (
    True))
noncomputable def g6_showAnew (p : PM) (v1 : Nat) : Prop := bg6_showAnew v6_nextTurn g6_nextTurn v10_showable g10_showable p v1
def R79 : List Row := [(0, .aload_n 1, 1, 0, (0, 0, 0, 0, 0, 0)), (1, .getfield 29, 3, 0, (10, 2, 0, 0, 0, 0)), (4, .iconst 1, 1, 0, (0, 0, 0, 0, 0, 1)), (5, .if_icmp .ne 26, 3, 0, (0, 0, 0, 0, 0, 0)), (8, .aload_n 1, 1, 0, (0, 0, 0, 0, 0, 0)), (9, .getfield 62, 3, 0, (10, 11, 0, 0, 0, 0)), (12, .ifCond .gt 19, 3, 0, (0, 0, 0, 0, 0, 0)), (15, .aload_n 1, 1, 0, (0, 0, 0, 0, 0, 0)), (16, .aload_n 1, 1, 0, (0, 0, 0, 0, 0, 0)), (17, .invokevirtual 58, 3, 0, (0, 1, 0, 0, 2, 0)), (20, .putfield 62, 3, 0, (10, 11, 0, 0, 0, 0)), (23, .aload_n 1, 1, 0, (0, 0, 0, 0, 0, 0)), (24, .aload_n 0, 1, 0, (0, 0, 0, 0, 0, 0)), (25, .invokevirtual 65, 3, 0, (1, 1, 0, 0, 1, 0)), (28, .putfield 68, 3, 0, (10, 12, 0, 0, 0, 0)), (31, .return_, 1, 0, (0, 0, 0, 0, 0, 0))]
set_option maxRecDepth 100000 in
theorem rk79 : R79.all (rok 0 79 0 [(148, [13]), (78, [9])]) = true := by decide +kernel
set_option maxRecDepth 100000 in
theorem tab79 {F148 : PM → Nat → Int32} {G148 : PM → Nat → Prop} {F78 : PM → Int32 × PM} {G78 : PM → Prop} : TabOK 0 79 0 [CC148 F148 G148, CC78 F78 G78] R79 := tab_ok (K := K79) rfl rfl (fun h => d79 h) rk79 (by decide +kernel)
set_option maxRecDepth 100000 in
theorem pc79 : cutpc [] R79 = true := by decide +kernel
set_option maxRecDepth 100000 in
theorem r6_showAnew (F148 : PM → Nat → Int32) (G148 : PM → Nat → Prop) (o148 : CalOK 0 (CC148 F148 G148)) (F78 : PM → Int32 × PM) (G78 : PM → Prop) (o78 : CalOK 0 (CC78 F78 G78)) : ∀ (p : PM) (v1 : Nat), Gr 0 p → bg6_showAnew F78 G78 F148 G148 p v1 → ZJ 0 79 0 [zR 6 1, zR 10 v1] [] p (hwV (bv6_showAnew F78 F148 p v1)) := by
  intro p v1  hg H
  exact rwV (n := 3000) (q := 0) (la := [zR 6 1, zR 10 v1]) (sa := []) (ks := []) (gs := []) (fcons o148 (fcons o78 (fnil))) tab79 pc79 trivial hg H
theorem t6_showAnew : ∀ (p : PM) (v1 : Nat), Gr 0 p → g6_showAnew p v1 → ZJ 0 79 0 [zR 6 1, zR 10 v1] [] p (hwV (v6_showAnew p v1)) := r6_showAnew v10_showable g10_showable ok148 v6_nextTurn g6_nextTurn ok78
def CC79 (F : PM → Nat → PM) (G : PM → Nat → Prop) : Cal := (79, [9, 13], 0, false, fun as p => (zJ, (F p (ar as 1))), fun as p => zsw (tc2 as [(106, 1), (14, 0)]) False (G p (ar as 1)))
set_option maxRecDepth 100000 in
theorem okr79 (F : PM → Nat → PM) (G : PM → Nat → Prop) (h : ∀ (p : PM) (v1 : Nat), Gr 0 p → G p v1 → ZJ 0 79 0 [zR 6 1, zR 10 v1] [] p (hwV (F p v1))) : CalOK 0 (CC79 F G) := cal_ok (m := 2) (by unfold mL; rw [mX_79]) (fun as p hg H => h p (ar as 1) hg H)
theorem ok79 : CalOK 0 (CC79 v6_showAnew g6_showAnew) := okr79 v6_showAnew g6_showAnew t6_showAnew
noncomputable def bv3_fallTogether (F79 : PM → Nat → PM) (F89 : PM → Nat → Int32 → PM) (F149 : PM → Nat → Int32 → PM) (p : PM) (v1 : Nat) (v2 : Nat) (v3 : Nat) (v4 : Nat) (v5 : Int32) : PM :=
  let p1 : PM := F149 p v1 v5
  let p2 : PM := F149 p1 v2 v5
  let p3 : PM := F149 p2 v3 v5
  if v4 = 0 then (
    let p4 : PM := F89 p3 v1 v5
    let p5 : PM := F89 p4 v2 v5
    let p6 : PM := F89 p5 v3 v5
    let p7 : PM := F79 p6 v1
    let p8 : PM := F79 p7 v2
    let p9 : PM := F79 p8 v3
    p9)
  else (
    let p10 : PM := F149 p3 v4 v5
    let p11 : PM := F89 p10 v4 v5
    let p12 : PM := F79 p11 v4
    let p13 : PM := F89 p12 v1 v5
    let p14 : PM := F89 p13 v2 v5
    let p15 : PM := F89 p14 v3 v5
    let p16 : PM := F79 p15 v1
    let p17 : PM := F79 p16 v2
    let p18 : PM := F79 p17 v3
    p18)
noncomputable def v3_fallTogether (p : PM) (v1 : Nat) (v2 : Nat) (v3 : Nat) (v4 : Nat) (v5 : Int32) : PM := bv3_fallTogether v6_showAnew v6_guard v10_fall p v1 v2 v3 v4 v5
noncomputable def bg3_fallTogether (F79 : PM → Nat → PM) (G79 : PM → Nat → Prop) (F89 : PM → Nat → Int32 → PM) (G89 : PM → Nat → Int32 → Prop) (F149 : PM → Nat → Int32 → PM) (G149 : PM → Nat → Int32 → Prop) (p : PM) (v1 : Nat) (v2 : Nat) (v3 : Nat) (v4 : Nat) (v5 : Int32) : Prop :=
  (¬ v1 = 0) ∧ (
  (G149 p v1 v5) ∧ (
  let p1 : PM := F149 p v1 v5
  (¬ v2 = 0) ∧ (
  (G149 p1 v2 v5) ∧ (
  let p2 : PM := F149 p1 v2 v5
  (¬ v3 = 0) ∧ (
  (G149 p2 v3 v5) ∧ (
  let p3 : PM := F149 p2 v3 v5
  if v4 = 0 then (
    (G89 p3 v1 v5) ∧ (
    let p4 : PM := F89 p3 v1 v5
    (G89 p4 v2 v5) ∧ (
    let p5 : PM := F89 p4 v2 v5
    (G89 p5 v3 v5) ∧ (
    let p6 : PM := F89 p5 v3 v5
    (G79 p6 v1) ∧ (
    let p7 : PM := F79 p6 v1
    (G79 p7 v2) ∧ (
    let p8 : PM := F79 p7 v2
    (G79 p8 v3) ∧ (
    let p9 : PM := F79 p8 v3
    True)))))))
  else (
    (¬ v4 = 0) ∧ (
    (G149 p3 v4 v5) ∧ (
    let p10 : PM := F149 p3 v4 v5
    (G89 p10 v4 v5) ∧ (
    let p11 : PM := F89 p10 v4 v5
    (G79 p11 v4) ∧ (
    let p12 : PM := F79 p11 v4
    (G89 p12 v1 v5) ∧ (
    let p13 : PM := F89 p12 v1 v5
    (G89 p13 v2 v5) ∧ (
    let p14 : PM := F89 p13 v2 v5
    (G89 p14 v3 v5) ∧ (
    let p15 : PM := F89 p14 v3 v5
    (G79 p15 v1) ∧ (
    let p16 : PM := F79 p15 v1
    (G79 p16 v2) ∧ (
    let p17 : PM := F79 p16 v2
    (G79 p17 v3) ∧ (
    let p18 : PM := F79 p17 v3
    True)))))))))))))))))
noncomputable def g3_fallTogether (p : PM) (v1 : Nat) (v2 : Nat) (v3 : Nat) (v4 : Nat) (v5 : Int32) : Prop := bg3_fallTogether v6_showAnew g6_showAnew v6_guard g6_guard v10_fall g10_fall p v1 v2 v3 v4 v5
def R50 : List Row := [(0, .aload_n 1, 1, 0, (0, 0, 0, 0, 0, 0)), (1, .iload 5, 2, 0, (0, 0, 0, 0, 0, 0)), (3, .invokevirtual 90, 3, 0, (0, 2, 0, 0, 2, 0)), (6, .aload_n 2, 1, 0, (0, 0, 0, 0, 0, 0)), (7, .iload 5, 2, 0, (0, 0, 0, 0, 0, 0)), (9, .invokevirtual 90, 3, 0, (0, 2, 0, 0, 2, 0)), (12, .aload_n 3, 1, 0, (0, 0, 0, 0, 0, 0)), (13, .iload 5, 2, 0, (0, 0, 0, 0, 0, 0)), (15, .invokevirtual 90, 3, 0, (0, 2, 0, 0, 2, 0)), (18, .aload 4, 2, 0, (0, 0, 0, 0, 0, 0)), (20, .ifnull 30, 3, 0, (0, 0, 0, 0, 0, 0)), (23, .aload 4, 2, 0, (0, 0, 0, 0, 0, 0)), (25, .iload 5, 2, 0, (0, 0, 0, 0, 0, 0)), (27, .invokevirtual 90, 3, 0, (0, 2, 0, 0, 2, 0)), (30, .aload_n 0, 1, 0, (0, 0, 0, 0, 0, 0)), (31, .getfield 7, 3, 0, (3, 0, 9, 2, 1, 0)), (34, .aload 4, 2, 0, (0, 0, 0, 0, 0, 0)), (36, .iload 5, 2, 0, (0, 0, 0, 0, 0, 0)), (38, .invokevirtual 94, 3, 0, (1, 3, 0, 0, 1, 0)), (41, .aload_n 0, 1, 0, (0, 0, 0, 0, 0, 0)), (42, .getfield 7, 3, 0, (3, 0, 9, 2, 1, 0)), (45, .aload 4, 2, 0, (0, 0, 0, 0, 0, 0)), (47, .invokevirtual 98, 3, 0, (2, 2, 0, 0, 1, 0)), (50, .aload_n 0, 1, 0, (0, 0, 0, 0, 0, 0)), (51, .getfield 7, 3, 0, (3, 0, 9, 2, 1, 0)), (54, .aload_n 1, 1, 0, (0, 0, 0, 0, 0, 0)), (55, .iload 5, 2, 0, (0, 0, 0, 0, 0, 0)), (57, .invokevirtual 94, 3, 0, (1, 3, 0, 0, 1, 0)), (60, .aload_n 0, 1, 0, (0, 0, 0, 0, 0, 0)), (61, .getfield 7, 3, 0, (3, 0, 9, 2, 1, 0)), (64, .aload_n 2, 1, 0, (0, 0, 0, 0, 0, 0)), (65, .iload 5, 2, 0, (0, 0, 0, 0, 0, 0)), (67, .invokevirtual 94, 3, 0, (1, 3, 0, 0, 1, 0)), (70, .aload_n 0, 1, 0, (0, 0, 0, 0, 0, 0)), (71, .getfield 7, 3, 0, (3, 0, 9, 2, 1, 0)), (74, .aload_n 3, 1, 0, (0, 0, 0, 0, 0, 0)), (75, .iload 5, 2, 0, (0, 0, 0, 0, 0, 0)), (77, .invokevirtual 94, 3, 0, (1, 3, 0, 0, 1, 0)), (80, .aload_n 0, 1, 0, (0, 0, 0, 0, 0, 0)), (81, .getfield 7, 3, 0, (3, 0, 9, 2, 1, 0)), (84, .aload_n 1, 1, 0, (0, 0, 0, 0, 0, 0)), (85, .invokevirtual 98, 3, 0, (2, 2, 0, 0, 1, 0)), (88, .aload_n 0, 1, 0, (0, 0, 0, 0, 0, 0)), (89, .getfield 7, 3, 0, (3, 0, 9, 2, 1, 0)), (92, .aload_n 2, 1, 0, (0, 0, 0, 0, 0, 0)), (93, .invokevirtual 98, 3, 0, (2, 2, 0, 0, 1, 0)), (96, .aload_n 0, 1, 0, (0, 0, 0, 0, 0, 0)), (97, .getfield 7, 3, 0, (3, 0, 9, 2, 1, 0)), (100, .aload_n 3, 1, 0, (0, 0, 0, 0, 0, 0)), (101, .invokevirtual 98, 3, 0, (2, 2, 0, 0, 1, 0)), (104, .return_, 1, 0, (0, 0, 0, 0, 0, 0))]
set_option maxRecDepth 100000 in
theorem rk50 : R50.all (rok 0 50 0 [(149, [13, 0]), (89, [9, 13, 0]), (79, [9, 13])]) = true := by decide +kernel
set_option maxRecDepth 100000 in
theorem tab50 {F149 : PM → Nat → Int32 → PM} {G149 : PM → Nat → Int32 → Prop} {F89 : PM → Nat → Int32 → PM} {G89 : PM → Nat → Int32 → Prop} {F79 : PM → Nat → PM} {G79 : PM → Nat → Prop} : TabOK 0 50 0 [CC149 F149 G149, CC89 F89 G89, CC79 F79 G79] R50 := tab_ok (K := K50) rfl rfl (fun h => d50 h) rk50 (by decide +kernel)
set_option maxRecDepth 100000 in
theorem pc50 : cutpc [] R50 = true := by decide +kernel
set_option maxRecDepth 100000 in
theorem r3_fallTogether (F149 : PM → Nat → Int32 → PM) (G149 : PM → Nat → Int32 → Prop) (o149 : CalOK 0 (CC149 F149 G149)) (F89 : PM → Nat → Int32 → PM) (G89 : PM → Nat → Int32 → Prop) (o89 : CalOK 0 (CC89 F89 G89)) (F79 : PM → Nat → PM) (G79 : PM → Nat → Prop) (o79 : CalOK 0 (CC79 F79 G79)) : ∀ (p : PM) (v1 : Nat) (v2 : Nat) (v3 : Nat) (v4 : Nat) (v5 : Int32), Gr 0 p → bg3_fallTogether F79 G79 F89 G89 F149 G149 p v1 v2 v3 v4 v5 → ZJ 0 50 0 [zR 3 1, zR 10 v1, zR 10 v2, zR 10 v3, zR 10 v4, zI v5] [] p (hwV (bv3_fallTogether F79 F89 F149 p v1 v2 v3 v4 v5)) := by
  intro p v1 v2 v3 v4 v5  hg H
  exact rwV (n := 3000) (q := 0) (la := [zR 3 1, zR 10 v1, zR 10 v2, zR 10 v3, zR 10 v4, zI v5]) (sa := []) (ks := []) (gs := []) (fcons o149 (fcons o89 (fcons o79 (fnil)))) tab50 pc50 trivial hg H
theorem t3_fallTogether : ∀ (p : PM) (v1 : Nat) (v2 : Nat) (v3 : Nat) (v4 : Nat) (v5 : Int32), Gr 0 p → g3_fallTogether p v1 v2 v3 v4 v5 → ZJ 0 50 0 [zR 3 1, zR 10 v1, zR 10 v2, zR 10 v3, zR 10 v4, zI v5] [] p (hwV (v3_fallTogether p v1 v2 v3 v4 v5)) := r3_fallTogether v10_fall g10_fall ok149 v6_guard g6_guard ok89 v6_showAnew g6_showAnew ok79
def CC50 (F : PM → Nat → Nat → Nat → Nat → Int32 → PM) (G : PM → Nat → Nat → Nat → Nat → Int32 → Prop) : Cal := (50, [6, 13, 13, 13, 13, 0], 0, false, fun as p => (zJ, (F p (ar as 1) (ar as 2) (ar as 3) (ar as 4) (ai as 5))), fun as p => zsw (tc2 as [(103, 1), (14, 0), (14, 0), (14, 0), (14, 0), (0, 0)]) False (G p (ar as 1) (ar as 2) (ar as 3) (ar as 4) (ai as 5)))
set_option maxRecDepth 100000 in
theorem okr50 (F : PM → Nat → Nat → Nat → Nat → Int32 → PM) (G : PM → Nat → Nat → Nat → Nat → Int32 → Prop) (h : ∀ (p : PM) (v1 : Nat) (v2 : Nat) (v3 : Nat) (v4 : Nat) (v5 : Int32), Gr 0 p → G p v1 v2 v3 v4 v5 → ZJ 0 50 0 [zR 3 1, zR 10 v1, zR 10 v2, zR 10 v3, zR 10 v4, zI v5] [] p (hwV (F p v1 v2 v3 v4 v5))) : CalOK 0 (CC50 F G) := cal_ok (m := 6) (by unfold mL; rw [mX_50]) (fun as p hg H => h p (ar as 1) (ar as 2) (ar as 3) (ar as 4) (ai as 5) hg H)
theorem ok50 : CalOK 0 (CC50 v3_fallTogether g3_fallTogether) := okr50 v3_fallTogether g3_fallTogether t3_fallTogether
noncomputable def bv3_makePair_58 (p : PM) : Int32 × PM :=
  ((cn 0), p)
noncomputable def v3_makePair_58 (p : PM) : Int32 × PM := bv3_makePair_58 p
noncomputable def bg3_makePair_58 (p : PM) : Prop :=
  True
noncomputable def g3_makePair_58 (p : PM) : Prop := bg3_makePair_58 p
noncomputable def bv3_makePair_118 (p : PM) : Int32 × PM :=
  ((cn 0), p)
noncomputable def v3_makePair_118 (p : PM) : Int32 × PM := bv3_makePair_118 p
noncomputable def bg3_makePair_118 (p : PM) : Prop :=
  True
noncomputable def g3_makePair_118 (p : PM) : Prop := bg3_makePair_118 p
noncomputable def bv3_makePair_160 (p : PM) : Int32 × PM :=
  ((cn 0), p)
noncomputable def v3_makePair_160 (p : PM) : Int32 × PM := bv3_makePair_160 p
noncomputable def bg3_makePair_160 (p : PM) : Prop :=
  True
noncomputable def g3_makePair_160 (p : PM) : Prop := bg3_makePair_160 p
noncomputable def bv3_makePair_162 (F48 : PM → Nat → Int32 → Nat → Nat → Int32) (F49 : PM → Nat → Int32 → Nat → Nat → Int32 → Int32 → PM) (F50 : PM → Nat → Nat → Nat → Nat → Int32 → PM) (F209 : PM → Int32 → Int32 → Int32) (p : PM) (v2 : Int32) (v4 : Nat) (v5 : Nat) (v6 : Nat) (v7 : Nat) (v8 : Nat) : Int32 × PM :=
  if (F48 p v4 (p.1 10 v7 7) v6 v7) = 0 then (
    if (F48 p v5 (p.1 10 v8 7) v6 v8) = 0 then (
      let x1 : Int32 := (F209 p (p.1 10 v6 11) (F209 p (p.1 10 v7 11) (p.1 10 v8 11)))
      let p2 : PM := F49 p v4 v2 v6 v7 (p.1 10 v7 7) x1
      if v2 = 0 then (
        let p5 : PM := F49 p2 v5 (cn 1) v6 v8 (p2.1 10 v8 7) x1
        let p6 : PM := F50 p5 v6 v7 v8 0 x1
        ((cn 1), p6))
      else (
        let p3 : PM := F49 p2 v5 (cn 0) v6 v8 (p2.1 10 v8 7) x1
        let p4 : PM := F50 p3 v6 v7 v8 0 x1
        ((cn 1), p4)))
    else (
      ((cn 0), p)))
  else (
    ((cn 0), p))
noncomputable def v3_makePair_162 (p : PM) (v2 : Int32) (v4 : Nat) (v5 : Nat) (v6 : Nat) (v7 : Nat) (v8 : Nat) : Int32 × PM := bv3_makePair_162 v3_isBarred v3_record v3_fallTogether v14_min_7cf53 p v2 v4 v5 v6 v7 v8
noncomputable def bg3_makePair_162 (F48 : PM → Nat → Int32 → Nat → Nat → Int32) (G48 : PM → Nat → Int32 → Nat → Nat → Prop) (F49 : PM → Nat → Int32 → Nat → Nat → Int32 → Int32 → PM) (G49 : PM → Nat → Int32 → Nat → Nat → Int32 → Int32 → Prop) (F50 : PM → Nat → Nat → Nat → Nat → Int32 → PM) (G50 : PM → Nat → Nat → Nat → Nat → Int32 → Prop) (F209 : PM → Int32 → Int32 → Int32) (G209 : PM → Int32 → Int32 → Prop) (p : PM) (v2 : Int32) (v4 : Nat) (v5 : Nat) (v6 : Nat) (v7 : Nat) (v8 : Nat) : Prop :=
  (¬ v7 = 0) ∧ (
  (G48 p v4 (p.1 10 v7 7) v6 v7) ∧ (
  if (F48 p v4 (p.1 10 v7 7) v6 v7) = 0 then (
    (¬ v8 = 0) ∧ (
    (G48 p v5 (p.1 10 v8 7) v6 v8) ∧ (
    if (F48 p v5 (p.1 10 v8 7) v6 v8) = 0 then (
      (¬ v6 = 0) ∧ (
      (¬ v7 = 0) ∧ (
      (¬ v8 = 0) ∧ (
      (G209 p (p.1 10 v7 11) (p.1 10 v8 11)) ∧ (
      (G209 p (p.1 10 v6 11) (F209 p (p.1 10 v7 11) (p.1 10 v8 11))) ∧ (
      let x1 : Int32 := (F209 p (p.1 10 v6 11) (F209 p (p.1 10 v7 11) (p.1 10 v8 11)))
      (¬ v7 = 0) ∧ (
      (G49 p v4 v2 v6 v7 (p.1 10 v7 7) x1) ∧ (
      let p2 : PM := F49 p v4 v2 v6 v7 (p.1 10 v7 7) x1
      if v2 = 0 then (
        (¬ v8 = 0) ∧ (
        (G49 p2 v5 (cn 1) v6 v8 (p2.1 10 v8 7) x1) ∧ (
        let p5 : PM := F49 p2 v5 (cn 1) v6 v8 (p2.1 10 v8 7) x1
        (G50 p5 v6 v7 v8 0 x1) ∧ (
        let p6 : PM := F50 p5 v6 v7 v8 0 x1
        True))))
      else (
        (¬ v8 = 0) ∧ (
        (G49 p2 v5 (cn 0) v6 v8 (p2.1 10 v8 7) x1) ∧ (
        let p3 : PM := F49 p2 v5 (cn 0) v6 v8 (p2.1 10 v8 7) x1
        (G50 p3 v6 v7 v8 0 x1) ∧ (
        let p4 : PM := F50 p3 v6 v7 v8 0 x1
        True))))))))))))
    else (
      True))))
  else (
    True)))
noncomputable def g3_makePair_162 (p : PM) (v2 : Int32) (v4 : Nat) (v5 : Nat) (v6 : Nat) (v7 : Nat) (v8 : Nat) : Prop := bg3_makePair_162 v3_isBarred g3_isBarred v3_record g3_record v3_fallTogether g3_fallTogether v14_min_7cf53 g14_min_7cf53 p v2 v4 v5 v6 v7 v8
noncomputable def bv3_makePair_86 (F81 : PM → Nat → Int32 → Nat) (kv118 : PM → Int32 × PM) (kv160 : PM → Int32 × PM) (kv162 : PM → Int32 → Nat → Nat → Nat → Nat → Nat → Int32 × PM) (p : PM) (v2 : Int32) (v4 : Nat) (v5 : Nat) (v6 : Nat) (s0 : Int32) (s1 : Nat) : Int32 × PM :=
  if v6 = 0 then (
    kv118 p)
  else (
    if (F81 p s1 s0) = 0 then (
      kv118 p)
    else (
      if (F81 p v5 v2) = 0 then (
        kv118 p)
      else (
        let x1 : Int32 := ((p.1 10 (F81 p s1 s0) 7) - (p.1 10 (F81 p v5 v2) 7))
        if v2 = 0 then (
          if x1 < (p.1 10 v6 7) then (
            kv160 p)
          else (
            kv162 p v2 v4 v5 v6 (F81 p s1 s0) (F81 p v5 v2)))
        else (
          if (p.1 10 v6 7) < x1 then (
            kv160 p)
          else (
            kv162 p v2 v4 v5 v6 (F81 p s1 s0) (F81 p v5 v2))))))
noncomputable def v3_makePair_86 (p : PM) (v2 : Int32) (v4 : Nat) (v5 : Nat) (v6 : Nat) (s0 : Int32) (s1 : Nat) : Int32 × PM := bv3_makePair_86 v6_firstOf v3_makePair_118 v3_makePair_160 v3_makePair_162 p v2 v4 v5 v6 s0 s1
noncomputable def bg3_makePair_86 (F81 : PM → Nat → Int32 → Nat) (G81 : PM → Nat → Int32 → Prop) (kg118 : PM → Prop) (kg160 : PM → Prop) (kg162 : PM → Int32 → Nat → Nat → Nat → Nat → Nat → Prop) (p : PM) (v2 : Int32) (v4 : Nat) (v5 : Nat) (v6 : Nat) (s0 : Int32) (s1 : Nat) : Prop :=
  (G81 p s1 s0) ∧ (
  (G81 p v5 v2) ∧ (
  if v6 = 0 then (
    kg118 p)
  else (
    if (F81 p s1 s0) = 0 then (
      kg118 p)
    else (
      if (F81 p v5 v2) = 0 then (
        kg118 p)
      else (
        (¬ (F81 p s1 s0) = 0) ∧ (
        (¬ (F81 p v5 v2) = 0) ∧ (
        let x1 : Int32 := ((p.1 10 (F81 p s1 s0) 7) - (p.1 10 (F81 p v5 v2) 7))
        if v2 = 0 then (
          (¬ v6 = 0) ∧ (
          if x1 < (p.1 10 v6 7) then (
            kg160 p)
          else (
            kg162 p v2 v4 v5 v6 (F81 p s1 s0) (F81 p v5 v2))))
        else (
          (¬ v6 = 0) ∧ (
          if (p.1 10 v6 7) < x1 then (
            kg160 p)
          else (
            kg162 p v2 v4 v5 v6 (F81 p s1 s0) (F81 p v5 v2)))))))))))
noncomputable def g3_makePair_86 (p : PM) (v2 : Int32) (v4 : Nat) (v5 : Nat) (v6 : Nat) (s0 : Int32) (s1 : Nat) : Prop := bg3_makePair_86 v6_firstOf g6_firstOf g3_makePair_118 g3_makePair_160 g3_makePair_162 p v2 v4 v5 v6 s0 s1
noncomputable def bv3_makePair (F73 : PM → Int32 → Nat) (F81 : PM → Nat → Int32 → Nat) (kv58 : PM → Int32 × PM) (kv86 : PM → Int32 → Nat → Nat → Nat → Int32 → Nat → Int32 × PM) (p : PM) (v1 : Int32) (v2 : Int32) : Int32 × PM :=
  let x1 : Nat := (F73 p (p.1 1 (F73 p v1) 1))
  let x2 : Nat := (F73 p (p.1 1 (F73 p v1) 2))
  if (p.1 1 (F73 p v1) 5) = 0 then (
    if (p.1 1 x1 5) = 0 then (
      if (p.1 1 x2 5) = 0 then (
        let x3 : Nat := (F81 p (F73 p v1) v2)
        if v2 = 0 then (
          kv86 p v2 x1 x2 x3 (cn 1) x1)
        else (
          kv86 p v2 x1 x2 x3 (cn 0) x1))
      else (
        kv58 p))
    else (
      kv58 p))
  else (
    kv58 p)
noncomputable def v3_makePair (p : PM) (v1 : Int32) (v2 : Int32) : Int32 × PM := bv3_makePair v6_bookAt v6_firstOf v3_makePair_58 v3_makePair_86 p v1 v2
noncomputable def bg3_makePair (F73 : PM → Int32 → Nat) (G73 : PM → Int32 → Prop) (F81 : PM → Nat → Int32 → Nat) (G81 : PM → Nat → Int32 → Prop) (kg58 : PM → Prop) (kg86 : PM → Int32 → Nat → Nat → Nat → Int32 → Nat → Prop) (p : PM) (v1 : Int32) (v2 : Int32) : Prop :=
  (G73 p v1) ∧ (
  (¬ (F73 p v1) = 0) ∧ (
  (G73 p (p.1 1 (F73 p v1) 1)) ∧ (
  let x1 : Nat := (F73 p (p.1 1 (F73 p v1) 1))
  (¬ (F73 p v1) = 0) ∧ (
  (G73 p (p.1 1 (F73 p v1) 2)) ∧ (
  let x2 : Nat := (F73 p (p.1 1 (F73 p v1) 2))
  (¬ (F73 p v1) = 0) ∧ (
  if (p.1 1 (F73 p v1) 5) = 0 then (
    (¬ x1 = 0) ∧ (
    if (p.1 1 x1 5) = 0 then (
      (¬ x2 = 0) ∧ (
      if (p.1 1 x2 5) = 0 then (
        (G81 p (F73 p v1) v2) ∧ (
        let x3 : Nat := (F81 p (F73 p v1) v2)
        if v2 = 0 then (
          kg86 p v2 x1 x2 x3 (cn 1) x1)
        else (
          kg86 p v2 x1 x2 x3 (cn 0) x1)))
      else (
        kg58 p)))
    else (
      kg58 p)))
  else (
    kg58 p)))))))
noncomputable def g3_makePair (p : PM) (v1 : Int32) (v2 : Int32) : Prop := bg3_makePair v6_bookAt g6_bookAt v6_firstOf g6_firstOf g3_makePair_58 g3_makePair_86 p v1 v2
def R46 : List Row := [(0, .aload_n 0, 1, 0, (0, 0, 0, 0, 0, 0)), (1, .getfield 7, 3, 0, (3, 0, 9, 2, 1, 0)), (4, .iload_n 1, 1, 0, (0, 0, 0, 0, 0, 0)), (5, .invokevirtual 17, 3, 0, (0, 2, 0, 0, 1, 0)), (8, .astore_n 3, 1, 0, (0, 0, 0, 0, 0, 0)), (9, .aload_n 0, 1, 0, (0, 0, 0, 0, 0, 0)), (10, .getfield 7, 3, 0, (3, 0, 9, 2, 1, 0)), (13, .aload_n 3, 1, 0, (0, 0, 0, 0, 0, 0)), (14, .getfield 23, 3, 0, (1, 1, 0, 0, 0, 0)), (17, .invokevirtual 17, 3, 0, (0, 2, 0, 0, 1, 0)), (20, .astore 4, 2, 0, (0, 0, 0, 0, 0, 0)), (22, .aload_n 0, 1, 0, (0, 0, 0, 0, 0, 0)), (23, .getfield 7, 3, 0, (3, 0, 9, 2, 1, 0)), (26, .aload_n 3, 1, 0, (0, 0, 0, 0, 0, 0)), (27, .getfield 29, 3, 0, (1, 2, 0, 0, 0, 0)), (30, .invokevirtual 17, 3, 0, (0, 2, 0, 0, 1, 0)), (33, .astore 5, 2, 0, (0, 0, 0, 0, 0, 0)), (35, .aload_n 3, 1, 0, (0, 0, 0, 0, 0, 0)), (36, .getfield 32, 3, 0, (1, 5, 1, 0, 0, 0)), (39, .ifCond .ne 19, 3, 0, (0, 0, 0, 0, 0, 0)), (42, .aload 4, 2, 0, (0, 0, 0, 0, 0, 0)), (44, .getfield 32, 3, 0, (1, 5, 1, 0, 0, 0)), (47, .ifCond .ne 11, 3, 0, (0, 0, 0, 0, 0, 0)), (50, .aload 5, 2, 0, (0, 0, 0, 0, 0, 0)), (52, .getfield 32, 3, 0, (1, 5, 1, 0, 0, 0)), (55, .ifCond .eq 5, 3, 0, (0, 0, 0, 0, 0, 0)), (58, .iconst 0, 1, 1, (0, 0, 0, 0, 0, 0)), (59, .ireturn, 1, 0, (1, 0, 0, 0, 0, 0)), (60, .aload_n 0, 1, 0, (0, 0, 0, 0, 0, 0)), (61, .getfield 7, 3, 0, (3, 0, 9, 2, 1, 0)), (64, .aload_n 3, 1, 0, (0, 0, 0, 0, 0, 0)), (65, .iload_n 2, 1, 0, (0, 0, 0, 0, 0, 0)), (66, .invokevirtual 36, 3, 0, (1, 3, 0, 0, 1, 0)), (69, .astore 6, 2, 0, (0, 0, 0, 0, 0, 0)), (71, .aload_n 0, 1, 0, (0, 0, 0, 0, 0, 0)), (72, .getfield 7, 3, 0, (3, 0, 9, 2, 1, 0)), (75, .aload 4, 2, 0, (0, 0, 0, 0, 0, 0)), (77, .iload_n 2, 1, 0, (0, 0, 0, 0, 0, 0)), (78, .ifCond .ne 7, 3, 0, (0, 0, 0, 0, 0, 0)), (81, .iconst 1, 1, 0, (0, 0, 0, 0, 0, 1)), (82, .goto 4, 3, 0, (0, 0, 0, 0, 0, 0)), (85, .iconst 0, 1, 0, (0, 0, 0, 0, 0, 0)), (86, .invokevirtual 36, 3, 2, (1, 3, 0, 0, 1, 0)), (89, .astore 7, 2, 0, (0, 0, 0, 0, 0, 0)), (91, .aload_n 0, 1, 0, (0, 0, 0, 0, 0, 0)), (92, .getfield 7, 3, 0, (3, 0, 9, 2, 1, 0)), (95, .aload 5, 2, 0, (0, 0, 0, 0, 0, 0)), (97, .iload_n 2, 1, 0, (0, 0, 0, 0, 0, 0)), (98, .invokevirtual 36, 3, 0, (1, 3, 0, 0, 1, 0)), (101, .astore 8, 2, 0, (0, 0, 0, 0, 0, 0)), (103, .aload 6, 2, 0, (0, 0, 0, 0, 0, 0)), (105, .ifnull 13, 3, 0, (0, 0, 0, 0, 0, 0)), (108, .aload 7, 2, 0, (0, 0, 0, 0, 0, 0)), (110, .ifnull 8, 3, 0, (0, 0, 0, 0, 0, 0)), (113, .aload 8, 2, 0, (0, 0, 0, 0, 0, 0)), (115, .ifnonnull 5, 3, 0, (0, 0, 0, 0, 0, 0)), (118, .iconst 0, 1, 3, (0, 0, 0, 0, 0, 0)), (119, .ireturn, 1, 0, (1, 0, 0, 0, 0, 0)), (120, .aload 7, 2, 0, (0, 0, 0, 0, 0, 0)), (122, .getfield 40, 3, 0, (10, 7, 0, 0, 0, 0)), (125, .aload 8, 2, 0, (0, 0, 0, 0, 0, 0)), (127, .getfield 40, 3, 0, (10, 7, 0, 0, 0, 0)), (130, .isub, 1, 0, (0, 0, 0, 0, 0, 0)), (131, .istore 9, 2, 0, (0, 0, 0, 0, 0, 0)), (133, .iload_n 2, 1, 0, (0, 0, 0, 0, 0, 0)), (134, .ifCond .eq 16, 3, 0, (0, 0, 0, 0, 0, 0)), (137, .aload 6, 2, 0, (0, 0, 0, 0, 0, 0)), (139, .getfield 40, 3, 0, (10, 7, 0, 0, 0, 0)), (142, .iload 9, 2, 0, (0, 0, 0, 0, 0, 0)), (144, .if_icmp .ge 18, 3, 0, (0, 0, 0, 0, 0, 0)), (147, .goto 13, 3, 0, (0, 0, 0, 0, 0, 0)), (150, .aload 6, 2, 0, (0, 0, 0, 0, 0, 0)), (152, .getfield 40, 3, 0, (10, 7, 0, 0, 0, 0)), (155, .iload 9, 2, 0, (0, 0, 0, 0, 0, 0)), (157, .if_icmp .le 5, 3, 0, (0, 0, 0, 0, 0, 0)), (160, .iconst 0, 1, 4, (0, 0, 0, 0, 0, 0)), (161, .ireturn, 1, 0, (1, 0, 0, 0, 0, 0)), (162, .aload 4, 2, 5, (0, 0, 0, 0, 0, 0)), (164, .aload 7, 2, 0, (0, 0, 0, 0, 0, 0)), (166, .getfield 40, 3, 0, (10, 7, 0, 0, 0, 0)), (169, .aload 6, 2, 0, (0, 0, 0, 0, 0, 0)), (171, .aload 7, 2, 0, (0, 0, 0, 0, 0, 0)), (173, .invokestatic 45, 3, 0, (2, 4, 0, 0, 0, 0)), (176, .ifCond .ne 20, 3, 0, (0, 0, 0, 0, 0, 0)), (179, .aload 5, 2, 0, (0, 0, 0, 0, 0, 0)), (181, .aload 8, 2, 0, (0, 0, 0, 0, 0, 0)), (183, .getfield 40, 3, 0, (10, 7, 0, 0, 0, 0)), (186, .aload 6, 2, 0, (0, 0, 0, 0, 0, 0)), (188, .aload 8, 2, 0, (0, 0, 0, 0, 0, 0)), (190, .invokestatic 45, 3, 0, (2, 4, 0, 0, 0, 0)), (193, .ifCond .eq 5, 3, 0, (0, 0, 0, 0, 0, 0)), (196, .iconst 0, 1, 0, (0, 0, 0, 0, 0, 0)), (197, .ireturn, 1, 0, (1, 0, 0, 0, 0, 0)), (198, .aload 6, 2, 0, (0, 0, 0, 0, 0, 0)), (200, .getfield 49, 3, 0, (10, 11, 0, 0, 0, 0)), (203, .aload 7, 2, 0, (0, 0, 0, 0, 0, 0)), (205, .getfield 49, 3, 0, (10, 11, 0, 0, 0, 0)), (208, .aload 8, 2, 0, (0, 0, 0, 0, 0, 0)), (210, .getfield 49, 3, 0, (10, 11, 0, 0, 0, 0)), (213, .invokestatic 52, 3, 0, (3, 2, 0, 0, 0, 0)), (216, .invokestatic 52, 3, 0, (3, 2, 0, 0, 0, 0)), (219, .istore 10, 2, 0, (0, 0, 0, 0, 0, 0)), (221, .aload_n 0, 1, 0, (0, 0, 0, 0, 0, 0)), (222, .aload 4, 2, 0, (0, 0, 0, 0, 0, 0)), (224, .iload_n 2, 1, 0, (0, 0, 0, 0, 0, 0)), (225, .aload 6, 2, 0, (0, 0, 0, 0, 0, 0)), (227, .aload 7, 2, 0, (0, 0, 0, 0, 0, 0)), (229, .aload 7, 2, 0, (0, 0, 0, 0, 0, 0)), (231, .getfield 40, 3, 0, (10, 7, 0, 0, 0, 0)), (234, .iload 10, 2, 0, (0, 0, 0, 0, 0, 0)), (236, .invokevirtual 58, 3, 0, (4, 7, 0, 0, 1, 0)), (239, .aload_n 0, 1, 0, (0, 0, 0, 0, 0, 0)), (240, .aload 5, 2, 0, (0, 0, 0, 0, 0, 0)), (242, .iload_n 2, 1, 0, (0, 0, 0, 0, 0, 0)), (243, .ifCond .ne 7, 3, 0, (0, 0, 0, 0, 0, 0)), (246, .iconst 1, 1, 0, (0, 0, 0, 0, 0, 1)), (247, .goto 4, 3, 0, (0, 0, 0, 0, 0, 0)), (250, .iconst 0, 1, 0, (0, 0, 0, 0, 0, 0)), (251, .aload 6, 2, 0, (0, 0, 0, 0, 0, 0)), (253, .aload 8, 2, 0, (0, 0, 0, 0, 0, 0)), (255, .aload 8, 2, 0, (0, 0, 0, 0, 0, 0)), (257, .getfield 40, 3, 0, (10, 7, 0, 0, 0, 0)), (260, .iload 10, 2, 0, (0, 0, 0, 0, 0, 0)), (262, .invokevirtual 58, 3, 0, (4, 7, 0, 0, 1, 0)), (265, .aload_n 0, 1, 0, (0, 0, 0, 0, 0, 0)), (266, .aload 6, 2, 0, (0, 0, 0, 0, 0, 0)), (268, .aload 7, 2, 0, (0, 0, 0, 0, 0, 0)), (270, .aload 8, 2, 0, (0, 0, 0, 0, 0, 0)), (272, .aconst_null, 1, 0, (10, 0, 0, 0, 0, 0)), (273, .iload 10, 2, 0, (0, 0, 0, 0, 0, 0)), (275, .invokevirtual 62, 3, 0, (5, 6, 0, 0, 1, 0)), (278, .iconst 1, 1, 0, (0, 0, 0, 0, 0, 1)), (279, .ireturn, 1, 0, (1, 0, 0, 0, 0, 0))]
set_option maxRecDepth 100000 in
theorem rk46 : R46.all (rok 0 46 1 [(73, [9, 0]), (81, [9, 4, 0]), (48, [4, 0, 13, 13]), (209, [0, 0]), (49, [6, 4, 0, 13, 13, 0, 0]), (50, [6, 13, 13, 13, 13, 0])]) = true := by decide +kernel
set_option maxRecDepth 100000 in
theorem tab46 {F73 : PM → Int32 → Nat} {G73 : PM → Int32 → Prop} {F81 : PM → Nat → Int32 → Nat} {G81 : PM → Nat → Int32 → Prop} {F48 : PM → Nat → Int32 → Nat → Nat → Int32} {G48 : PM → Nat → Int32 → Nat → Nat → Prop} {F209 : PM → Int32 → Int32 → Int32} {G209 : PM → Int32 → Int32 → Prop} {F49 : PM → Nat → Int32 → Nat → Nat → Int32 → Int32 → PM} {G49 : PM → Nat → Int32 → Nat → Nat → Int32 → Int32 → Prop} {F50 : PM → Nat → Nat → Nat → Nat → Int32 → PM} {G50 : PM → Nat → Nat → Nat → Nat → Int32 → Prop} : TabOK 0 46 1 [CC73 F73 G73, CC81 F81 G81, CC48 F48 G48, CC209 F209 G209, CC49 F49 G49, CC50 F50 G50] R46 := tab_ok (K := K46) rfl rfl (fun h => d46 h) rk46 (by decide +kernel)
set_option maxRecDepth 100000 in
theorem pc46 : cutpc [58, 86, 118, 160, 162] R46 = true := by decide +kernel
set_option maxRecDepth 100000 in
theorem r3_makePair_58 (F73 : PM → Int32 → Nat) (G73 : PM → Int32 → Prop) (o73 : CalOK 0 (CC73 F73 G73)) (F81 : PM → Nat → Int32 → Nat) (G81 : PM → Nat → Int32 → Prop) (o81 : CalOK 0 (CC81 F81 G81)) (F48 : PM → Nat → Int32 → Nat → Nat → Int32) (G48 : PM → Nat → Int32 → Nat → Nat → Prop) (o48 : CalOK 0 (CC48 F48 G48)) (F209 : PM → Int32 → Int32 → Int32) (G209 : PM → Int32 → Int32 → Prop) (o209 : CalOK 0 (CC209 F209 G209)) (F49 : PM → Nat → Int32 → Nat → Nat → Int32 → Int32 → PM) (G49 : PM → Nat → Int32 → Nat → Nat → Int32 → Int32 → Prop) (o49 : CalOK 0 (CC49 F49 G49)) (F50 : PM → Nat → Nat → Nat → Nat → Int32 → PM) (G50 : PM → Nat → Nat → Nat → Nat → Int32 → Prop) (o50 : CalOK 0 (CC50 F50 G50)) : ∀ (p : PM) (d0 d1 d2 d3 d4 d5 d6 d7 d8 d9 d10 : ZV), Gr 0 p → bg3_makePair_58 p → ZJ 0 46 58 [d0, d1, d2, d3, d4, d5, d6, d7, d8, d9, d10] [] p (hwI (bv3_makePair_58 p)) := by
  intro p  d0 d1 d2 d3 d4 d5 d6 d7 d8 d9 d10 hg H
  exact rwI (n := 3000) (q := 58) (la := [d0, d1, d2, d3, d4, d5, d6, d7, d8, d9, d10]) (sa := []) (ks := [fun _ _ s => (0, s), fun _ _ s => (0, s), fun _ _ s => (0, s), fun _ _ s => (0, s), fun _ _ s => (0, s)]) (gs := [fun _ _ _ => False, fun _ _ _ => False, fun _ _ _ => False, fun _ _ _ => False, fun _ _ _ => False]) (fcons o73 (fcons o81 (fcons o48 (fcons o209 (fcons o49 (fcons o50 (fnil))))))) tab46 pc46 ⟨fun _ _ _ _ H => H.elim, fun _ _ _ _ H => H.elim, fun _ _ _ _ H => H.elim, fun _ _ _ _ H => H.elim, fun _ _ _ _ H => H.elim, trivial⟩ hg H
theorem t3_makePair_58 : ∀ (p : PM) (d0 d1 d2 d3 d4 d5 d6 d7 d8 d9 d10 : ZV), Gr 0 p → g3_makePair_58 p → ZJ 0 46 58 [d0, d1, d2, d3, d4, d5, d6, d7, d8, d9, d10] [] p (hwI (v3_makePair_58 p)) := r3_makePair_58 v6_bookAt g6_bookAt ok73 v6_firstOf g6_firstOf ok81 v3_isBarred g3_isBarred ok48 v14_min_7cf53 g14_min_7cf53 ok209 v3_record g3_record ok49 v3_fallTogether g3_fallTogether ok50
set_option maxRecDepth 100000 in
theorem r3_makePair_118 (F73 : PM → Int32 → Nat) (G73 : PM → Int32 → Prop) (o73 : CalOK 0 (CC73 F73 G73)) (F81 : PM → Nat → Int32 → Nat) (G81 : PM → Nat → Int32 → Prop) (o81 : CalOK 0 (CC81 F81 G81)) (F48 : PM → Nat → Int32 → Nat → Nat → Int32) (G48 : PM → Nat → Int32 → Nat → Nat → Prop) (o48 : CalOK 0 (CC48 F48 G48)) (F209 : PM → Int32 → Int32 → Int32) (G209 : PM → Int32 → Int32 → Prop) (o209 : CalOK 0 (CC209 F209 G209)) (F49 : PM → Nat → Int32 → Nat → Nat → Int32 → Int32 → PM) (G49 : PM → Nat → Int32 → Nat → Nat → Int32 → Int32 → Prop) (o49 : CalOK 0 (CC49 F49 G49)) (F50 : PM → Nat → Nat → Nat → Nat → Int32 → PM) (G50 : PM → Nat → Nat → Nat → Nat → Int32 → Prop) (o50 : CalOK 0 (CC50 F50 G50)) : ∀ (p : PM) (d0 d1 d2 d3 d4 d5 d6 d7 d8 d9 d10 : ZV), Gr 0 p → bg3_makePair_118 p → ZJ 0 46 118 [d0, d1, d2, d3, d4, d5, d6, d7, d8, d9, d10] [] p (hwI (bv3_makePair_118 p)) := by
  intro p  d0 d1 d2 d3 d4 d5 d6 d7 d8 d9 d10 hg H
  exact rwI (n := 3000) (q := 118) (la := [d0, d1, d2, d3, d4, d5, d6, d7, d8, d9, d10]) (sa := []) (ks := [fun _ _ s => (0, s), fun _ _ s => (0, s), fun _ _ s => (0, s), fun _ _ s => (0, s), fun _ _ s => (0, s)]) (gs := [fun _ _ _ => False, fun _ _ _ => False, fun _ _ _ => False, fun _ _ _ => False, fun _ _ _ => False]) (fcons o73 (fcons o81 (fcons o48 (fcons o209 (fcons o49 (fcons o50 (fnil))))))) tab46 pc46 ⟨fun _ _ _ _ H => H.elim, fun _ _ _ _ H => H.elim, fun _ _ _ _ H => H.elim, fun _ _ _ _ H => H.elim, fun _ _ _ _ H => H.elim, trivial⟩ hg H
theorem t3_makePair_118 : ∀ (p : PM) (d0 d1 d2 d3 d4 d5 d6 d7 d8 d9 d10 : ZV), Gr 0 p → g3_makePair_118 p → ZJ 0 46 118 [d0, d1, d2, d3, d4, d5, d6, d7, d8, d9, d10] [] p (hwI (v3_makePair_118 p)) := r3_makePair_118 v6_bookAt g6_bookAt ok73 v6_firstOf g6_firstOf ok81 v3_isBarred g3_isBarred ok48 v14_min_7cf53 g14_min_7cf53 ok209 v3_record g3_record ok49 v3_fallTogether g3_fallTogether ok50
set_option maxRecDepth 100000 in
theorem r3_makePair_160 (F73 : PM → Int32 → Nat) (G73 : PM → Int32 → Prop) (o73 : CalOK 0 (CC73 F73 G73)) (F81 : PM → Nat → Int32 → Nat) (G81 : PM → Nat → Int32 → Prop) (o81 : CalOK 0 (CC81 F81 G81)) (F48 : PM → Nat → Int32 → Nat → Nat → Int32) (G48 : PM → Nat → Int32 → Nat → Nat → Prop) (o48 : CalOK 0 (CC48 F48 G48)) (F209 : PM → Int32 → Int32 → Int32) (G209 : PM → Int32 → Int32 → Prop) (o209 : CalOK 0 (CC209 F209 G209)) (F49 : PM → Nat → Int32 → Nat → Nat → Int32 → Int32 → PM) (G49 : PM → Nat → Int32 → Nat → Nat → Int32 → Int32 → Prop) (o49 : CalOK 0 (CC49 F49 G49)) (F50 : PM → Nat → Nat → Nat → Nat → Int32 → PM) (G50 : PM → Nat → Nat → Nat → Nat → Int32 → Prop) (o50 : CalOK 0 (CC50 F50 G50)) : ∀ (p : PM) (d0 d1 d2 d3 d4 d5 d6 d7 d8 d9 d10 : ZV), Gr 0 p → bg3_makePair_160 p → ZJ 0 46 160 [d0, d1, d2, d3, d4, d5, d6, d7, d8, d9, d10] [] p (hwI (bv3_makePair_160 p)) := by
  intro p  d0 d1 d2 d3 d4 d5 d6 d7 d8 d9 d10 hg H
  exact rwI (n := 3000) (q := 160) (la := [d0, d1, d2, d3, d4, d5, d6, d7, d8, d9, d10]) (sa := []) (ks := [fun _ _ s => (0, s), fun _ _ s => (0, s), fun _ _ s => (0, s), fun _ _ s => (0, s), fun _ _ s => (0, s)]) (gs := [fun _ _ _ => False, fun _ _ _ => False, fun _ _ _ => False, fun _ _ _ => False, fun _ _ _ => False]) (fcons o73 (fcons o81 (fcons o48 (fcons o209 (fcons o49 (fcons o50 (fnil))))))) tab46 pc46 ⟨fun _ _ _ _ H => H.elim, fun _ _ _ _ H => H.elim, fun _ _ _ _ H => H.elim, fun _ _ _ _ H => H.elim, fun _ _ _ _ H => H.elim, trivial⟩ hg H
theorem t3_makePair_160 : ∀ (p : PM) (d0 d1 d2 d3 d4 d5 d6 d7 d8 d9 d10 : ZV), Gr 0 p → g3_makePair_160 p → ZJ 0 46 160 [d0, d1, d2, d3, d4, d5, d6, d7, d8, d9, d10] [] p (hwI (v3_makePair_160 p)) := r3_makePair_160 v6_bookAt g6_bookAt ok73 v6_firstOf g6_firstOf ok81 v3_isBarred g3_isBarred ok48 v14_min_7cf53 g14_min_7cf53 ok209 v3_record g3_record ok49 v3_fallTogether g3_fallTogether ok50
set_option maxRecDepth 100000 in
theorem r3_makePair_162 (F73 : PM → Int32 → Nat) (G73 : PM → Int32 → Prop) (o73 : CalOK 0 (CC73 F73 G73)) (F81 : PM → Nat → Int32 → Nat) (G81 : PM → Nat → Int32 → Prop) (o81 : CalOK 0 (CC81 F81 G81)) (F48 : PM → Nat → Int32 → Nat → Nat → Int32) (G48 : PM → Nat → Int32 → Nat → Nat → Prop) (o48 : CalOK 0 (CC48 F48 G48)) (F209 : PM → Int32 → Int32 → Int32) (G209 : PM → Int32 → Int32 → Prop) (o209 : CalOK 0 (CC209 F209 G209)) (F49 : PM → Nat → Int32 → Nat → Nat → Int32 → Int32 → PM) (G49 : PM → Nat → Int32 → Nat → Nat → Int32 → Int32 → Prop) (o49 : CalOK 0 (CC49 F49 G49)) (F50 : PM → Nat → Nat → Nat → Nat → Int32 → PM) (G50 : PM → Nat → Nat → Nat → Nat → Int32 → Prop) (o50 : CalOK 0 (CC50 F50 G50)) : ∀ (p : PM) (v2 : Int32) (v4 : Nat) (v5 : Nat) (v6 : Nat) (v7 : Nat) (v8 : Nat) (d1 d3 d9 d10 : ZV), Gr 0 p → bg3_makePair_162 F48 G48 F49 G49 F50 G50 F209 G209 p v2 v4 v5 v6 v7 v8 → ZJ 0 46 162 [zR 3 1, d1, zI v2, d3, zR 1 v4, zR 1 v5, zR 10 v6, zR 10 v7, zR 10 v8, d9, d10] [] p (hwI (bv3_makePair_162 F48 F49 F50 F209 p v2 v4 v5 v6 v7 v8)) := by
  intro p v2 v4 v5 v6 v7 v8 d1 d3 d9 d10 hg H
  exact rwI (n := 3000) (q := 162) (la := [zR 3 1, d1, zI v2, d3, zR 1 v4, zR 1 v5, zR 10 v6, zR 10 v7, zR 10 v8, d9, d10]) (sa := []) (ks := [fun _ _ s => (0, s), fun _ _ s => (0, s), fun _ _ s => (0, s), fun _ _ s => (0, s), fun _ _ s => (0, s)]) (gs := [fun _ _ _ => False, fun _ _ _ => False, fun _ _ _ => False, fun _ _ _ => False, fun _ _ _ => False]) (fcons o73 (fcons o81 (fcons o48 (fcons o209 (fcons o49 (fcons o50 (fnil))))))) tab46 pc46 ⟨fun _ _ _ _ H => H.elim, fun _ _ _ _ H => H.elim, fun _ _ _ _ H => H.elim, fun _ _ _ _ H => H.elim, fun _ _ _ _ H => H.elim, trivial⟩ hg H
theorem t3_makePair_162 : ∀ (p : PM) (v2 : Int32) (v4 : Nat) (v5 : Nat) (v6 : Nat) (v7 : Nat) (v8 : Nat) (d1 d3 d9 d10 : ZV), Gr 0 p → g3_makePair_162 p v2 v4 v5 v6 v7 v8 → ZJ 0 46 162 [zR 3 1, d1, zI v2, d3, zR 1 v4, zR 1 v5, zR 10 v6, zR 10 v7, zR 10 v8, d9, d10] [] p (hwI (v3_makePair_162 p v2 v4 v5 v6 v7 v8)) := r3_makePair_162 v6_bookAt g6_bookAt ok73 v6_firstOf g6_firstOf ok81 v3_isBarred g3_isBarred ok48 v14_min_7cf53 g14_min_7cf53 ok209 v3_record g3_record ok49 v3_fallTogether g3_fallTogether ok50
set_option maxRecDepth 100000 in
theorem r3_makePair_86 (F73 : PM → Int32 → Nat) (G73 : PM → Int32 → Prop) (o73 : CalOK 0 (CC73 F73 G73)) (F81 : PM → Nat → Int32 → Nat) (G81 : PM → Nat → Int32 → Prop) (o81 : CalOK 0 (CC81 F81 G81)) (F48 : PM → Nat → Int32 → Nat → Nat → Int32) (G48 : PM → Nat → Int32 → Nat → Nat → Prop) (o48 : CalOK 0 (CC48 F48 G48)) (F209 : PM → Int32 → Int32 → Int32) (G209 : PM → Int32 → Int32 → Prop) (o209 : CalOK 0 (CC209 F209 G209)) (F49 : PM → Nat → Int32 → Nat → Nat → Int32 → Int32 → PM) (G49 : PM → Nat → Int32 → Nat → Nat → Int32 → Int32 → Prop) (o49 : CalOK 0 (CC49 F49 G49)) (F50 : PM → Nat → Nat → Nat → Nat → Int32 → PM) (G50 : PM → Nat → Nat → Nat → Nat → Int32 → Prop) (o50 : CalOK 0 (CC50 F50 G50)) (kv118 : PM → Int32 × PM) (kg118 : PM → Prop) (hk118 : ∀ (p : PM) (d0 d1 d2 d3 d4 d5 d6 d7 d8 d9 d10 : ZV), Gr 0 p → kg118 p  → ZJ 0 46 118 [d0, d1, d2, d3, d4, d5, d6, d7, d8, d9, d10] [] p (hwI (kv118 p ))) (kv160 : PM → Int32 × PM) (kg160 : PM → Prop) (hk160 : ∀ (p : PM) (d0 d1 d2 d3 d4 d5 d6 d7 d8 d9 d10 : ZV), Gr 0 p → kg160 p  → ZJ 0 46 160 [d0, d1, d2, d3, d4, d5, d6, d7, d8, d9, d10] [] p (hwI (kv160 p ))) (kv162 : PM → Int32 → Nat → Nat → Nat → Nat → Nat → Int32 × PM) (kg162 : PM → Int32 → Nat → Nat → Nat → Nat → Nat → Prop) (hk162 : ∀ (p : PM) (v2 : Int32) (v4 : Nat) (v5 : Nat) (v6 : Nat) (v7 : Nat) (v8 : Nat) (d1 d3 d9 d10 : ZV), Gr 0 p → kg162 p v2 v4 v5 v6 v7 v8 → ZJ 0 46 162 [zR 3 1, d1, zI v2, d3, zR 1 v4, zR 1 v5, zR 10 v6, zR 10 v7, zR 10 v8, d9, d10] [] p (hwI (kv162 p v2 v4 v5 v6 v7 v8))) : ∀ (p : PM) (v2 : Int32) (v4 : Nat) (v5 : Nat) (v6 : Nat) (s0 : Int32) (s1 : Nat) (d1 d3 d7 d8 d9 d10 : ZV), Gr 0 p → bg3_makePair_86 F81 G81 kg118 kg160 kg162 p v2 v4 v5 v6 s0 s1 → ZJ 0 46 86 [zR 3 1, d1, zI v2, d3, zR 1 v4, zR 1 v5, zR 10 v6, d7, d8, d9, d10] [zI s0, zR 1 s1, zR 6 1] p (hwI (bv3_makePair_86 F81 kv118 kv160 kv162 p v2 v4 v5 v6 s0 s1)) := by
  intro p v2 v4 v5 v6 s0 s1 d1 d3 d7 d8 d9 d10 hg H
  exact rwI (n := 3000) (q := 86) (la := [zR 3 1, d1, zI v2, d3, zR 1 v4, zR 1 v5, zR 10 v6, d7, d8, d9, d10]) (sa := [zI s0, zR 1 s1, zR 6 1]) (ks := [fun _ _ s => (0, s), fun _ _ s => (0, s), fun la sa s => kv118 s, fun la sa s => kv160 s, fun la sa s => kv162 s (ai la 2) (ar la 4) (ar la 5) (ar la 6) (ar la 7) (ar la 8)]) (gs := [fun _ _ _ => False, fun _ _ _ => False, fun la sa s => zsw (tc2 la [(2, 0), (2, 0), (2, 0), (2, 0), (2, 0), (2, 0), (2, 0), (2, 0), (2, 0), (2, 0), (2, 0)] && tc2 sa []) False (kg118 s ), fun la sa s => zsw (tc2 la [(2, 0), (2, 0), (2, 0), (2, 0), (2, 0), (2, 0), (2, 0), (2, 0), (2, 0), (2, 0), (2, 0)] && tc2 sa []) False (kg160 s ), fun la sa s => zsw (tc2 la [(103, 1), (2, 0), (0, 0), (2, 0), (5, 0), (5, 0), (14, 0), (14, 0), (14, 0), (2, 0), (2, 0)] && tc2 sa []) False (kg162 s (ai la 2) (ar la 4) (ar la 5) (ar la 6) (ar la 7) (ar la 8))]) (fcons o73 (fcons o81 (fcons o48 (fcons o209 (fcons o49 (fcons o50 (fnil))))))) tab46 pc46 ⟨fun _ _ _ _ H => H.elim, fun _ _ _ _ H => H.elim, fun la sa s hg H => zcut H fun H => hk118 s (zld la 0) (zld la 1) (zld la 2) (zld la 3) (zld la 4) (zld la 5) (zld la 6) (zld la 7) (zld la 8) (zld la 9) (zld la 10) hg H, fun la sa s hg H => zcut H fun H => hk160 s (zld la 0) (zld la 1) (zld la 2) (zld la 3) (zld la 4) (zld la 5) (zld la 6) (zld la 7) (zld la 8) (zld la 9) (zld la 10) hg H, fun la sa s hg H => zcut H fun H => hk162 s (ai la 2) (ar la 4) (ar la 5) (ar la 6) (ar la 7) (ar la 8) (zld la 1) (zld la 3) (zld la 9) (zld la 10) hg H, trivial⟩ hg H
theorem t3_makePair_86 : ∀ (p : PM) (v2 : Int32) (v4 : Nat) (v5 : Nat) (v6 : Nat) (s0 : Int32) (s1 : Nat) (d1 d3 d7 d8 d9 d10 : ZV), Gr 0 p → g3_makePair_86 p v2 v4 v5 v6 s0 s1 → ZJ 0 46 86 [zR 3 1, d1, zI v2, d3, zR 1 v4, zR 1 v5, zR 10 v6, d7, d8, d9, d10] [zI s0, zR 1 s1, zR 6 1] p (hwI (v3_makePair_86 p v2 v4 v5 v6 s0 s1)) := r3_makePair_86 v6_bookAt g6_bookAt ok73 v6_firstOf g6_firstOf ok81 v3_isBarred g3_isBarred ok48 v14_min_7cf53 g14_min_7cf53 ok209 v3_record g3_record ok49 v3_fallTogether g3_fallTogether ok50 (v3_makePair_118) (g3_makePair_118) (t3_makePair_118) (v3_makePair_160) (g3_makePair_160) (t3_makePair_160) (v3_makePair_162) (g3_makePair_162) (t3_makePair_162)
set_option maxRecDepth 100000 in
theorem r3_makePair (F73 : PM → Int32 → Nat) (G73 : PM → Int32 → Prop) (o73 : CalOK 0 (CC73 F73 G73)) (F81 : PM → Nat → Int32 → Nat) (G81 : PM → Nat → Int32 → Prop) (o81 : CalOK 0 (CC81 F81 G81)) (F48 : PM → Nat → Int32 → Nat → Nat → Int32) (G48 : PM → Nat → Int32 → Nat → Nat → Prop) (o48 : CalOK 0 (CC48 F48 G48)) (F209 : PM → Int32 → Int32 → Int32) (G209 : PM → Int32 → Int32 → Prop) (o209 : CalOK 0 (CC209 F209 G209)) (F49 : PM → Nat → Int32 → Nat → Nat → Int32 → Int32 → PM) (G49 : PM → Nat → Int32 → Nat → Nat → Int32 → Int32 → Prop) (o49 : CalOK 0 (CC49 F49 G49)) (F50 : PM → Nat → Nat → Nat → Nat → Int32 → PM) (G50 : PM → Nat → Nat → Nat → Nat → Int32 → Prop) (o50 : CalOK 0 (CC50 F50 G50)) (kv58 : PM → Int32 × PM) (kg58 : PM → Prop) (hk58 : ∀ (p : PM) (d0 d1 d2 d3 d4 d5 d6 d7 d8 d9 d10 : ZV), Gr 0 p → kg58 p  → ZJ 0 46 58 [d0, d1, d2, d3, d4, d5, d6, d7, d8, d9, d10] [] p (hwI (kv58 p ))) (kv86 : PM → Int32 → Nat → Nat → Nat → Int32 → Nat → Int32 × PM) (kg86 : PM → Int32 → Nat → Nat → Nat → Int32 → Nat → Prop) (hk86 : ∀ (p : PM) (v2 : Int32) (v4 : Nat) (v5 : Nat) (v6 : Nat) (s0 : Int32) (s1 : Nat) (d1 d3 d7 d8 d9 d10 : ZV), Gr 0 p → kg86 p v2 v4 v5 v6 s0 s1 → ZJ 0 46 86 [zR 3 1, d1, zI v2, d3, zR 1 v4, zR 1 v5, zR 10 v6, d7, d8, d9, d10] [zI s0, zR 1 s1, zR 6 1] p (hwI (kv86 p v2 v4 v5 v6 s0 s1))) : ∀ (p : PM) (v1 : Int32) (v2 : Int32), Gr 0 p → bg3_makePair F73 G73 F81 G81 kg58 kg86 p v1 v2 → ZJ 0 46 0 [zR 3 1, zI v1, zI v2, zJ, zJ, zJ, zJ, zJ, zJ, zJ, zJ] [] p (hwI (bv3_makePair F73 F81 kv58 kv86 p v1 v2)) := by
  intro p v1 v2  hg H
  exact rwI (n := 3000) (q := 0) (la := [zR 3 1, zI v1, zI v2, zJ, zJ, zJ, zJ, zJ, zJ, zJ, zJ]) (sa := []) (ks := [fun la sa s => kv58 s, fun la sa s => kv86 s (ai la 2) (ar la 4) (ar la 5) (ar la 6) (ai sa 0) (ar sa 1), fun _ _ s => (0, s), fun _ _ s => (0, s), fun _ _ s => (0, s)]) (gs := [fun la sa s => zsw (tc2 la [(2, 0), (2, 0), (2, 0), (2, 0), (2, 0), (2, 0), (2, 0), (2, 0), (2, 0), (2, 0), (2, 0)] && tc2 sa []) False (kg58 s ), fun la sa s => zsw (tc2 la [(103, 1), (2, 0), (0, 0), (2, 0), (5, 0), (5, 0), (14, 0), (2, 0), (2, 0), (2, 0), (2, 0)] && tc2 sa [(0, 0), (5, 0), (106, 1)]) False (kg86 s (ai la 2) (ar la 4) (ar la 5) (ar la 6) (ai sa 0) (ar sa 1)), fun _ _ _ => False, fun _ _ _ => False, fun _ _ _ => False]) (fcons o73 (fcons o81 (fcons o48 (fcons o209 (fcons o49 (fcons o50 (fnil))))))) tab46 pc46 ⟨fun la sa s hg H => zcut H fun H => hk58 s (zld la 0) (zld la 1) (zld la 2) (zld la 3) (zld la 4) (zld la 5) (zld la 6) (zld la 7) (zld la 8) (zld la 9) (zld la 10) hg H, fun la sa s hg H => zcut H fun H => hk86 s (ai la 2) (ar la 4) (ar la 5) (ar la 6) (ai sa 0) (ar sa 1) (zld la 1) (zld la 3) (zld la 7) (zld la 8) (zld la 9) (zld la 10) hg H, fun _ _ _ _ H => H.elim, fun _ _ _ _ H => H.elim, fun _ _ _ _ H => H.elim, trivial⟩ hg H
theorem t3_makePair : ∀ (p : PM) (v1 : Int32) (v2 : Int32), Gr 0 p → g3_makePair p v1 v2 → ZJ 0 46 0 [zR 3 1, zI v1, zI v2, zJ, zJ, zJ, zJ, zJ, zJ, zJ, zJ] [] p (hwI (v3_makePair p v1 v2)) := r3_makePair v6_bookAt g6_bookAt ok73 v6_firstOf g6_firstOf ok81 v3_isBarred g3_isBarred ok48 v14_min_7cf53 g14_min_7cf53 ok209 v3_record g3_record ok49 v3_fallTogether g3_fallTogether ok50 (v3_makePair_58) (g3_makePair_58) (t3_makePair_58) (v3_makePair_86) (g3_makePair_86) (t3_makePair_86)
def CC46 (F : PM → Int32 → Int32 → Int32 × PM) (G : PM → Int32 → Int32 → Prop) : Cal := (46, [6, 0, 0], 1, false, fun as p => (zI (F p (ai as 1) (ai as 2)).1, (F p (ai as 1) (ai as 2)).2), fun as p => zsw (tc2 as [(103, 1), (0, 0), (0, 0)]) False (G p (ai as 1) (ai as 2)))
set_option maxRecDepth 100000 in
theorem okr46 (F : PM → Int32 → Int32 → Int32 × PM) (G : PM → Int32 → Int32 → Prop) (h : ∀ (p : PM) (v1 : Int32) (v2 : Int32), Gr 0 p → G p v1 v2 → ZJ 0 46 0 [zR 3 1, zI v1, zI v2, zJ, zJ, zJ, zJ, zJ, zJ, zJ, zJ] [] p (hwI (F p v1 v2))) : CalOK 0 (CC46 F G) := cal_ok (m := 11) (by unfold mL; rw [mX_46]) (fun as p hg H => h p (ai as 1) (ai as 2) hg H)
theorem ok46 : CalOK 0 (CC46 v3_makePair g3_makePair) := okr46 v3_makePair g3_makePair t3_makePair
