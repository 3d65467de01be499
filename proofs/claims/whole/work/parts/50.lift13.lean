/-! methods as functions over one part, by program (wip/whole/lift.py) -/
noncomputable def bv12_act (F267 : PM → PM) (F319 : PM → Int32 → Int32 → Int32 → Int32 → Int32 → Int32 → Int32 → Int64 × PM) (p : PM) (v1 : Int32) (v2 : Int32) (v3 : Int32) (v4 : Int32) (v5 : Int32) (v6 : Int32) (v7 : Int32) : Int32 × PM :=
  let r1 : Int64 × PM := F319 p v1 v2 v3 v4 v5 v6 v7
  if (r1.2.1 12 1 0) = 0 then (
    let p2 : PM := F267 r1.2
    let x3 : Int32 := ((cn 7) * (p2.1 12 1 60))
    let p4 : PM := pI p2 13 40 (x3).toNatClampNeg v1
    let p5 : PM := pI p4 13 40 ((x3 + (cn 1))).toNatClampNeg v2
    let p6 : PM := pI p5 13 40 ((x3 + (cn 2))).toNatClampNeg v3
    let p7 : PM := pI p6 13 40 ((x3 + (cn 3))).toNatClampNeg v4
    let p8 : PM := pI p7 13 40 ((x3 + (cn 4))).toNatClampNeg v5
    let p9 : PM := pI p8 13 40 ((x3 + (cn 5))).toNatClampNeg v6
    let p10 : PM := pI p9 13 40 ((x3 + (cn 6))).toNatClampNeg v7
    let p11 : PM := pI p10 12 1 60 ((p10.1 12 1 60) + (cn 1))
    ((r1.1).toInt32, p11))
  else (
    ((cn 0), r1.2))
noncomputable def v12_act (p : PM) (v1 : Int32) (v2 : Int32) (v3 : Int32) (v4 : Int32) (v5 : Int32) (v6 : Int32) (v7 : Int32) : Int32 × PM := bv12_act v12_works v12_does p v1 v2 v3 v4 v5 v6 v7
noncomputable def bg12_act (F267 : PM → PM) (G267 : PM → Prop) (F319 : PM → Int32 → Int32 → Int32 → Int32 → Int32 → Int32 → Int32 → Int64 × PM) (G319 : PM → Int32 → Int32 → Int32 → Int32 → Int32 → Int32 → Int32 → Prop) (p : PM) (v1 : Int32) (v2 : Int32) (v3 : Int32) (v4 : Int32) (v5 : Int32) (v6 : Int32) (v7 : Int32) : Prop :=
  (G319 p v1 v2 v3 v4 v5 v6 v7) ∧ (
  let r1 : Int64 × PM := F319 p v1 v2 v3 v4 v5 v6 v7
  if (r1.2.1 12 1 0) = 0 then (
    (G267 r1.2) ∧ (
    let p2 : PM := F267 r1.2
    let x3 : Int32 := ((cn 7) * (p2.1 12 1 60))
    (inb x3 3640) ∧ (
    let p4 : PM := pI p2 13 40 (x3).toNatClampNeg v1
    (inb (x3 + (cn 1)) 3640) ∧ (
    let p5 : PM := pI p4 13 40 ((x3 + (cn 1))).toNatClampNeg v2
    (inb (x3 + (cn 2)) 3640) ∧ (
    let p6 : PM := pI p5 13 40 ((x3 + (cn 2))).toNatClampNeg v3
    (inb (x3 + (cn 3)) 3640) ∧ (
    let p7 : PM := pI p6 13 40 ((x3 + (cn 3))).toNatClampNeg v4
    (inb (x3 + (cn 4)) 3640) ∧ (
    let p8 : PM := pI p7 13 40 ((x3 + (cn 4))).toNatClampNeg v5
    (inb (x3 + (cn 5)) 3640) ∧ (
    let p9 : PM := pI p8 13 40 ((x3 + (cn 5))).toNatClampNeg v6
    (inb (x3 + (cn 6)) 3640) ∧ (
    let p10 : PM := pI p9 13 40 ((x3 + (cn 6))).toNatClampNeg v7
    let p11 : PM := pI p10 12 1 60 ((p10.1 12 1 60) + (cn 1))
    True)))))))))
  else (
    True))
noncomputable def g12_act (p : PM) (v1 : Int32) (v2 : Int32) (v3 : Int32) (v4 : Int32) (v5 : Int32) (v6 : Int32) (v7 : Int32) : Prop := bg12_act v12_works g12_works v12_does g12_does p v1 v2 v3 v4 v5 v6 v7
def R321 : List Row := [(0, .aload_n 0, 1, 0, (0, 0, 0, 0, 0, 0)), (1, .iload_n 1, 1, 0, (0, 0, 0, 0, 0, 0)), (2, .iload_n 2, 1, 0, (0, 0, 0, 0, 0, 0)), (3, .iload_n 3, 1, 0, (0, 0, 0, 0, 0, 0)), (4, .iload 4, 2, 0, (0, 0, 0, 0, 0, 0)), (6, .iload 5, 2, 0, (0, 0, 0, 0, 0, 0)), (8, .iload 6, 2, 0, (0, 0, 0, 0, 0, 0)), (10, .iload 7, 2, 0, (0, 0, 0, 0, 0, 0)), (12, .invokevirtual 587, 3, 0, (0, 8, 0, 0, 1, 0)), (15, .lstore 8, 2, 0, (0, 0, 0, 0, 0, 0)), (17, .aload_n 0, 1, 0, (0, 0, 0, 0, 0, 0)), (18, .getfield 180, 3, 0, (12, 0, 0, 1, 0, 0)), (21, .ifCond .eq 5, 3, 0, (0, 0, 0, 0, 0, 0)), (24, .iconst 0, 1, 0, (0, 0, 0, 0, 0, 0)), (25, .ireturn, 1, 0, (0, 0, 0, 0, 0, 0)), (26, .aload_n 0, 1, 0, (0, 0, 0, 0, 0, 0)), (27, .invokevirtual 390, 3, 0, (1, 1, 0, 0, 1, 0)), (30, .bipush 7, 2, 0, (0, 0, 0, 0, 0, 7)), (32, .aload_n 0, 1, 0, (0, 0, 0, 0, 0, 0)), (33, .getfield 591, 3, 0, (12, 60, 0, 1, 0, 0)), (36, .imul, 1, 0, (0, 0, 0, 0, 0, 0)), (37, .istore 10, 2, 0, (0, 0, 0, 0, 0, 0)), (39, .aload_n 0, 1, 0, (0, 0, 0, 0, 0, 0)), (40, .getfield 162, 3, 0, (12, 59, 16, 2, 40, 0)), (43, .iload 10, 2, 0, (0, 0, 0, 0, 0, 0)), (45, .iload_n 1, 1, 0, (0, 0, 0, 0, 0, 0)), (46, .iastore, 1, 0, (13, 3640, 0, 0, 0, 0)), (47, .aload_n 0, 1, 0, (0, 0, 0, 0, 0, 0)), (48, .getfield 162, 3, 0, (12, 59, 16, 2, 40, 0)), (51, .iload 10, 2, 0, (0, 0, 0, 0, 0, 0)), (53, .iconst 1, 1, 0, (0, 0, 0, 0, 0, 1)), (54, .iadd, 1, 0, (0, 0, 0, 0, 0, 0)), (55, .iload_n 2, 1, 0, (0, 0, 0, 0, 0, 0)), (56, .iastore, 1, 0, (13, 3640, 0, 0, 0, 0)), (57, .aload_n 0, 1, 0, (0, 0, 0, 0, 0, 0)), (58, .getfield 162, 3, 0, (12, 59, 16, 2, 40, 0)), (61, .iload 10, 2, 0, (0, 0, 0, 0, 0, 0)), (63, .iconst 2, 1, 0, (0, 0, 0, 0, 0, 2)), (64, .iadd, 1, 0, (0, 0, 0, 0, 0, 0)), (65, .iload_n 3, 1, 0, (0, 0, 0, 0, 0, 0)), (66, .iastore, 1, 0, (13, 3640, 0, 0, 0, 0)), (67, .aload_n 0, 1, 0, (0, 0, 0, 0, 0, 0)), (68, .getfield 162, 3, 0, (12, 59, 16, 2, 40, 0)), (71, .iload 10, 2, 0, (0, 0, 0, 0, 0, 0)), (73, .iconst 3, 1, 0, (0, 0, 0, 0, 0, 3)), (74, .iadd, 1, 0, (0, 0, 0, 0, 0, 0)), (75, .iload 4, 2, 0, (0, 0, 0, 0, 0, 0)), (77, .iastore, 1, 0, (13, 3640, 0, 0, 0, 0)), (78, .aload_n 0, 1, 0, (0, 0, 0, 0, 0, 0)), (79, .getfield 162, 3, 0, (12, 59, 16, 2, 40, 0)), (82, .iload 10, 2, 0, (0, 0, 0, 0, 0, 0)), (84, .iconst 4, 1, 0, (0, 0, 0, 0, 0, 4)), (85, .iadd, 1, 0, (0, 0, 0, 0, 0, 0)), (86, .iload 5, 2, 0, (0, 0, 0, 0, 0, 0)), (88, .iastore, 1, 0, (13, 3640, 0, 0, 0, 0)), (89, .aload_n 0, 1, 0, (0, 0, 0, 0, 0, 0)), (90, .getfield 162, 3, 0, (12, 59, 16, 2, 40, 0)), (93, .iload 10, 2, 0, (0, 0, 0, 0, 0, 0)), (95, .iconst 5, 1, 0, (0, 0, 0, 0, 0, 5)), (96, .iadd, 1, 0, (0, 0, 0, 0, 0, 0)), (97, .iload 6, 2, 0, (0, 0, 0, 0, 0, 0)), (99, .iastore, 1, 0, (13, 3640, 0, 0, 0, 0)), (100, .aload_n 0, 1, 0, (0, 0, 0, 0, 0, 0)), (101, .getfield 162, 3, 0, (12, 59, 16, 2, 40, 0)), (104, .iload 10, 2, 0, (0, 0, 0, 0, 0, 0)), (106, .bipush 6, 2, 0, (0, 0, 0, 0, 0, 6)), (108, .iadd, 1, 0, (0, 0, 0, 0, 0, 0)), (109, .iload 7, 2, 0, (0, 0, 0, 0, 0, 0)), (111, .iastore, 1, 0, (13, 3640, 0, 0, 0, 0)), (112, .aload_n 0, 1, 0, (0, 0, 0, 0, 0, 0)), (113, .dup, 1, 0, (0, 0, 0, 0, 0, 0)), (114, .getfield 591, 3, 0, (12, 60, 0, 1, 0, 0)), (117, .iconst 1, 1, 0, (0, 0, 0, 0, 0, 1)), (118, .iadd, 1, 0, (0, 0, 0, 0, 0, 0)), (119, .putfield 591, 3, 0, (12, 60, 0, 1, 0, 0)), (122, .lload 8, 2, 0, (0, 0, 0, 0, 0, 0)), (124, .l2i, 1, 0, (0, 0, 0, 0, 0, 0)), (125, .ireturn, 1, 0, (0, 0, 0, 0, 0, 0))]
set_option maxRecDepth 100000 in
theorem rk321 : R321.all (rok 2 321 1 [(319, [15, 0, 0, 0, 0, 0, 0, 0]), (267, [15])]) = true := by decide +kernel
set_option maxRecDepth 100000 in
theorem tab321 {F319 : PM → Int32 → Int32 → Int32 → Int32 → Int32 → Int32 → Int32 → Int64 × PM} {G319 : PM → Int32 → Int32 → Int32 → Int32 → Int32 → Int32 → Int32 → Prop} {F267 : PM → PM} {G267 : PM → Prop} : TabOK 2 321 1 [CC319 F319 G319, CC267 F267 G267] R321 := tab_ok (K := K321) rfl rfl (fun h => d321 h) rk321 (by decide +kernel)
set_option maxRecDepth 100000 in
theorem pc321 : cutpc [] R321 = true := by decide +kernel
set_option maxRecDepth 100000 in
theorem r12_act (F319 : PM → Int32 → Int32 → Int32 → Int32 → Int32 → Int32 → Int32 → Int64 × PM) (G319 : PM → Int32 → Int32 → Int32 → Int32 → Int32 → Int32 → Int32 → Prop) (o319 : CalOK 2 (CC319 F319 G319)) (F267 : PM → PM) (G267 : PM → Prop) (o267 : CalOK 2 (CC267 F267 G267)) : ∀ (p : PM) (v1 : Int32) (v2 : Int32) (v3 : Int32) (v4 : Int32) (v5 : Int32) (v6 : Int32) (v7 : Int32), Gr 2 p → bg12_act F267 G267 F319 G319 p v1 v2 v3 v4 v5 v6 v7 → ZJ 2 321 0 [zR 12 1, zI v1, zI v2, zI v3, zI v4, zI v5, zI v6, zI v7, zJ, zJ, zJ] [] p (hwI (bv12_act F267 F319 p v1 v2 v3 v4 v5 v6 v7)) := by
  intro p v1 v2 v3 v4 v5 v6 v7  hg H
  exact rwI (n := 3000) (q := 0) (la := [zR 12 1, zI v1, zI v2, zI v3, zI v4, zI v5, zI v6, zI v7, zJ, zJ, zJ]) (sa := []) (ks := []) (gs := []) (fcons o319 (fcons o267 (fnil))) tab321 pc321 trivial hg H
theorem t12_act : ∀ (p : PM) (v1 : Int32) (v2 : Int32) (v3 : Int32) (v4 : Int32) (v5 : Int32) (v6 : Int32) (v7 : Int32), Gr 2 p → g12_act p v1 v2 v3 v4 v5 v6 v7 → ZJ 2 321 0 [zR 12 1, zI v1, zI v2, zI v3, zI v4, zI v5, zI v6, zI v7, zJ, zJ, zJ] [] p (hwI (v12_act p v1 v2 v3 v4 v5 v6 v7)) := r12_act v12_does g12_does ok319 v12_works g12_works ok267
def CC321 (F : PM → Int32 → Int32 → Int32 → Int32 → Int32 → Int32 → Int32 → Int32 × PM) (G : PM → Int32 → Int32 → Int32 → Int32 → Int32 → Int32 → Int32 → Prop) : Cal := (321, [15, 0, 0, 0, 0, 0, 0, 0], 1, false, fun as p => (zI (F p (ai as 1) (ai as 2) (ai as 3) (ai as 4) (ai as 5) (ai as 6) (ai as 7)).1, (F p (ai as 1) (ai as 2) (ai as 3) (ai as 4) (ai as 5) (ai as 6) (ai as 7)).2), fun as p => zsw (tc2 as [(112, 1), (0, 0), (0, 0), (0, 0), (0, 0), (0, 0), (0, 0), (0, 0)]) False (G p (ai as 1) (ai as 2) (ai as 3) (ai as 4) (ai as 5) (ai as 6) (ai as 7)))
set_option maxRecDepth 100000 in
theorem okr321 (F : PM → Int32 → Int32 → Int32 → Int32 → Int32 → Int32 → Int32 → Int32 × PM) (G : PM → Int32 → Int32 → Int32 → Int32 → Int32 → Int32 → Int32 → Prop) (h : ∀ (p : PM) (v1 : Int32) (v2 : Int32) (v3 : Int32) (v4 : Int32) (v5 : Int32) (v6 : Int32) (v7 : Int32), Gr 2 p → G p v1 v2 v3 v4 v5 v6 v7 → ZJ 2 321 0 [zR 12 1, zI v1, zI v2, zI v3, zI v4, zI v5, zI v6, zI v7, zJ, zJ, zJ] [] p (hwI (F p v1 v2 v3 v4 v5 v6 v7))) : CalOK 2 (CC321 F G) := cal_ok (m := 11) (by unfold mL; rw [mX_321]) (fun as p hg H => h p (ai as 1) (ai as 2) (ai as 3) (ai as 4) (ai as 5) (ai as 6) (ai as 7) hg H)
theorem ok321 : CalOK 2 (CC321 v12_act g12_act) := okr321 v12_act g12_act t12_act
noncomputable def bv12_limit (F321 : PM → Int32 → Int32 → Int32 → Int32 → Int32 → Int32 → Int32 → Int32 × PM) (p : PM) (v1 : Int32) (v2 : Int32) (v3 : Int32) (v4 : Int32) (v5 : Int32) (v6 : Int32) : Int32 × PM :=
  let r1 : Int32 × PM := F321 p (cn 0) v1 v2 v3 v4 v5 v6
  (r1.1, r1.2)
noncomputable def v12_limit (p : PM) (v1 : Int32) (v2 : Int32) (v3 : Int32) (v4 : Int32) (v5 : Int32) (v6 : Int32) : Int32 × PM := bv12_limit v12_act p v1 v2 v3 v4 v5 v6
noncomputable def bg12_limit (F321 : PM → Int32 → Int32 → Int32 → Int32 → Int32 → Int32 → Int32 → Int32 × PM) (G321 : PM → Int32 → Int32 → Int32 → Int32 → Int32 → Int32 → Int32 → Prop) (p : PM) (v1 : Int32) (v2 : Int32) (v3 : Int32) (v4 : Int32) (v5 : Int32) (v6 : Int32) : Prop :=
  (G321 p (cn 0) v1 v2 v3 v4 v5 v6) ∧ (
  let r1 : Int32 × PM := F321 p (cn 0) v1 v2 v3 v4 v5 v6
  True)
noncomputable def g12_limit (p : PM) (v1 : Int32) (v2 : Int32) (v3 : Int32) (v4 : Int32) (v5 : Int32) (v6 : Int32) : Prop := bg12_limit v12_act g12_act p v1 v2 v3 v4 v5 v6
def R322 : List Row := [(0, .aload_n 0, 1, 0, (0, 0, 0, 0, 0, 0)), (1, .iconst 0, 1, 0, (0, 0, 0, 0, 0, 0)), (2, .iload_n 1, 1, 0, (0, 0, 0, 0, 0, 0)), (3, .iload_n 2, 1, 0, (0, 0, 0, 0, 0, 0)), (4, .iload_n 3, 1, 0, (0, 0, 0, 0, 0, 0)), (5, .iload 4, 2, 0, (0, 0, 0, 0, 0, 0)), (7, .iload 5, 2, 0, (0, 0, 0, 0, 0, 0)), (9, .iload 6, 2, 0, (0, 0, 0, 0, 0, 0)), (11, .invokevirtual 594, 3, 0, (0, 8, 0, 0, 1, 0)), (14, .ireturn, 1, 0, (0, 0, 0, 0, 0, 0))]
set_option maxRecDepth 100000 in
theorem rk322 : R322.all (rok 2 322 1 [(321, [15, 0, 0, 0, 0, 0, 0, 0])]) = true := by decide +kernel
set_option maxRecDepth 100000 in
theorem tab322 {F321 : PM → Int32 → Int32 → Int32 → Int32 → Int32 → Int32 → Int32 → Int32 × PM} {G321 : PM → Int32 → Int32 → Int32 → Int32 → Int32 → Int32 → Int32 → Prop} : TabOK 2 322 1 [CC321 F321 G321] R322 := tab_ok (K := K322) rfl rfl (fun h => d322 h) rk322 (by decide +kernel)
set_option maxRecDepth 100000 in
theorem pc322 : cutpc [] R322 = true := by decide +kernel
set_option maxRecDepth 100000 in
theorem r12_limit (F321 : PM → Int32 → Int32 → Int32 → Int32 → Int32 → Int32 → Int32 → Int32 × PM) (G321 : PM → Int32 → Int32 → Int32 → Int32 → Int32 → Int32 → Int32 → Prop) (o321 : CalOK 2 (CC321 F321 G321)) : ∀ (p : PM) (v1 : Int32) (v2 : Int32) (v3 : Int32) (v4 : Int32) (v5 : Int32) (v6 : Int32), Gr 2 p → bg12_limit F321 G321 p v1 v2 v3 v4 v5 v6 → ZJ 2 322 0 [zR 12 1, zI v1, zI v2, zI v3, zI v4, zI v5, zI v6] [] p (hwI (bv12_limit F321 p v1 v2 v3 v4 v5 v6)) := by
  intro p v1 v2 v3 v4 v5 v6  hg H
  exact rwI (n := 3000) (q := 0) (la := [zR 12 1, zI v1, zI v2, zI v3, zI v4, zI v5, zI v6]) (sa := []) (ks := []) (gs := []) (fcons o321 (fnil)) tab322 pc322 trivial hg H
theorem t12_limit : ∀ (p : PM) (v1 : Int32) (v2 : Int32) (v3 : Int32) (v4 : Int32) (v5 : Int32) (v6 : Int32), Gr 2 p → g12_limit p v1 v2 v3 v4 v5 v6 → ZJ 2 322 0 [zR 12 1, zI v1, zI v2, zI v3, zI v4, zI v5, zI v6] [] p (hwI (v12_limit p v1 v2 v3 v4 v5 v6)) := r12_limit v12_act g12_act ok321
def CC322 (F : PM → Int32 → Int32 → Int32 → Int32 → Int32 → Int32 → Int32 × PM) (G : PM → Int32 → Int32 → Int32 → Int32 → Int32 → Int32 → Prop) : Cal := (322, [15, 0, 0, 0, 0, 0, 0], 1, false, fun as p => (zI (F p (ai as 1) (ai as 2) (ai as 3) (ai as 4) (ai as 5) (ai as 6)).1, (F p (ai as 1) (ai as 2) (ai as 3) (ai as 4) (ai as 5) (ai as 6)).2), fun as p => zsw (tc2 as [(112, 1), (0, 0), (0, 0), (0, 0), (0, 0), (0, 0), (0, 0)]) False (G p (ai as 1) (ai as 2) (ai as 3) (ai as 4) (ai as 5) (ai as 6)))
set_option maxRecDepth 100000 in
theorem okr322 (F : PM → Int32 → Int32 → Int32 → Int32 → Int32 → Int32 → Int32 × PM) (G : PM → Int32 → Int32 → Int32 → Int32 → Int32 → Int32 → Prop) (h : ∀ (p : PM) (v1 : Int32) (v2 : Int32) (v3 : Int32) (v4 : Int32) (v5 : Int32) (v6 : Int32), Gr 2 p → G p v1 v2 v3 v4 v5 v6 → ZJ 2 322 0 [zR 12 1, zI v1, zI v2, zI v3, zI v4, zI v5, zI v6] [] p (hwI (F p v1 v2 v3 v4 v5 v6))) : CalOK 2 (CC322 F G) := cal_ok (m := 7) (by unfold mL; rw [mX_322]) (fun as p hg H => h p (ai as 1) (ai as 2) (ai as 3) (ai as 4) (ai as 5) (ai as 6) hg H)
theorem ok322 : CalOK 2 (CC322 v12_limit g12_limit) := okr322 v12_limit g12_limit t12_limit
noncomputable def bv12_market (F321 : PM → Int32 → Int32 → Int32 → Int32 → Int32 → Int32 → Int32 → Int32 × PM) (p : PM) (v1 : Int32) (v2 : Int32) (v3 : Int32) : Int32 × PM :=
  let r1 : Int32 × PM := F321 p (cn 1) v1 v2 v3 (cn 0) (cn 0) (cn 0)
  (r1.1, r1.2)
noncomputable def v12_market (p : PM) (v1 : Int32) (v2 : Int32) (v3 : Int32) : Int32 × PM := bv12_market v12_act p v1 v2 v3
noncomputable def bg12_market (F321 : PM → Int32 → Int32 → Int32 → Int32 → Int32 → Int32 → Int32 → Int32 × PM) (G321 : PM → Int32 → Int32 → Int32 → Int32 → Int32 → Int32 → Int32 → Prop) (p : PM) (v1 : Int32) (v2 : Int32) (v3 : Int32) : Prop :=
  (G321 p (cn 1) v1 v2 v3 (cn 0) (cn 0) (cn 0)) ∧ (
  let r1 : Int32 × PM := F321 p (cn 1) v1 v2 v3 (cn 0) (cn 0) (cn 0)
  True)
noncomputable def g12_market (p : PM) (v1 : Int32) (v2 : Int32) (v3 : Int32) : Prop := bg12_market v12_act g12_act p v1 v2 v3
def R323 : List Row := [(0, .aload_n 0, 1, 0, (0, 0, 0, 0, 0, 0)), (1, .iconst 1, 1, 0, (0, 0, 0, 0, 0, 1)), (2, .iload_n 1, 1, 0, (0, 0, 0, 0, 0, 0)), (3, .iload_n 2, 1, 0, (0, 0, 0, 0, 0, 0)), (4, .iload_n 3, 1, 0, (0, 0, 0, 0, 0, 0)), (5, .iconst 0, 1, 0, (0, 0, 0, 0, 0, 0)), (6, .iconst 0, 1, 0, (0, 0, 0, 0, 0, 0)), (7, .iconst 0, 1, 0, (0, 0, 0, 0, 0, 0)), (8, .invokevirtual 594, 3, 0, (0, 8, 0, 0, 1, 0)), (11, .ireturn, 1, 0, (0, 0, 0, 0, 0, 0))]
set_option maxRecDepth 100000 in
theorem rk323 : R323.all (rok 2 323 1 [(321, [15, 0, 0, 0, 0, 0, 0, 0])]) = true := by decide +kernel
set_option maxRecDepth 100000 in
theorem tab323 {F321 : PM → Int32 → Int32 → Int32 → Int32 → Int32 → Int32 → Int32 → Int32 × PM} {G321 : PM → Int32 → Int32 → Int32 → Int32 → Int32 → Int32 → Int32 → Prop} : TabOK 2 323 1 [CC321 F321 G321] R323 := tab_ok (K := K323) rfl rfl (fun h => d323 h) rk323 (by decide +kernel)
set_option maxRecDepth 100000 in
theorem pc323 : cutpc [] R323 = true := by decide +kernel
set_option maxRecDepth 100000 in
theorem r12_market (F321 : PM → Int32 → Int32 → Int32 → Int32 → Int32 → Int32 → Int32 → Int32 × PM) (G321 : PM → Int32 → Int32 → Int32 → Int32 → Int32 → Int32 → Int32 → Prop) (o321 : CalOK 2 (CC321 F321 G321)) : ∀ (p : PM) (v1 : Int32) (v2 : Int32) (v3 : Int32), Gr 2 p → bg12_market F321 G321 p v1 v2 v3 → ZJ 2 323 0 [zR 12 1, zI v1, zI v2, zI v3] [] p (hwI (bv12_market F321 p v1 v2 v3)) := by
  intro p v1 v2 v3  hg H
  exact rwI (n := 3000) (q := 0) (la := [zR 12 1, zI v1, zI v2, zI v3]) (sa := []) (ks := []) (gs := []) (fcons o321 (fnil)) tab323 pc323 trivial hg H
theorem t12_market : ∀ (p : PM) (v1 : Int32) (v2 : Int32) (v3 : Int32), Gr 2 p → g12_market p v1 v2 v3 → ZJ 2 323 0 [zR 12 1, zI v1, zI v2, zI v3] [] p (hwI (v12_market p v1 v2 v3)) := r12_market v12_act g12_act ok321
def CC323 (F : PM → Int32 → Int32 → Int32 → Int32 × PM) (G : PM → Int32 → Int32 → Int32 → Prop) : Cal := (323, [15, 0, 0, 0], 1, false, fun as p => (zI (F p (ai as 1) (ai as 2) (ai as 3)).1, (F p (ai as 1) (ai as 2) (ai as 3)).2), fun as p => zsw (tc2 as [(112, 1), (0, 0), (0, 0), (0, 0)]) False (G p (ai as 1) (ai as 2) (ai as 3)))
set_option maxRecDepth 100000 in
theorem okr323 (F : PM → Int32 → Int32 → Int32 → Int32 × PM) (G : PM → Int32 → Int32 → Int32 → Prop) (h : ∀ (p : PM) (v1 : Int32) (v2 : Int32) (v3 : Int32), Gr 2 p → G p v1 v2 v3 → ZJ 2 323 0 [zR 12 1, zI v1, zI v2, zI v3] [] p (hwI (F p v1 v2 v3))) : CalOK 2 (CC323 F G) := cal_ok (m := 4) (by unfold mL; rw [mX_323]) (fun as p hg H => h p (ai as 1) (ai as 2) (ai as 3) hg H)
theorem ok323 : CalOK 2 (CC323 v12_market g12_market) := okr323 v12_market g12_market t12_market
noncomputable def bv12_iceberg (F321 : PM → Int32 → Int32 → Int32 → Int32 → Int32 → Int32 → Int32 → Int32 × PM) (p : PM) (v1 : Int32) (v2 : Int32) (v3 : Int32) (v4 : Int32) (v5 : Int32) : Int32 × PM :=
  let r1 : Int32 × PM := F321 p (cn 2) v1 v2 v3 v4 v5 (cn 0)
  (r1.1, r1.2)
noncomputable def v12_iceberg (p : PM) (v1 : Int32) (v2 : Int32) (v3 : Int32) (v4 : Int32) (v5 : Int32) : Int32 × PM := bv12_iceberg v12_act p v1 v2 v3 v4 v5
noncomputable def bg12_iceberg (F321 : PM → Int32 → Int32 → Int32 → Int32 → Int32 → Int32 → Int32 → Int32 × PM) (G321 : PM → Int32 → Int32 → Int32 → Int32 → Int32 → Int32 → Int32 → Prop) (p : PM) (v1 : Int32) (v2 : Int32) (v3 : Int32) (v4 : Int32) (v5 : Int32) : Prop :=
  (G321 p (cn 2) v1 v2 v3 v4 v5 (cn 0)) ∧ (
  let r1 : Int32 × PM := F321 p (cn 2) v1 v2 v3 v4 v5 (cn 0)
  True)
noncomputable def g12_iceberg (p : PM) (v1 : Int32) (v2 : Int32) (v3 : Int32) (v4 : Int32) (v5 : Int32) : Prop := bg12_iceberg v12_act g12_act p v1 v2 v3 v4 v5
def R324 : List Row := [(0, .aload_n 0, 1, 0, (0, 0, 0, 0, 0, 0)), (1, .iconst 2, 1, 0, (0, 0, 0, 0, 0, 2)), (2, .iload_n 1, 1, 0, (0, 0, 0, 0, 0, 0)), (3, .iload_n 2, 1, 0, (0, 0, 0, 0, 0, 0)), (4, .iload_n 3, 1, 0, (0, 0, 0, 0, 0, 0)), (5, .iload 4, 2, 0, (0, 0, 0, 0, 0, 0)), (7, .iload 5, 2, 0, (0, 0, 0, 0, 0, 0)), (9, .iconst 0, 1, 0, (0, 0, 0, 0, 0, 0)), (10, .invokevirtual 594, 3, 0, (0, 8, 0, 0, 1, 0)), (13, .ireturn, 1, 0, (0, 0, 0, 0, 0, 0))]
set_option maxRecDepth 100000 in
theorem rk324 : R324.all (rok 2 324 1 [(321, [15, 0, 0, 0, 0, 0, 0, 0])]) = true := by decide +kernel
set_option maxRecDepth 100000 in
theorem tab324 {F321 : PM → Int32 → Int32 → Int32 → Int32 → Int32 → Int32 → Int32 → Int32 × PM} {G321 : PM → Int32 → Int32 → Int32 → Int32 → Int32 → Int32 → Int32 → Prop} : TabOK 2 324 1 [CC321 F321 G321] R324 := tab_ok (K := K324) rfl rfl (fun h => d324 h) rk324 (by decide +kernel)
set_option maxRecDepth 100000 in
theorem pc324 : cutpc [] R324 = true := by decide +kernel
set_option maxRecDepth 100000 in
theorem r12_iceberg (F321 : PM → Int32 → Int32 → Int32 → Int32 → Int32 → Int32 → Int32 → Int32 × PM) (G321 : PM → Int32 → Int32 → Int32 → Int32 → Int32 → Int32 → Int32 → Prop) (o321 : CalOK 2 (CC321 F321 G321)) : ∀ (p : PM) (v1 : Int32) (v2 : Int32) (v3 : Int32) (v4 : Int32) (v5 : Int32), Gr 2 p → bg12_iceberg F321 G321 p v1 v2 v3 v4 v5 → ZJ 2 324 0 [zR 12 1, zI v1, zI v2, zI v3, zI v4, zI v5] [] p (hwI (bv12_iceberg F321 p v1 v2 v3 v4 v5)) := by
  intro p v1 v2 v3 v4 v5  hg H
  exact rwI (n := 3000) (q := 0) (la := [zR 12 1, zI v1, zI v2, zI v3, zI v4, zI v5]) (sa := []) (ks := []) (gs := []) (fcons o321 (fnil)) tab324 pc324 trivial hg H
theorem t12_iceberg : ∀ (p : PM) (v1 : Int32) (v2 : Int32) (v3 : Int32) (v4 : Int32) (v5 : Int32), Gr 2 p → g12_iceberg p v1 v2 v3 v4 v5 → ZJ 2 324 0 [zR 12 1, zI v1, zI v2, zI v3, zI v4, zI v5] [] p (hwI (v12_iceberg p v1 v2 v3 v4 v5)) := r12_iceberg v12_act g12_act ok321
def CC324 (F : PM → Int32 → Int32 → Int32 → Int32 → Int32 → Int32 × PM) (G : PM → Int32 → Int32 → Int32 → Int32 → Int32 → Prop) : Cal := (324, [15, 0, 0, 0, 0, 0], 1, false, fun as p => (zI (F p (ai as 1) (ai as 2) (ai as 3) (ai as 4) (ai as 5)).1, (F p (ai as 1) (ai as 2) (ai as 3) (ai as 4) (ai as 5)).2), fun as p => zsw (tc2 as [(112, 1), (0, 0), (0, 0), (0, 0), (0, 0), (0, 0)]) False (G p (ai as 1) (ai as 2) (ai as 3) (ai as 4) (ai as 5)))
set_option maxRecDepth 100000 in
theorem okr324 (F : PM → Int32 → Int32 → Int32 → Int32 → Int32 → Int32 × PM) (G : PM → Int32 → Int32 → Int32 → Int32 → Int32 → Prop) (h : ∀ (p : PM) (v1 : Int32) (v2 : Int32) (v3 : Int32) (v4 : Int32) (v5 : Int32), Gr 2 p → G p v1 v2 v3 v4 v5 → ZJ 2 324 0 [zR 12 1, zI v1, zI v2, zI v3, zI v4, zI v5] [] p (hwI (F p v1 v2 v3 v4 v5))) : CalOK 2 (CC324 F G) := cal_ok (m := 6) (by unfold mL; rw [mX_324]) (fun as p hg H => h p (ai as 1) (ai as 2) (ai as 3) (ai as 4) (ai as 5) hg H)
theorem ok324 : CalOK 2 (CC324 v12_iceberg g12_iceberg) := okr324 v12_iceberg g12_iceberg t12_iceberg
noncomputable def bv12_peg (F321 : PM → Int32 → Int32 → Int32 → Int32 → Int32 → Int32 → Int32 → Int32 × PM) (p : PM) (v1 : Int32) (v2 : Int32) (v3 : Int32) (v4 : Int32) (v5 : Int32) : Int32 × PM :=
  let r1 : Int32 × PM := F321 p (cn 3) v1 v2 v3 v4 v5 (cn 0)
  (r1.1, r1.2)
noncomputable def v12_peg (p : PM) (v1 : Int32) (v2 : Int32) (v3 : Int32) (v4 : Int32) (v5 : Int32) : Int32 × PM := bv12_peg v12_act p v1 v2 v3 v4 v5
noncomputable def bg12_peg (F321 : PM → Int32 → Int32 → Int32 → Int32 → Int32 → Int32 → Int32 → Int32 × PM) (G321 : PM → Int32 → Int32 → Int32 → Int32 → Int32 → Int32 → Int32 → Prop) (p : PM) (v1 : Int32) (v2 : Int32) (v3 : Int32) (v4 : Int32) (v5 : Int32) : Prop :=
  (G321 p (cn 3) v1 v2 v3 v4 v5 (cn 0)) ∧ (
  let r1 : Int32 × PM := F321 p (cn 3) v1 v2 v3 v4 v5 (cn 0)
  True)
noncomputable def g12_peg (p : PM) (v1 : Int32) (v2 : Int32) (v3 : Int32) (v4 : Int32) (v5 : Int32) : Prop := bg12_peg v12_act g12_act p v1 v2 v3 v4 v5
def R325 : List Row := [(0, .aload_n 0, 1, 0, (0, 0, 0, 0, 0, 0)), (1, .iconst 3, 1, 0, (0, 0, 0, 0, 0, 3)), (2, .iload_n 1, 1, 0, (0, 0, 0, 0, 0, 0)), (3, .iload_n 2, 1, 0, (0, 0, 0, 0, 0, 0)), (4, .iload_n 3, 1, 0, (0, 0, 0, 0, 0, 0)), (5, .iload 4, 2, 0, (0, 0, 0, 0, 0, 0)), (7, .iload 5, 2, 0, (0, 0, 0, 0, 0, 0)), (9, .iconst 0, 1, 0, (0, 0, 0, 0, 0, 0)), (10, .invokevirtual 594, 3, 0, (0, 8, 0, 0, 1, 0)), (13, .ireturn, 1, 0, (0, 0, 0, 0, 0, 0))]
set_option maxRecDepth 100000 in
theorem rk325 : R325.all (rok 2 325 1 [(321, [15, 0, 0, 0, 0, 0, 0, 0])]) = true := by decide +kernel
set_option maxRecDepth 100000 in
theorem tab325 {F321 : PM → Int32 → Int32 → Int32 → Int32 → Int32 → Int32 → Int32 → Int32 × PM} {G321 : PM → Int32 → Int32 → Int32 → Int32 → Int32 → Int32 → Int32 → Prop} : TabOK 2 325 1 [CC321 F321 G321] R325 := tab_ok (K := K325) rfl rfl (fun h => d325 h) rk325 (by decide +kernel)
set_option maxRecDepth 100000 in
theorem pc325 : cutpc [] R325 = true := by decide +kernel
set_option maxRecDepth 100000 in
theorem r12_peg (F321 : PM → Int32 → Int32 → Int32 → Int32 → Int32 → Int32 → Int32 → Int32 × PM) (G321 : PM → Int32 → Int32 → Int32 → Int32 → Int32 → Int32 → Int32 → Prop) (o321 : CalOK 2 (CC321 F321 G321)) : ∀ (p : PM) (v1 : Int32) (v2 : Int32) (v3 : Int32) (v4 : Int32) (v5 : Int32), Gr 2 p → bg12_peg F321 G321 p v1 v2 v3 v4 v5 → ZJ 2 325 0 [zR 12 1, zI v1, zI v2, zI v3, zI v4, zI v5] [] p (hwI (bv12_peg F321 p v1 v2 v3 v4 v5)) := by
  intro p v1 v2 v3 v4 v5  hg H
  exact rwI (n := 3000) (q := 0) (la := [zR 12 1, zI v1, zI v2, zI v3, zI v4, zI v5]) (sa := []) (ks := []) (gs := []) (fcons o321 (fnil)) tab325 pc325 trivial hg H
theorem t12_peg : ∀ (p : PM) (v1 : Int32) (v2 : Int32) (v3 : Int32) (v4 : Int32) (v5 : Int32), Gr 2 p → g12_peg p v1 v2 v3 v4 v5 → ZJ 2 325 0 [zR 12 1, zI v1, zI v2, zI v3, zI v4, zI v5] [] p (hwI (v12_peg p v1 v2 v3 v4 v5)) := r12_peg v12_act g12_act ok321
def CC325 (F : PM → Int32 → Int32 → Int32 → Int32 → Int32 → Int32 × PM) (G : PM → Int32 → Int32 → Int32 → Int32 → Int32 → Prop) : Cal := (325, [15, 0, 0, 0, 0, 0], 1, false, fun as p => (zI (F p (ai as 1) (ai as 2) (ai as 3) (ai as 4) (ai as 5)).1, (F p (ai as 1) (ai as 2) (ai as 3) (ai as 4) (ai as 5)).2), fun as p => zsw (tc2 as [(112, 1), (0, 0), (0, 0), (0, 0), (0, 0), (0, 0)]) False (G p (ai as 1) (ai as 2) (ai as 3) (ai as 4) (ai as 5)))
set_option maxRecDepth 100000 in
theorem okr325 (F : PM → Int32 → Int32 → Int32 → Int32 → Int32 → Int32 × PM) (G : PM → Int32 → Int32 → Int32 → Int32 → Int32 → Prop) (h : ∀ (p : PM) (v1 : Int32) (v2 : Int32) (v3 : Int32) (v4 : Int32) (v5 : Int32), Gr 2 p → G p v1 v2 v3 v4 v5 → ZJ 2 325 0 [zR 12 1, zI v1, zI v2, zI v3, zI v4, zI v5] [] p (hwI (F p v1 v2 v3 v4 v5))) : CalOK 2 (CC325 F G) := cal_ok (m := 6) (by unfold mL; rw [mX_325]) (fun as p hg H => h p (ai as 1) (ai as 2) (ai as 3) (ai as 4) (ai as 5) hg H)
theorem ok325 : CalOK 2 (CC325 v12_peg g12_peg) := okr325 v12_peg g12_peg t12_peg
noncomputable def bv12_stop (F321 : PM → Int32 → Int32 → Int32 → Int32 → Int32 → Int32 → Int32 → Int32 × PM) (p : PM) (v1 : Int32) (v2 : Int32) (v3 : Int32) (v4 : Int32) (v5 : Int32) : Int32 × PM :=
  let r1 : Int32 × PM := F321 p (cn 4) v1 v2 v3 v4 v5 (cn 0)
  (r1.1, r1.2)
noncomputable def v12_stop (p : PM) (v1 : Int32) (v2 : Int32) (v3 : Int32) (v4 : Int32) (v5 : Int32) : Int32 × PM := bv12_stop v12_act p v1 v2 v3 v4 v5
noncomputable def bg12_stop (F321 : PM → Int32 → Int32 → Int32 → Int32 → Int32 → Int32 → Int32 → Int32 × PM) (G321 : PM → Int32 → Int32 → Int32 → Int32 → Int32 → Int32 → Int32 → Prop) (p : PM) (v1 : Int32) (v2 : Int32) (v3 : Int32) (v4 : Int32) (v5 : Int32) : Prop :=
  (G321 p (cn 4) v1 v2 v3 v4 v5 (cn 0)) ∧ (
  let r1 : Int32 × PM := F321 p (cn 4) v1 v2 v3 v4 v5 (cn 0)
  True)
noncomputable def g12_stop (p : PM) (v1 : Int32) (v2 : Int32) (v3 : Int32) (v4 : Int32) (v5 : Int32) : Prop := bg12_stop v12_act g12_act p v1 v2 v3 v4 v5
def R326 : List Row := [(0, .aload_n 0, 1, 0, (0, 0, 0, 0, 0, 0)), (1, .iconst 4, 1, 0, (0, 0, 0, 0, 0, 4)), (2, .iload_n 1, 1, 0, (0, 0, 0, 0, 0, 0)), (3, .iload_n 2, 1, 0, (0, 0, 0, 0, 0, 0)), (4, .iload_n 3, 1, 0, (0, 0, 0, 0, 0, 0)), (5, .iload 4, 2, 0, (0, 0, 0, 0, 0, 0)), (7, .iload 5, 2, 0, (0, 0, 0, 0, 0, 0)), (9, .iconst 0, 1, 0, (0, 0, 0, 0, 0, 0)), (10, .invokevirtual 594, 3, 0, (0, 8, 0, 0, 1, 0)), (13, .ireturn, 1, 0, (0, 0, 0, 0, 0, 0))]
set_option maxRecDepth 100000 in
theorem rk326 : R326.all (rok 2 326 1 [(321, [15, 0, 0, 0, 0, 0, 0, 0])]) = true := by decide +kernel
set_option maxRecDepth 100000 in
theorem tab326 {F321 : PM → Int32 → Int32 → Int32 → Int32 → Int32 → Int32 → Int32 → Int32 × PM} {G321 : PM → Int32 → Int32 → Int32 → Int32 → Int32 → Int32 → Int32 → Prop} : TabOK 2 326 1 [CC321 F321 G321] R326 := tab_ok (K := K326) rfl rfl (fun h => d326 h) rk326 (by decide +kernel)
set_option maxRecDepth 100000 in
theorem pc326 : cutpc [] R326 = true := by decide +kernel
set_option maxRecDepth 100000 in
theorem r12_stop (F321 : PM → Int32 → Int32 → Int32 → Int32 → Int32 → Int32 → Int32 → Int32 × PM) (G321 : PM → Int32 → Int32 → Int32 → Int32 → Int32 → Int32 → Int32 → Prop) (o321 : CalOK 2 (CC321 F321 G321)) : ∀ (p : PM) (v1 : Int32) (v2 : Int32) (v3 : Int32) (v4 : Int32) (v5 : Int32), Gr 2 p → bg12_stop F321 G321 p v1 v2 v3 v4 v5 → ZJ 2 326 0 [zR 12 1, zI v1, zI v2, zI v3, zI v4, zI v5] [] p (hwI (bv12_stop F321 p v1 v2 v3 v4 v5)) := by
  intro p v1 v2 v3 v4 v5  hg H
  exact rwI (n := 3000) (q := 0) (la := [zR 12 1, zI v1, zI v2, zI v3, zI v4, zI v5]) (sa := []) (ks := []) (gs := []) (fcons o321 (fnil)) tab326 pc326 trivial hg H
theorem t12_stop : ∀ (p : PM) (v1 : Int32) (v2 : Int32) (v3 : Int32) (v4 : Int32) (v5 : Int32), Gr 2 p → g12_stop p v1 v2 v3 v4 v5 → ZJ 2 326 0 [zR 12 1, zI v1, zI v2, zI v3, zI v4, zI v5] [] p (hwI (v12_stop p v1 v2 v3 v4 v5)) := r12_stop v12_act g12_act ok321
def CC326 (F : PM → Int32 → Int32 → Int32 → Int32 → Int32 → Int32 × PM) (G : PM → Int32 → Int32 → Int32 → Int32 → Int32 → Prop) : Cal := (326, [15, 0, 0, 0, 0, 0], 1, false, fun as p => (zI (F p (ai as 1) (ai as 2) (ai as 3) (ai as 4) (ai as 5)).1, (F p (ai as 1) (ai as 2) (ai as 3) (ai as 4) (ai as 5)).2), fun as p => zsw (tc2 as [(112, 1), (0, 0), (0, 0), (0, 0), (0, 0), (0, 0)]) False (G p (ai as 1) (ai as 2) (ai as 3) (ai as 4) (ai as 5)))
set_option maxRecDepth 100000 in
theorem okr326 (F : PM → Int32 → Int32 → Int32 → Int32 → Int32 → Int32 × PM) (G : PM → Int32 → Int32 → Int32 → Int32 → Int32 → Prop) (h : ∀ (p : PM) (v1 : Int32) (v2 : Int32) (v3 : Int32) (v4 : Int32) (v5 : Int32), Gr 2 p → G p v1 v2 v3 v4 v5 → ZJ 2 326 0 [zR 12 1, zI v1, zI v2, zI v3, zI v4, zI v5] [] p (hwI (F p v1 v2 v3 v4 v5))) : CalOK 2 (CC326 F G) := cal_ok (m := 6) (by unfold mL; rw [mX_326]) (fun as p hg H => h p (ai as 1) (ai as 2) (ai as 3) (ai as 4) (ai as 5) hg H)
theorem ok326 : CalOK 2 (CC326 v12_stop g12_stop) := okr326 v12_stop g12_stop t12_stop
noncomputable def bv12_quote (F321 : PM → Int32 → Int32 → Int32 → Int32 → Int32 → Int32 → Int32 → Int32 × PM) (p : PM) (v1 : Int32) (v2 : Int32) (v3 : Int32) (v4 : Int32) (v5 : Int32) : Int32 × PM :=
  let r1 : Int32 × PM := F321 p (cn 5) v1 v2 v3 v4 v5 (cn 0)
  (r1.1, r1.2)
noncomputable def v12_quote (p : PM) (v1 : Int32) (v2 : Int32) (v3 : Int32) (v4 : Int32) (v5 : Int32) : Int32 × PM := bv12_quote v12_act p v1 v2 v3 v4 v5
noncomputable def bg12_quote (F321 : PM → Int32 → Int32 → Int32 → Int32 → Int32 → Int32 → Int32 → Int32 × PM) (G321 : PM → Int32 → Int32 → Int32 → Int32 → Int32 → Int32 → Int32 → Prop) (p : PM) (v1 : Int32) (v2 : Int32) (v3 : Int32) (v4 : Int32) (v5 : Int32) : Prop :=
  (G321 p (cn 5) v1 v2 v3 v4 v5 (cn 0)) ∧ (
  let r1 : Int32 × PM := F321 p (cn 5) v1 v2 v3 v4 v5 (cn 0)
  True)
noncomputable def g12_quote (p : PM) (v1 : Int32) (v2 : Int32) (v3 : Int32) (v4 : Int32) (v5 : Int32) : Prop := bg12_quote v12_act g12_act p v1 v2 v3 v4 v5
def R327 : List Row := [(0, .aload_n 0, 1, 0, (0, 0, 0, 0, 0, 0)), (1, .iconst 5, 1, 0, (0, 0, 0, 0, 0, 5)), (2, .iload_n 1, 1, 0, (0, 0, 0, 0, 0, 0)), (3, .iload_n 2, 1, 0, (0, 0, 0, 0, 0, 0)), (4, .iload_n 3, 1, 0, (0, 0, 0, 0, 0, 0)), (5, .iload 4, 2, 0, (0, 0, 0, 0, 0, 0)), (7, .iload 5, 2, 0, (0, 0, 0, 0, 0, 0)), (9, .iconst 0, 1, 0, (0, 0, 0, 0, 0, 0)), (10, .invokevirtual 594, 3, 0, (0, 8, 0, 0, 1, 0)), (13, .ireturn, 1, 0, (0, 0, 0, 0, 0, 0))]
set_option maxRecDepth 100000 in
theorem rk327 : R327.all (rok 2 327 1 [(321, [15, 0, 0, 0, 0, 0, 0, 0])]) = true := by decide +kernel
set_option maxRecDepth 100000 in
theorem tab327 {F321 : PM → Int32 → Int32 → Int32 → Int32 → Int32 → Int32 → Int32 → Int32 × PM} {G321 : PM → Int32 → Int32 → Int32 → Int32 → Int32 → Int32 → Int32 → Prop} : TabOK 2 327 1 [CC321 F321 G321] R327 := tab_ok (K := K327) rfl rfl (fun h => d327 h) rk327 (by decide +kernel)
set_option maxRecDepth 100000 in
theorem pc327 : cutpc [] R327 = true := by decide +kernel
set_option maxRecDepth 100000 in
theorem r12_quote (F321 : PM → Int32 → Int32 → Int32 → Int32 → Int32 → Int32 → Int32 → Int32 × PM) (G321 : PM → Int32 → Int32 → Int32 → Int32 → Int32 → Int32 → Int32 → Prop) (o321 : CalOK 2 (CC321 F321 G321)) : ∀ (p : PM) (v1 : Int32) (v2 : Int32) (v3 : Int32) (v4 : Int32) (v5 : Int32), Gr 2 p → bg12_quote F321 G321 p v1 v2 v3 v4 v5 → ZJ 2 327 0 [zR 12 1, zI v1, zI v2, zI v3, zI v4, zI v5] [] p (hwI (bv12_quote F321 p v1 v2 v3 v4 v5)) := by
  intro p v1 v2 v3 v4 v5  hg H
  exact rwI (n := 3000) (q := 0) (la := [zR 12 1, zI v1, zI v2, zI v3, zI v4, zI v5]) (sa := []) (ks := []) (gs := []) (fcons o321 (fnil)) tab327 pc327 trivial hg H
theorem t12_quote : ∀ (p : PM) (v1 : Int32) (v2 : Int32) (v3 : Int32) (v4 : Int32) (v5 : Int32), Gr 2 p → g12_quote p v1 v2 v3 v4 v5 → ZJ 2 327 0 [zR 12 1, zI v1, zI v2, zI v3, zI v4, zI v5] [] p (hwI (v12_quote p v1 v2 v3 v4 v5)) := r12_quote v12_act g12_act ok321
def CC327 (F : PM → Int32 → Int32 → Int32 → Int32 → Int32 → Int32 × PM) (G : PM → Int32 → Int32 → Int32 → Int32 → Int32 → Prop) : Cal := (327, [15, 0, 0, 0, 0, 0], 1, false, fun as p => (zI (F p (ai as 1) (ai as 2) (ai as 3) (ai as 4) (ai as 5)).1, (F p (ai as 1) (ai as 2) (ai as 3) (ai as 4) (ai as 5)).2), fun as p => zsw (tc2 as [(112, 1), (0, 0), (0, 0), (0, 0), (0, 0), (0, 0)]) False (G p (ai as 1) (ai as 2) (ai as 3) (ai as 4) (ai as 5)))
set_option maxRecDepth 100000 in
theorem okr327 (F : PM → Int32 → Int32 → Int32 → Int32 → Int32 → Int32 × PM) (G : PM → Int32 → Int32 → Int32 → Int32 → Int32 → Prop) (h : ∀ (p : PM) (v1 : Int32) (v2 : Int32) (v3 : Int32) (v4 : Int32) (v5 : Int32), Gr 2 p → G p v1 v2 v3 v4 v5 → ZJ 2 327 0 [zR 12 1, zI v1, zI v2, zI v3, zI v4, zI v5] [] p (hwI (F p v1 v2 v3 v4 v5))) : CalOK 2 (CC327 F G) := cal_ok (m := 6) (by unfold mL; rw [mX_327]) (fun as p hg H => h p (ai as 1) (ai as 2) (ai as 3) (ai as 4) (ai as 5) hg H)
theorem ok327 : CalOK 2 (CC327 v12_quote g12_quote) := okr327 v12_quote g12_quote t12_quote
noncomputable def bv12_cancel (F321 : PM → Int32 → Int32 → Int32 → Int32 → Int32 → Int32 → Int32 → Int32 × PM) (p : PM) (v1 : Int32) : Int32 × PM :=
  let r1 : Int32 × PM := F321 p (cn 6) v1 (cn 0) (cn 0) (cn 0) (cn 0) (cn 0)
  (r1.1, r1.2)
noncomputable def v12_cancel (p : PM) (v1 : Int32) : Int32 × PM := bv12_cancel v12_act p v1
noncomputable def bg12_cancel (F321 : PM → Int32 → Int32 → Int32 → Int32 → Int32 → Int32 → Int32 → Int32 × PM) (G321 : PM → Int32 → Int32 → Int32 → Int32 → Int32 → Int32 → Int32 → Prop) (p : PM) (v1 : Int32) : Prop :=
  (G321 p (cn 6) v1 (cn 0) (cn 0) (cn 0) (cn 0) (cn 0)) ∧ (
  let r1 : Int32 × PM := F321 p (cn 6) v1 (cn 0) (cn 0) (cn 0) (cn 0) (cn 0)
  True)
noncomputable def g12_cancel (p : PM) (v1 : Int32) : Prop := bg12_cancel v12_act g12_act p v1
def R328 : List Row := [(0, .aload_n 0, 1, 0, (0, 0, 0, 0, 0, 0)), (1, .bipush 6, 2, 0, (0, 0, 0, 0, 0, 6)), (3, .iload_n 1, 1, 0, (0, 0, 0, 0, 0, 0)), (4, .iconst 0, 1, 0, (0, 0, 0, 0, 0, 0)), (5, .iconst 0, 1, 0, (0, 0, 0, 0, 0, 0)), (6, .iconst 0, 1, 0, (0, 0, 0, 0, 0, 0)), (7, .iconst 0, 1, 0, (0, 0, 0, 0, 0, 0)), (8, .iconst 0, 1, 0, (0, 0, 0, 0, 0, 0)), (9, .invokevirtual 594, 3, 0, (0, 8, 0, 0, 1, 0)), (12, .ireturn, 1, 0, (0, 0, 0, 0, 0, 0))]
set_option maxRecDepth 100000 in
theorem rk328 : R328.all (rok 2 328 1 [(321, [15, 0, 0, 0, 0, 0, 0, 0])]) = true := by decide +kernel
set_option maxRecDepth 100000 in
theorem tab328 {F321 : PM → Int32 → Int32 → Int32 → Int32 → Int32 → Int32 → Int32 → Int32 × PM} {G321 : PM → Int32 → Int32 → Int32 → Int32 → Int32 → Int32 → Int32 → Prop} : TabOK 2 328 1 [CC321 F321 G321] R328 := tab_ok (K := K328) rfl rfl (fun h => d328 h) rk328 (by decide +kernel)
set_option maxRecDepth 100000 in
theorem pc328 : cutpc [] R328 = true := by decide +kernel
set_option maxRecDepth 100000 in
theorem r12_cancel (F321 : PM → Int32 → Int32 → Int32 → Int32 → Int32 → Int32 → Int32 → Int32 × PM) (G321 : PM → Int32 → Int32 → Int32 → Int32 → Int32 → Int32 → Int32 → Prop) (o321 : CalOK 2 (CC321 F321 G321)) : ∀ (p : PM) (v1 : Int32), Gr 2 p → bg12_cancel F321 G321 p v1 → ZJ 2 328 0 [zR 12 1, zI v1] [] p (hwI (bv12_cancel F321 p v1)) := by
  intro p v1  hg H
  exact rwI (n := 3000) (q := 0) (la := [zR 12 1, zI v1]) (sa := []) (ks := []) (gs := []) (fcons o321 (fnil)) tab328 pc328 trivial hg H
theorem t12_cancel : ∀ (p : PM) (v1 : Int32), Gr 2 p → g12_cancel p v1 → ZJ 2 328 0 [zR 12 1, zI v1] [] p (hwI (v12_cancel p v1)) := r12_cancel v12_act g12_act ok321
def CC328 (F : PM → Int32 → Int32 × PM) (G : PM → Int32 → Prop) : Cal := (328, [15, 0], 1, false, fun as p => (zI (F p (ai as 1)).1, (F p (ai as 1)).2), fun as p => zsw (tc2 as [(112, 1), (0, 0)]) False (G p (ai as 1)))
set_option maxRecDepth 100000 in
theorem okr328 (F : PM → Int32 → Int32 × PM) (G : PM → Int32 → Prop) (h : ∀ (p : PM) (v1 : Int32), Gr 2 p → G p v1 → ZJ 2 328 0 [zR 12 1, zI v1] [] p (hwI (F p v1))) : CalOK 2 (CC328 F G) := cal_ok (m := 2) (by unfold mL; rw [mX_328]) (fun as p hg H => h p (ai as 1) hg H)
theorem ok328 : CalOK 2 (CC328 v12_cancel g12_cancel) := okr328 v12_cancel g12_cancel t12_cancel
noncomputable def bv12_setRule (F321 : PM → Int32 → Int32 → Int32 → Int32 → Int32 → Int32 → Int32 → Int32 × PM) (p : PM) (v1 : Int32) (v2 : Int32) (v3 : Int32) (v4 : Int32) : Int32 × PM :=
  let r1 : Int32 × PM := F321 p (cn 7) v1 v2 v3 v4 (cn 0) (cn 0)
  (r1.1, r1.2)
noncomputable def v12_setRule (p : PM) (v1 : Int32) (v2 : Int32) (v3 : Int32) (v4 : Int32) : Int32 × PM := bv12_setRule v12_act p v1 v2 v3 v4
noncomputable def bg12_setRule (F321 : PM → Int32 → Int32 → Int32 → Int32 → Int32 → Int32 → Int32 → Int32 × PM) (G321 : PM → Int32 → Int32 → Int32 → Int32 → Int32 → Int32 → Int32 → Prop) (p : PM) (v1 : Int32) (v2 : Int32) (v3 : Int32) (v4 : Int32) : Prop :=
  (G321 p (cn 7) v1 v2 v3 v4 (cn 0) (cn 0)) ∧ (
  let r1 : Int32 × PM := F321 p (cn 7) v1 v2 v3 v4 (cn 0) (cn 0)
  True)
noncomputable def g12_setRule (p : PM) (v1 : Int32) (v2 : Int32) (v3 : Int32) (v4 : Int32) : Prop := bg12_setRule v12_act g12_act p v1 v2 v3 v4
def R329 : List Row := [(0, .aload_n 0, 1, 0, (0, 0, 0, 0, 0, 0)), (1, .bipush 7, 2, 0, (0, 0, 0, 0, 0, 7)), (3, .iload_n 1, 1, 0, (0, 0, 0, 0, 0, 0)), (4, .iload_n 2, 1, 0, (0, 0, 0, 0, 0, 0)), (5, .iload_n 3, 1, 0, (0, 0, 0, 0, 0, 0)), (6, .iload 4, 2, 0, (0, 0, 0, 0, 0, 0)), (8, .iconst 0, 1, 0, (0, 0, 0, 0, 0, 0)), (9, .iconst 0, 1, 0, (0, 0, 0, 0, 0, 0)), (10, .invokevirtual 594, 3, 0, (0, 8, 0, 0, 1, 0)), (13, .ireturn, 1, 0, (0, 0, 0, 0, 0, 0))]
set_option maxRecDepth 100000 in
theorem rk329 : R329.all (rok 2 329 1 [(321, [15, 0, 0, 0, 0, 0, 0, 0])]) = true := by decide +kernel
set_option maxRecDepth 100000 in
theorem tab329 {F321 : PM → Int32 → Int32 → Int32 → Int32 → Int32 → Int32 → Int32 → Int32 × PM} {G321 : PM → Int32 → Int32 → Int32 → Int32 → Int32 → Int32 → Int32 → Prop} : TabOK 2 329 1 [CC321 F321 G321] R329 := tab_ok (K := K329) rfl rfl (fun h => d329 h) rk329 (by decide +kernel)
set_option maxRecDepth 100000 in
theorem pc329 : cutpc [] R329 = true := by decide +kernel
set_option maxRecDepth 100000 in
theorem r12_setRule (F321 : PM → Int32 → Int32 → Int32 → Int32 → Int32 → Int32 → Int32 → Int32 × PM) (G321 : PM → Int32 → Int32 → Int32 → Int32 → Int32 → Int32 → Int32 → Prop) (o321 : CalOK 2 (CC321 F321 G321)) : ∀ (p : PM) (v1 : Int32) (v2 : Int32) (v3 : Int32) (v4 : Int32), Gr 2 p → bg12_setRule F321 G321 p v1 v2 v3 v4 → ZJ 2 329 0 [zR 12 1, zI v1, zI v2, zI v3, zI v4] [] p (hwI (bv12_setRule F321 p v1 v2 v3 v4)) := by
  intro p v1 v2 v3 v4  hg H
  exact rwI (n := 3000) (q := 0) (la := [zR 12 1, zI v1, zI v2, zI v3, zI v4]) (sa := []) (ks := []) (gs := []) (fcons o321 (fnil)) tab329 pc329 trivial hg H
theorem t12_setRule : ∀ (p : PM) (v1 : Int32) (v2 : Int32) (v3 : Int32) (v4 : Int32), Gr 2 p → g12_setRule p v1 v2 v3 v4 → ZJ 2 329 0 [zR 12 1, zI v1, zI v2, zI v3, zI v4] [] p (hwI (v12_setRule p v1 v2 v3 v4)) := r12_setRule v12_act g12_act ok321
def CC329 (F : PM → Int32 → Int32 → Int32 → Int32 → Int32 × PM) (G : PM → Int32 → Int32 → Int32 → Int32 → Prop) : Cal := (329, [15, 0, 0, 0, 0], 1, false, fun as p => (zI (F p (ai as 1) (ai as 2) (ai as 3) (ai as 4)).1, (F p (ai as 1) (ai as 2) (ai as 3) (ai as 4)).2), fun as p => zsw (tc2 as [(112, 1), (0, 0), (0, 0), (0, 0), (0, 0)]) False (G p (ai as 1) (ai as 2) (ai as 3) (ai as 4)))
set_option maxRecDepth 100000 in
theorem okr329 (F : PM → Int32 → Int32 → Int32 → Int32 → Int32 × PM) (G : PM → Int32 → Int32 → Int32 → Int32 → Prop) (h : ∀ (p : PM) (v1 : Int32) (v2 : Int32) (v3 : Int32) (v4 : Int32), Gr 2 p → G p v1 v2 v3 v4 → ZJ 2 329 0 [zR 12 1, zI v1, zI v2, zI v3, zI v4] [] p (hwI (F p v1 v2 v3 v4))) : CalOK 2 (CC329 F G) := cal_ok (m := 5) (by unfold mL; rw [mX_329]) (fun as p hg H => h p (ai as 1) (ai as 2) (ai as 3) (ai as 4) hg H)
theorem ok329 : CalOK 2 (CC329 v12_setRule g12_setRule) := okr329 v12_setRule g12_setRule t12_setRule
noncomputable def bv12_setBand (F321 : PM → Int32 → Int32 → Int32 → Int32 → Int32 → Int32 → Int32 → Int32 × PM) (p : PM) (v1 : Int32) (v2 : Int32) : Int32 × PM :=
  let r1 : Int32 × PM := F321 p (cn 8) v1 v2 (cn 0) (cn 0) (cn 0) (cn 0)
  (r1.1, r1.2)
noncomputable def v12_setBand (p : PM) (v1 : Int32) (v2 : Int32) : Int32 × PM := bv12_setBand v12_act p v1 v2
noncomputable def bg12_setBand (F321 : PM → Int32 → Int32 → Int32 → Int32 → Int32 → Int32 → Int32 → Int32 × PM) (G321 : PM → Int32 → Int32 → Int32 → Int32 → Int32 → Int32 → Int32 → Prop) (p : PM) (v1 : Int32) (v2 : Int32) : Prop :=
  (G321 p (cn 8) v1 v2 (cn 0) (cn 0) (cn 0) (cn 0)) ∧ (
  let r1 : Int32 × PM := F321 p (cn 8) v1 v2 (cn 0) (cn 0) (cn 0) (cn 0)
  True)
noncomputable def g12_setBand (p : PM) (v1 : Int32) (v2 : Int32) : Prop := bg12_setBand v12_act g12_act p v1 v2
def R330 : List Row := [(0, .aload_n 0, 1, 0, (0, 0, 0, 0, 0, 0)), (1, .bipush 8, 2, 0, (0, 0, 0, 0, 0, 8)), (3, .iload_n 1, 1, 0, (0, 0, 0, 0, 0, 0)), (4, .iload_n 2, 1, 0, (0, 0, 0, 0, 0, 0)), (5, .iconst 0, 1, 0, (0, 0, 0, 0, 0, 0)), (6, .iconst 0, 1, 0, (0, 0, 0, 0, 0, 0)), (7, .iconst 0, 1, 0, (0, 0, 0, 0, 0, 0)), (8, .iconst 0, 1, 0, (0, 0, 0, 0, 0, 0)), (9, .invokevirtual 594, 3, 0, (0, 8, 0, 0, 1, 0)), (12, .ireturn, 1, 0, (0, 0, 0, 0, 0, 0))]
set_option maxRecDepth 100000 in
theorem rk330 : R330.all (rok 2 330 1 [(321, [15, 0, 0, 0, 0, 0, 0, 0])]) = true := by decide +kernel
set_option maxRecDepth 100000 in
theorem tab330 {F321 : PM → Int32 → Int32 → Int32 → Int32 → Int32 → Int32 → Int32 → Int32 × PM} {G321 : PM → Int32 → Int32 → Int32 → Int32 → Int32 → Int32 → Int32 → Prop} : TabOK 2 330 1 [CC321 F321 G321] R330 := tab_ok (K := K330) rfl rfl (fun h => d330 h) rk330 (by decide +kernel)
set_option maxRecDepth 100000 in
theorem pc330 : cutpc [] R330 = true := by decide +kernel
set_option maxRecDepth 100000 in
theorem r12_setBand (F321 : PM → Int32 → Int32 → Int32 → Int32 → Int32 → Int32 → Int32 → Int32 × PM) (G321 : PM → Int32 → Int32 → Int32 → Int32 → Int32 → Int32 → Int32 → Prop) (o321 : CalOK 2 (CC321 F321 G321)) : ∀ (p : PM) (v1 : Int32) (v2 : Int32), Gr 2 p → bg12_setBand F321 G321 p v1 v2 → ZJ 2 330 0 [zR 12 1, zI v1, zI v2] [] p (hwI (bv12_setBand F321 p v1 v2)) := by
  intro p v1 v2  hg H
  exact rwI (n := 3000) (q := 0) (la := [zR 12 1, zI v1, zI v2]) (sa := []) (ks := []) (gs := []) (fcons o321 (fnil)) tab330 pc330 trivial hg H
theorem t12_setBand : ∀ (p : PM) (v1 : Int32) (v2 : Int32), Gr 2 p → g12_setBand p v1 v2 → ZJ 2 330 0 [zR 12 1, zI v1, zI v2] [] p (hwI (v12_setBand p v1 v2)) := r12_setBand v12_act g12_act ok321
def CC330 (F : PM → Int32 → Int32 → Int32 × PM) (G : PM → Int32 → Int32 → Prop) : Cal := (330, [15, 0, 0], 1, false, fun as p => (zI (F p (ai as 1) (ai as 2)).1, (F p (ai as 1) (ai as 2)).2), fun as p => zsw (tc2 as [(112, 1), (0, 0), (0, 0)]) False (G p (ai as 1) (ai as 2)))
set_option maxRecDepth 100000 in
theorem okr330 (F : PM → Int32 → Int32 → Int32 × PM) (G : PM → Int32 → Int32 → Prop) (h : ∀ (p : PM) (v1 : Int32) (v2 : Int32), Gr 2 p → G p v1 v2 → ZJ 2 330 0 [zR 12 1, zI v1, zI v2] [] p (hwI (F p v1 v2))) : CalOK 2 (CC330 F G) := cal_ok (m := 3) (by unfold mL; rw [mX_330]) (fun as p hg H => h p (ai as 1) (ai as 2) hg H)
theorem ok330 : CalOK 2 (CC330 v12_setBand g12_setBand) := okr330 v12_setBand g12_setBand t12_setBand
noncomputable def bv12_setProtection (F321 : PM → Int32 → Int32 → Int32 → Int32 → Int32 → Int32 → Int32 → Int32 × PM) (p : PM) (v1 : Int32) (v2 : Int32) : Int32 × PM :=
  let r1 : Int32 × PM := F321 p (cn 9) v1 v2 (cn 0) (cn 0) (cn 0) (cn 0)
  (r1.1, r1.2)
noncomputable def v12_setProtection (p : PM) (v1 : Int32) (v2 : Int32) : Int32 × PM := bv12_setProtection v12_act p v1 v2
noncomputable def bg12_setProtection (F321 : PM → Int32 → Int32 → Int32 → Int32 → Int32 → Int32 → Int32 → Int32 × PM) (G321 : PM → Int32 → Int32 → Int32 → Int32 → Int32 → Int32 → Int32 → Prop) (p : PM) (v1 : Int32) (v2 : Int32) : Prop :=
  (G321 p (cn 9) v1 v2 (cn 0) (cn 0) (cn 0) (cn 0)) ∧ (
  let r1 : Int32 × PM := F321 p (cn 9) v1 v2 (cn 0) (cn 0) (cn 0) (cn 0)
  True)
noncomputable def g12_setProtection (p : PM) (v1 : Int32) (v2 : Int32) : Prop := bg12_setProtection v12_act g12_act p v1 v2
def R331 : List Row := [(0, .aload_n 0, 1, 0, (0, 0, 0, 0, 0, 0)), (1, .bipush 9, 2, 0, (0, 0, 0, 0, 0, 9)), (3, .iload_n 1, 1, 0, (0, 0, 0, 0, 0, 0)), (4, .iload_n 2, 1, 0, (0, 0, 0, 0, 0, 0)), (5, .iconst 0, 1, 0, (0, 0, 0, 0, 0, 0)), (6, .iconst 0, 1, 0, (0, 0, 0, 0, 0, 0)), (7, .iconst 0, 1, 0, (0, 0, 0, 0, 0, 0)), (8, .iconst 0, 1, 0, (0, 0, 0, 0, 0, 0)), (9, .invokevirtual 594, 3, 0, (0, 8, 0, 0, 1, 0)), (12, .ireturn, 1, 0, (0, 0, 0, 0, 0, 0))]
set_option maxRecDepth 100000 in
theorem rk331 : R331.all (rok 2 331 1 [(321, [15, 0, 0, 0, 0, 0, 0, 0])]) = true := by decide +kernel
set_option maxRecDepth 100000 in
theorem tab331 {F321 : PM → Int32 → Int32 → Int32 → Int32 → Int32 → Int32 → Int32 → Int32 × PM} {G321 : PM → Int32 → Int32 → Int32 → Int32 → Int32 → Int32 → Int32 → Prop} : TabOK 2 331 1 [CC321 F321 G321] R331 := tab_ok (K := K331) rfl rfl (fun h => d331 h) rk331 (by decide +kernel)
set_option maxRecDepth 100000 in
theorem pc331 : cutpc [] R331 = true := by decide +kernel
set_option maxRecDepth 100000 in
theorem r12_setProtection (F321 : PM → Int32 → Int32 → Int32 → Int32 → Int32 → Int32 → Int32 → Int32 × PM) (G321 : PM → Int32 → Int32 → Int32 → Int32 → Int32 → Int32 → Int32 → Prop) (o321 : CalOK 2 (CC321 F321 G321)) : ∀ (p : PM) (v1 : Int32) (v2 : Int32), Gr 2 p → bg12_setProtection F321 G321 p v1 v2 → ZJ 2 331 0 [zR 12 1, zI v1, zI v2] [] p (hwI (bv12_setProtection F321 p v1 v2)) := by
  intro p v1 v2  hg H
  exact rwI (n := 3000) (q := 0) (la := [zR 12 1, zI v1, zI v2]) (sa := []) (ks := []) (gs := []) (fcons o321 (fnil)) tab331 pc331 trivial hg H
theorem t12_setProtection : ∀ (p : PM) (v1 : Int32) (v2 : Int32), Gr 2 p → g12_setProtection p v1 v2 → ZJ 2 331 0 [zR 12 1, zI v1, zI v2] [] p (hwI (v12_setProtection p v1 v2)) := r12_setProtection v12_act g12_act ok321
def CC331 (F : PM → Int32 → Int32 → Int32 × PM) (G : PM → Int32 → Int32 → Prop) : Cal := (331, [15, 0, 0], 1, false, fun as p => (zI (F p (ai as 1) (ai as 2)).1, (F p (ai as 1) (ai as 2)).2), fun as p => zsw (tc2 as [(112, 1), (0, 0), (0, 0)]) False (G p (ai as 1) (ai as 2)))
set_option maxRecDepth 100000 in
theorem okr331 (F : PM → Int32 → Int32 → Int32 × PM) (G : PM → Int32 → Int32 → Prop) (h : ∀ (p : PM) (v1 : Int32) (v2 : Int32), Gr 2 p → G p v1 v2 → ZJ 2 331 0 [zR 12 1, zI v1, zI v2] [] p (hwI (F p v1 v2))) : CalOK 2 (CC331 F G) := cal_ok (m := 3) (by unfold mL; rw [mX_331]) (fun as p hg H => h p (ai as 1) (ai as 2) hg H)
theorem ok331 : CalOK 2 (CC331 v12_setProtection g12_setProtection) := okr331 v12_setProtection g12_setProtection t12_setProtection
noncomputable def bv12_setLimit (F321 : PM → Int32 → Int32 → Int32 → Int32 → Int32 → Int32 → Int32 → Int32 × PM) (p : PM) (v1 : Int32) (v2 : Int32) (v3 : Int32) : Int32 × PM :=
  let r1 : Int32 × PM := F321 p (cn 10) v1 v2 v3 (cn 0) (cn 0) (cn 0)
  (r1.1, r1.2)
noncomputable def v12_setLimit (p : PM) (v1 : Int32) (v2 : Int32) (v3 : Int32) : Int32 × PM := bv12_setLimit v12_act p v1 v2 v3
noncomputable def bg12_setLimit (F321 : PM → Int32 → Int32 → Int32 → Int32 → Int32 → Int32 → Int32 → Int32 × PM) (G321 : PM → Int32 → Int32 → Int32 → Int32 → Int32 → Int32 → Int32 → Prop) (p : PM) (v1 : Int32) (v2 : Int32) (v3 : Int32) : Prop :=
  (G321 p (cn 10) v1 v2 v3 (cn 0) (cn 0) (cn 0)) ∧ (
  let r1 : Int32 × PM := F321 p (cn 10) v1 v2 v3 (cn 0) (cn 0) (cn 0)
  True)
noncomputable def g12_setLimit (p : PM) (v1 : Int32) (v2 : Int32) (v3 : Int32) : Prop := bg12_setLimit v12_act g12_act p v1 v2 v3
def R332 : List Row := [(0, .aload_n 0, 1, 0, (0, 0, 0, 0, 0, 0)), (1, .bipush 10, 2, 0, (0, 0, 0, 0, 0, 10)), (3, .iload_n 1, 1, 0, (0, 0, 0, 0, 0, 0)), (4, .iload_n 2, 1, 0, (0, 0, 0, 0, 0, 0)), (5, .iload_n 3, 1, 0, (0, 0, 0, 0, 0, 0)), (6, .iconst 0, 1, 0, (0, 0, 0, 0, 0, 0)), (7, .iconst 0, 1, 0, (0, 0, 0, 0, 0, 0)), (8, .iconst 0, 1, 0, (0, 0, 0, 0, 0, 0)), (9, .invokevirtual 594, 3, 0, (0, 8, 0, 0, 1, 0)), (12, .ireturn, 1, 0, (0, 0, 0, 0, 0, 0))]
set_option maxRecDepth 100000 in
theorem rk332 : R332.all (rok 2 332 1 [(321, [15, 0, 0, 0, 0, 0, 0, 0])]) = true := by decide +kernel
set_option maxRecDepth 100000 in
theorem tab332 {F321 : PM → Int32 → Int32 → Int32 → Int32 → Int32 → Int32 → Int32 → Int32 × PM} {G321 : PM → Int32 → Int32 → Int32 → Int32 → Int32 → Int32 → Int32 → Prop} : TabOK 2 332 1 [CC321 F321 G321] R332 := tab_ok (K := K332) rfl rfl (fun h => d332 h) rk332 (by decide +kernel)
set_option maxRecDepth 100000 in
theorem pc332 : cutpc [] R332 = true := by decide +kernel
set_option maxRecDepth 100000 in
theorem r12_setLimit (F321 : PM → Int32 → Int32 → Int32 → Int32 → Int32 → Int32 → Int32 → Int32 × PM) (G321 : PM → Int32 → Int32 → Int32 → Int32 → Int32 → Int32 → Int32 → Prop) (o321 : CalOK 2 (CC321 F321 G321)) : ∀ (p : PM) (v1 : Int32) (v2 : Int32) (v3 : Int32), Gr 2 p → bg12_setLimit F321 G321 p v1 v2 v3 → ZJ 2 332 0 [zR 12 1, zI v1, zI v2, zI v3] [] p (hwI (bv12_setLimit F321 p v1 v2 v3)) := by
  intro p v1 v2 v3  hg H
  exact rwI (n := 3000) (q := 0) (la := [zR 12 1, zI v1, zI v2, zI v3]) (sa := []) (ks := []) (gs := []) (fcons o321 (fnil)) tab332 pc332 trivial hg H
theorem t12_setLimit : ∀ (p : PM) (v1 : Int32) (v2 : Int32) (v3 : Int32), Gr 2 p → g12_setLimit p v1 v2 v3 → ZJ 2 332 0 [zR 12 1, zI v1, zI v2, zI v3] [] p (hwI (v12_setLimit p v1 v2 v3)) := r12_setLimit v12_act g12_act ok321
def CC332 (F : PM → Int32 → Int32 → Int32 → Int32 × PM) (G : PM → Int32 → Int32 → Int32 → Prop) : Cal := (332, [15, 0, 0, 0], 1, false, fun as p => (zI (F p (ai as 1) (ai as 2) (ai as 3)).1, (F p (ai as 1) (ai as 2) (ai as 3)).2), fun as p => zsw (tc2 as [(112, 1), (0, 0), (0, 0), (0, 0)]) False (G p (ai as 1) (ai as 2) (ai as 3)))
set_option maxRecDepth 100000 in
theorem okr332 (F : PM → Int32 → Int32 → Int32 → Int32 × PM) (G : PM → Int32 → Int32 → Int32 → Prop) (h : ∀ (p : PM) (v1 : Int32) (v2 : Int32) (v3 : Int32), Gr 2 p → G p v1 v2 v3 → ZJ 2 332 0 [zR 12 1, zI v1, zI v2, zI v3] [] p (hwI (F p v1 v2 v3))) : CalOK 2 (CC332 F G) := cal_ok (m := 4) (by unfold mL; rw [mX_332]) (fun as p hg H => h p (ai as 1) (ai as 2) (ai as 3) hg H)
theorem ok332 : CalOK 2 (CC332 v12_setLimit g12_setLimit) := okr332 v12_setLimit g12_setLimit t12_setLimit
noncomputable def bv12_auction (F321 : PM → Int32 → Int32 → Int32 → Int32 → Int32 → Int32 → Int32 → Int32 × PM) (p : PM) (v1 : Int32) (v2 : Int32) (v3 : Int32) (v4 : Int32) : Int32 × PM :=
  let r1 : Int32 × PM := F321 p (cn 11) v1 v2 v3 v4 (cn 0) (cn 0)
  (r1.1, r1.2)
noncomputable def v12_auction (p : PM) (v1 : Int32) (v2 : Int32) (v3 : Int32) (v4 : Int32) : Int32 × PM := bv12_auction v12_act p v1 v2 v3 v4
noncomputable def bg12_auction (F321 : PM → Int32 → Int32 → Int32 → Int32 → Int32 → Int32 → Int32 → Int32 × PM) (G321 : PM → Int32 → Int32 → Int32 → Int32 → Int32 → Int32 → Int32 → Prop) (p : PM) (v1 : Int32) (v2 : Int32) (v3 : Int32) (v4 : Int32) : Prop :=
  (G321 p (cn 11) v1 v2 v3 v4 (cn 0) (cn 0)) ∧ (
  let r1 : Int32 × PM := F321 p (cn 11) v1 v2 v3 v4 (cn 0) (cn 0)
  True)
noncomputable def g12_auction (p : PM) (v1 : Int32) (v2 : Int32) (v3 : Int32) (v4 : Int32) : Prop := bg12_auction v12_act g12_act p v1 v2 v3 v4
def R333 : List Row := [(0, .aload_n 0, 1, 0, (0, 0, 0, 0, 0, 0)), (1, .bipush 11, 2, 0, (0, 0, 0, 0, 0, 11)), (3, .iload_n 1, 1, 0, (0, 0, 0, 0, 0, 0)), (4, .iload_n 2, 1, 0, (0, 0, 0, 0, 0, 0)), (5, .iload_n 3, 1, 0, (0, 0, 0, 0, 0, 0)), (6, .iload 4, 2, 0, (0, 0, 0, 0, 0, 0)), (8, .iconst 0, 1, 0, (0, 0, 0, 0, 0, 0)), (9, .iconst 0, 1, 0, (0, 0, 0, 0, 0, 0)), (10, .invokevirtual 594, 3, 0, (0, 8, 0, 0, 1, 0)), (13, .ireturn, 1, 0, (0, 0, 0, 0, 0, 0))]
set_option maxRecDepth 100000 in
theorem rk333 : R333.all (rok 2 333 1 [(321, [15, 0, 0, 0, 0, 0, 0, 0])]) = true := by decide +kernel
set_option maxRecDepth 100000 in
theorem tab333 {F321 : PM → Int32 → Int32 → Int32 → Int32 → Int32 → Int32 → Int32 → Int32 × PM} {G321 : PM → Int32 → Int32 → Int32 → Int32 → Int32 → Int32 → Int32 → Prop} : TabOK 2 333 1 [CC321 F321 G321] R333 := tab_ok (K := K333) rfl rfl (fun h => d333 h) rk333 (by decide +kernel)
set_option maxRecDepth 100000 in
theorem pc333 : cutpc [] R333 = true := by decide +kernel
set_option maxRecDepth 100000 in
theorem r12_auction (F321 : PM → Int32 → Int32 → Int32 → Int32 → Int32 → Int32 → Int32 → Int32 × PM) (G321 : PM → Int32 → Int32 → Int32 → Int32 → Int32 → Int32 → Int32 → Prop) (o321 : CalOK 2 (CC321 F321 G321)) : ∀ (p : PM) (v1 : Int32) (v2 : Int32) (v3 : Int32) (v4 : Int32), Gr 2 p → bg12_auction F321 G321 p v1 v2 v3 v4 → ZJ 2 333 0 [zR 12 1, zI v1, zI v2, zI v3, zI v4] [] p (hwI (bv12_auction F321 p v1 v2 v3 v4)) := by
  intro p v1 v2 v3 v4  hg H
  exact rwI (n := 3000) (q := 0) (la := [zR 12 1, zI v1, zI v2, zI v3, zI v4]) (sa := []) (ks := []) (gs := []) (fcons o321 (fnil)) tab333 pc333 trivial hg H
theorem t12_auction : ∀ (p : PM) (v1 : Int32) (v2 : Int32) (v3 : Int32) (v4 : Int32), Gr 2 p → g12_auction p v1 v2 v3 v4 → ZJ 2 333 0 [zR 12 1, zI v1, zI v2, zI v3, zI v4] [] p (hwI (v12_auction p v1 v2 v3 v4)) := r12_auction v12_act g12_act ok321
def CC333 (F : PM → Int32 → Int32 → Int32 → Int32 → Int32 × PM) (G : PM → Int32 → Int32 → Int32 → Int32 → Prop) : Cal := (333, [15, 0, 0, 0, 0], 1, false, fun as p => (zI (F p (ai as 1) (ai as 2) (ai as 3) (ai as 4)).1, (F p (ai as 1) (ai as 2) (ai as 3) (ai as 4)).2), fun as p => zsw (tc2 as [(112, 1), (0, 0), (0, 0), (0, 0), (0, 0)]) False (G p (ai as 1) (ai as 2) (ai as 3) (ai as 4)))
set_option maxRecDepth 100000 in
theorem okr333 (F : PM → Int32 → Int32 → Int32 → Int32 → Int32 × PM) (G : PM → Int32 → Int32 → Int32 → Int32 → Prop) (h : ∀ (p : PM) (v1 : Int32) (v2 : Int32) (v3 : Int32) (v4 : Int32), Gr 2 p → G p v1 v2 v3 v4 → ZJ 2 333 0 [zR 12 1, zI v1, zI v2, zI v3, zI v4] [] p (hwI (F p v1 v2 v3 v4))) : CalOK 2 (CC333 F G) := cal_ok (m := 5) (by unfold mL; rw [mX_333]) (fun as p hg H => h p (ai as 1) (ai as 2) (ai as 3) (ai as 4) hg H)
theorem ok333 : CalOK 2 (CC333 v12_auction g12_auction) := okr333 v12_auction g12_auction t12_auction
noncomputable def bv12_pass (F321 : PM → Int32 → Int32 → Int32 → Int32 → Int32 → Int32 → Int32 → Int32 × PM) (p : PM) (v1 : Int32) : Int32 × PM :=
  let r1 : Int32 × PM := F321 p (cn 12) v1 (cn 0) (cn 0) (cn 0) (cn 0) (cn 0)
  (r1.1, r1.2)
noncomputable def v12_pass (p : PM) (v1 : Int32) : Int32 × PM := bv12_pass v12_act p v1
noncomputable def bg12_pass (F321 : PM → Int32 → Int32 → Int32 → Int32 → Int32 → Int32 → Int32 → Int32 × PM) (G321 : PM → Int32 → Int32 → Int32 → Int32 → Int32 → Int32 → Int32 → Prop) (p : PM) (v1 : Int32) : Prop :=
  (G321 p (cn 12) v1 (cn 0) (cn 0) (cn 0) (cn 0) (cn 0)) ∧ (
  let r1 : Int32 × PM := F321 p (cn 12) v1 (cn 0) (cn 0) (cn 0) (cn 0) (cn 0)
  True)
noncomputable def g12_pass (p : PM) (v1 : Int32) : Prop := bg12_pass v12_act g12_act p v1
def R334 : List Row := [(0, .aload_n 0, 1, 0, (0, 0, 0, 0, 0, 0)), (1, .bipush 12, 2, 0, (0, 0, 0, 0, 0, 12)), (3, .iload_n 1, 1, 0, (0, 0, 0, 0, 0, 0)), (4, .iconst 0, 1, 0, (0, 0, 0, 0, 0, 0)), (5, .iconst 0, 1, 0, (0, 0, 0, 0, 0, 0)), (6, .iconst 0, 1, 0, (0, 0, 0, 0, 0, 0)), (7, .iconst 0, 1, 0, (0, 0, 0, 0, 0, 0)), (8, .iconst 0, 1, 0, (0, 0, 0, 0, 0, 0)), (9, .invokevirtual 594, 3, 0, (0, 8, 0, 0, 1, 0)), (12, .ireturn, 1, 0, (0, 0, 0, 0, 0, 0))]
set_option maxRecDepth 100000 in
theorem rk334 : R334.all (rok 2 334 1 [(321, [15, 0, 0, 0, 0, 0, 0, 0])]) = true := by decide +kernel
set_option maxRecDepth 100000 in
theorem tab334 {F321 : PM → Int32 → Int32 → Int32 → Int32 → Int32 → Int32 → Int32 → Int32 × PM} {G321 : PM → Int32 → Int32 → Int32 → Int32 → Int32 → Int32 → Int32 → Prop} : TabOK 2 334 1 [CC321 F321 G321] R334 := tab_ok (K := K334) rfl rfl (fun h => d334 h) rk334 (by decide +kernel)
set_option maxRecDepth 100000 in
theorem pc334 : cutpc [] R334 = true := by decide +kernel
set_option maxRecDepth 100000 in
theorem r12_pass (F321 : PM → Int32 → Int32 → Int32 → Int32 → Int32 → Int32 → Int32 → Int32 × PM) (G321 : PM → Int32 → Int32 → Int32 → Int32 → Int32 → Int32 → Int32 → Prop) (o321 : CalOK 2 (CC321 F321 G321)) : ∀ (p : PM) (v1 : Int32), Gr 2 p → bg12_pass F321 G321 p v1 → ZJ 2 334 0 [zR 12 1, zI v1] [] p (hwI (bv12_pass F321 p v1)) := by
  intro p v1  hg H
  exact rwI (n := 3000) (q := 0) (la := [zR 12 1, zI v1]) (sa := []) (ks := []) (gs := []) (fcons o321 (fnil)) tab334 pc334 trivial hg H
theorem t12_pass : ∀ (p : PM) (v1 : Int32), Gr 2 p → g12_pass p v1 → ZJ 2 334 0 [zR 12 1, zI v1] [] p (hwI (v12_pass p v1)) := r12_pass v12_act g12_act ok321
def CC334 (F : PM → Int32 → Int32 × PM) (G : PM → Int32 → Prop) : Cal := (334, [15, 0], 1, false, fun as p => (zI (F p (ai as 1)).1, (F p (ai as 1)).2), fun as p => zsw (tc2 as [(112, 1), (0, 0)]) False (G p (ai as 1)))
set_option maxRecDepth 100000 in
theorem okr334 (F : PM → Int32 → Int32 × PM) (G : PM → Int32 → Prop) (h : ∀ (p : PM) (v1 : Int32), Gr 2 p → G p v1 → ZJ 2 334 0 [zR 12 1, zI v1] [] p (hwI (F p v1))) : CalOK 2 (CC334 F G) := cal_ok (m := 2) (by unfold mL; rw [mX_334]) (fun as p hg H => h p (ai as 1) hg H)
theorem ok334 : CalOK 2 (CC334 v12_pass g12_pass) := okr334 v12_pass g12_pass t12_pass
noncomputable def bv12_endDay (F321 : PM → Int32 → Int32 → Int32 → Int32 → Int32 → Int32 → Int32 → Int32 × PM) (p : PM) : Int32 × PM :=
  let r1 : Int32 × PM := F321 p (cn 13) (cn 0) (cn 0) (cn 0) (cn 0) (cn 0) (cn 0)
  (r1.1, r1.2)
noncomputable def v12_endDay (p : PM) : Int32 × PM := bv12_endDay v12_act p
noncomputable def bg12_endDay (F321 : PM → Int32 → Int32 → Int32 → Int32 → Int32 → Int32 → Int32 → Int32 × PM) (G321 : PM → Int32 → Int32 → Int32 → Int32 → Int32 → Int32 → Int32 → Prop) (p : PM) : Prop :=
  (G321 p (cn 13) (cn 0) (cn 0) (cn 0) (cn 0) (cn 0) (cn 0)) ∧ (
  let r1 : Int32 × PM := F321 p (cn 13) (cn 0) (cn 0) (cn 0) (cn 0) (cn 0) (cn 0)
  True)
noncomputable def g12_endDay (p : PM) : Prop := bg12_endDay v12_act g12_act p
def R335 : List Row := [(0, .aload_n 0, 1, 0, (0, 0, 0, 0, 0, 0)), (1, .bipush 13, 2, 0, (0, 0, 0, 0, 0, 13)), (3, .iconst 0, 1, 0, (0, 0, 0, 0, 0, 0)), (4, .iconst 0, 1, 0, (0, 0, 0, 0, 0, 0)), (5, .iconst 0, 1, 0, (0, 0, 0, 0, 0, 0)), (6, .iconst 0, 1, 0, (0, 0, 0, 0, 0, 0)), (7, .iconst 0, 1, 0, (0, 0, 0, 0, 0, 0)), (8, .iconst 0, 1, 0, (0, 0, 0, 0, 0, 0)), (9, .invokevirtual 594, 3, 0, (0, 8, 0, 0, 1, 0)), (12, .ireturn, 1, 0, (0, 0, 0, 0, 0, 0))]
set_option maxRecDepth 100000 in
theorem rk335 : R335.all (rok 2 335 1 [(321, [15, 0, 0, 0, 0, 0, 0, 0])]) = true := by decide +kernel
set_option maxRecDepth 100000 in
theorem tab335 {F321 : PM → Int32 → Int32 → Int32 → Int32 → Int32 → Int32 → Int32 → Int32 × PM} {G321 : PM → Int32 → Int32 → Int32 → Int32 → Int32 → Int32 → Int32 → Prop} : TabOK 2 335 1 [CC321 F321 G321] R335 := tab_ok (K := K335) rfl rfl (fun h => d335 h) rk335 (by decide +kernel)
set_option maxRecDepth 100000 in
theorem pc335 : cutpc [] R335 = true := by decide +kernel
set_option maxRecDepth 100000 in
theorem r12_endDay (F321 : PM → Int32 → Int32 → Int32 → Int32 → Int32 → Int32 → Int32 → Int32 × PM) (G321 : PM → Int32 → Int32 → Int32 → Int32 → Int32 → Int32 → Int32 → Prop) (o321 : CalOK 2 (CC321 F321 G321)) : ∀ (p : PM), Gr 2 p → bg12_endDay F321 G321 p → ZJ 2 335 0 [zR 12 1] [] p (hwI (bv12_endDay F321 p)) := by
  intro p   hg H
  exact rwI (n := 3000) (q := 0) (la := [zR 12 1]) (sa := []) (ks := []) (gs := []) (fcons o321 (fnil)) tab335 pc335 trivial hg H
theorem t12_endDay : ∀ (p : PM), Gr 2 p → g12_endDay p → ZJ 2 335 0 [zR 12 1] [] p (hwI (v12_endDay p)) := r12_endDay v12_act g12_act ok321
def CC335 (F : PM → Int32 × PM) (G : PM → Prop) : Cal := (335, [15], 1, false, fun as p => (zI (F p ).1, (F p ).2), fun as p => zsw (tc2 as [(112, 1)]) False (G p ))
set_option maxRecDepth 100000 in
theorem okr335 (F : PM → Int32 × PM) (G : PM → Prop) (h : ∀ (p : PM), Gr 2 p → G p  → ZJ 2 335 0 [zR 12 1] [] p (hwI (F p ))) : CalOK 2 (CC335 F G) := cal_ok (m := 1) (by unfold mL; rw [mX_335]) (fun as p hg H => h p  hg H)
theorem ok335 : CalOK 2 (CC335 v12_endDay g12_endDay) := okr335 v12_endDay g12_endDay t12_endDay
noncomputable def bv12_bust (F321 : PM → Int32 → Int32 → Int32 → Int32 → Int32 → Int32 → Int32 → Int32 × PM) (p : PM) (v1 : Int32) : Int32 × PM :=
  let r1 : Int32 × PM := F321 p (cn 14) v1 (cn 0) (cn 0) (cn 0) (cn 0) (cn 0)
  (r1.1, r1.2)
noncomputable def v12_bust (p : PM) (v1 : Int32) : Int32 × PM := bv12_bust v12_act p v1
noncomputable def bg12_bust (F321 : PM → Int32 → Int32 → Int32 → Int32 → Int32 → Int32 → Int32 → Int32 × PM) (G321 : PM → Int32 → Int32 → Int32 → Int32 → Int32 → Int32 → Int32 → Prop) (p : PM) (v1 : Int32) : Prop :=
  (G321 p (cn 14) v1 (cn 0) (cn 0) (cn 0) (cn 0) (cn 0)) ∧ (
  let r1 : Int32 × PM := F321 p (cn 14) v1 (cn 0) (cn 0) (cn 0) (cn 0) (cn 0)
  True)
noncomputable def g12_bust (p : PM) (v1 : Int32) : Prop := bg12_bust v12_act g12_act p v1
def R336 : List Row := [(0, .aload_n 0, 1, 0, (0, 0, 0, 0, 0, 0)), (1, .bipush 14, 2, 0, (0, 0, 0, 0, 0, 14)), (3, .iload_n 1, 1, 0, (0, 0, 0, 0, 0, 0)), (4, .iconst 0, 1, 0, (0, 0, 0, 0, 0, 0)), (5, .iconst 0, 1, 0, (0, 0, 0, 0, 0, 0)), (6, .iconst 0, 1, 0, (0, 0, 0, 0, 0, 0)), (7, .iconst 0, 1, 0, (0, 0, 0, 0, 0, 0)), (8, .iconst 0, 1, 0, (0, 0, 0, 0, 0, 0)), (9, .invokevirtual 594, 3, 0, (0, 8, 0, 0, 1, 0)), (12, .ireturn, 1, 0, (0, 0, 0, 0, 0, 0))]
set_option maxRecDepth 100000 in
theorem rk336 : R336.all (rok 2 336 1 [(321, [15, 0, 0, 0, 0, 0, 0, 0])]) = true := by decide +kernel
set_option maxRecDepth 100000 in
theorem tab336 {F321 : PM → Int32 → Int32 → Int32 → Int32 → Int32 → Int32 → Int32 → Int32 × PM} {G321 : PM → Int32 → Int32 → Int32 → Int32 → Int32 → Int32 → Int32 → Prop} : TabOK 2 336 1 [CC321 F321 G321] R336 := tab_ok (K := K336) rfl rfl (fun h => d336 h) rk336 (by decide +kernel)
set_option maxRecDepth 100000 in
theorem pc336 : cutpc [] R336 = true := by decide +kernel
set_option maxRecDepth 100000 in
theorem r12_bust (F321 : PM → Int32 → Int32 → Int32 → Int32 → Int32 → Int32 → Int32 → Int32 × PM) (G321 : PM → Int32 → Int32 → Int32 → Int32 → Int32 → Int32 → Int32 → Prop) (o321 : CalOK 2 (CC321 F321 G321)) : ∀ (p : PM) (v1 : Int32), Gr 2 p → bg12_bust F321 G321 p v1 → ZJ 2 336 0 [zR 12 1, zI v1] [] p (hwI (bv12_bust F321 p v1)) := by
  intro p v1  hg H
  exact rwI (n := 3000) (q := 0) (la := [zR 12 1, zI v1]) (sa := []) (ks := []) (gs := []) (fcons o321 (fnil)) tab336 pc336 trivial hg H
theorem t12_bust : ∀ (p : PM) (v1 : Int32), Gr 2 p → g12_bust p v1 → ZJ 2 336 0 [zR 12 1, zI v1] [] p (hwI (v12_bust p v1)) := r12_bust v12_act g12_act ok321
def CC336 (F : PM → Int32 → Int32 × PM) (G : PM → Int32 → Prop) : Cal := (336, [15, 0], 1, false, fun as p => (zI (F p (ai as 1)).1, (F p (ai as 1)).2), fun as p => zsw (tc2 as [(112, 1), (0, 0)]) False (G p (ai as 1)))
set_option maxRecDepth 100000 in
theorem okr336 (F : PM → Int32 → Int32 × PM) (G : PM → Int32 → Prop) (h : ∀ (p : PM) (v1 : Int32), Gr 2 p → G p v1 → ZJ 2 336 0 [zR 12 1, zI v1] [] p (hwI (F p v1))) : CalOK 2 (CC336 F G) := cal_ok (m := 2) (by unfold mL; rw [mX_336]) (fun as p hg H => h p (ai as 1) hg H)
theorem ok336 : CalOK 2 (CC336 v12_bust g12_bust) := okr336 v12_bust g12_bust t12_bust
noncomputable def bv12_adjust (F321 : PM → Int32 → Int32 → Int32 → Int32 → Int32 → Int32 → Int32 → Int32 × PM) (p : PM) (v1 : Int32) (v2 : Int32) : Int32 × PM :=
  let r1 : Int32 × PM := F321 p (cn 15) v1 v2 (cn 0) (cn 0) (cn 0) (cn 0)
  (r1.1, r1.2)
noncomputable def v12_adjust (p : PM) (v1 : Int32) (v2 : Int32) : Int32 × PM := bv12_adjust v12_act p v1 v2
noncomputable def bg12_adjust (F321 : PM → Int32 → Int32 → Int32 → Int32 → Int32 → Int32 → Int32 → Int32 × PM) (G321 : PM → Int32 → Int32 → Int32 → Int32 → Int32 → Int32 → Int32 → Prop) (p : PM) (v1 : Int32) (v2 : Int32) : Prop :=
  (G321 p (cn 15) v1 v2 (cn 0) (cn 0) (cn 0) (cn 0)) ∧ (
  let r1 : Int32 × PM := F321 p (cn 15) v1 v2 (cn 0) (cn 0) (cn 0) (cn 0)
  True)
noncomputable def g12_adjust (p : PM) (v1 : Int32) (v2 : Int32) : Prop := bg12_adjust v12_act g12_act p v1 v2
def R337 : List Row := [(0, .aload_n 0, 1, 0, (0, 0, 0, 0, 0, 0)), (1, .bipush 15, 2, 0, (0, 0, 0, 0, 0, 15)), (3, .iload_n 1, 1, 0, (0, 0, 0, 0, 0, 0)), (4, .iload_n 2, 1, 0, (0, 0, 0, 0, 0, 0)), (5, .iconst 0, 1, 0, (0, 0, 0, 0, 0, 0)), (6, .iconst 0, 1, 0, (0, 0, 0, 0, 0, 0)), (7, .iconst 0, 1, 0, (0, 0, 0, 0, 0, 0)), (8, .iconst 0, 1, 0, (0, 0, 0, 0, 0, 0)), (9, .invokevirtual 594, 3, 0, (0, 8, 0, 0, 1, 0)), (12, .ireturn, 1, 0, (0, 0, 0, 0, 0, 0))]
set_option maxRecDepth 100000 in
theorem rk337 : R337.all (rok 2 337 1 [(321, [15, 0, 0, 0, 0, 0, 0, 0])]) = true := by decide +kernel
set_option maxRecDepth 100000 in
theorem tab337 {F321 : PM → Int32 → Int32 → Int32 → Int32 → Int32 → Int32 → Int32 → Int32 × PM} {G321 : PM → Int32 → Int32 → Int32 → Int32 → Int32 → Int32 → Int32 → Prop} : TabOK 2 337 1 [CC321 F321 G321] R337 := tab_ok (K := K337) rfl rfl (fun h => d337 h) rk337 (by decide +kernel)
set_option maxRecDepth 100000 in
theorem pc337 : cutpc [] R337 = true := by decide +kernel
set_option maxRecDepth 100000 in
theorem r12_adjust (F321 : PM → Int32 → Int32 → Int32 → Int32 → Int32 → Int32 → Int32 → Int32 × PM) (G321 : PM → Int32 → Int32 → Int32 → Int32 → Int32 → Int32 → Int32 → Prop) (o321 : CalOK 2 (CC321 F321 G321)) : ∀ (p : PM) (v1 : Int32) (v2 : Int32), Gr 2 p → bg12_adjust F321 G321 p v1 v2 → ZJ 2 337 0 [zR 12 1, zI v1, zI v2] [] p (hwI (bv12_adjust F321 p v1 v2)) := by
  intro p v1 v2  hg H
  exact rwI (n := 3000) (q := 0) (la := [zR 12 1, zI v1, zI v2]) (sa := []) (ks := []) (gs := []) (fcons o321 (fnil)) tab337 pc337 trivial hg H
theorem t12_adjust : ∀ (p : PM) (v1 : Int32) (v2 : Int32), Gr 2 p → g12_adjust p v1 v2 → ZJ 2 337 0 [zR 12 1, zI v1, zI v2] [] p (hwI (v12_adjust p v1 v2)) := r12_adjust v12_act g12_act ok321
def CC337 (F : PM → Int32 → Int32 → Int32 × PM) (G : PM → Int32 → Int32 → Prop) : Cal := (337, [15, 0, 0], 1, false, fun as p => (zI (F p (ai as 1) (ai as 2)).1, (F p (ai as 1) (ai as 2)).2), fun as p => zsw (tc2 as [(112, 1), (0, 0), (0, 0)]) False (G p (ai as 1) (ai as 2)))
set_option maxRecDepth 100000 in
theorem okr337 (F : PM → Int32 → Int32 → Int32 × PM) (G : PM → Int32 → Int32 → Prop) (h : ∀ (p : PM) (v1 : Int32) (v2 : Int32), Gr 2 p → G p v1 v2 → ZJ 2 337 0 [zR 12 1, zI v1, zI v2] [] p (hwI (F p v1 v2))) : CalOK 2 (CC337 F G) := cal_ok (m := 3) (by unfold mL; rw [mX_337]) (fun as p hg H => h p (ai as 1) (ai as 2) hg H)
theorem ok337 : CalOK 2 (CC337 v12_adjust g12_adjust) := okr337 v12_adjust g12_adjust t12_adjust
noncomputable def bv12_giveUp (F321 : PM → Int32 → Int32 → Int32 → Int32 → Int32 → Int32 → Int32 → Int32 × PM) (p : PM) (v1 : Int32) (v2 : Int32) (v3 : Int32) : Int32 × PM :=
  if v2 = 0 then (
    let r1 : Int32 × PM := F321 p (cn 16) v1 (cn 0) v3 (cn 0) (cn 0) (cn 0)
    (r1.1, r1.2))
  else (
    let r2 : Int32 × PM := F321 p (cn 16) v1 (cn 1) v3 (cn 0) (cn 0) (cn 0)
    (r2.1, r2.2))
noncomputable def v12_giveUp (p : PM) (v1 : Int32) (v2 : Int32) (v3 : Int32) : Int32 × PM := bv12_giveUp v12_act p v1 v2 v3
noncomputable def bg12_giveUp (F321 : PM → Int32 → Int32 → Int32 → Int32 → Int32 → Int32 → Int32 → Int32 × PM) (G321 : PM → Int32 → Int32 → Int32 → Int32 → Int32 → Int32 → Int32 → Prop) (p : PM) (v1 : Int32) (v2 : Int32) (v3 : Int32) : Prop :=
  if v2 = 0 then (
    (G321 p (cn 16) v1 (cn 0) v3 (cn 0) (cn 0) (cn 0)) ∧ (
    let r1 : Int32 × PM := F321 p (cn 16) v1 (cn 0) v3 (cn 0) (cn 0) (cn 0)
    True))
  else (
    (G321 p (cn 16) v1 (cn 1) v3 (cn 0) (cn 0) (cn 0)) ∧ (
    let r2 : Int32 × PM := F321 p (cn 16) v1 (cn 1) v3 (cn 0) (cn 0) (cn 0)
    True))
noncomputable def g12_giveUp (p : PM) (v1 : Int32) (v2 : Int32) (v3 : Int32) : Prop := bg12_giveUp v12_act g12_act p v1 v2 v3
def R338 : List Row := [(0, .aload_n 0, 1, 0, (0, 0, 0, 0, 0, 0)), (1, .bipush 16, 2, 0, (0, 0, 0, 0, 0, 16)), (3, .iload_n 1, 1, 0, (0, 0, 0, 0, 0, 0)), (4, .iload_n 2, 1, 0, (0, 0, 0, 0, 0, 0)), (5, .ifCond .eq 7, 3, 0, (0, 0, 0, 0, 0, 0)), (8, .iconst 1, 1, 0, (0, 0, 0, 0, 0, 1)), (9, .goto 4, 3, 0, (0, 0, 0, 0, 0, 0)), (12, .iconst 0, 1, 0, (0, 0, 0, 0, 0, 0)), (13, .iload_n 3, 1, 0, (0, 0, 0, 0, 0, 0)), (14, .iconst 0, 1, 0, (0, 0, 0, 0, 0, 0)), (15, .iconst 0, 1, 0, (0, 0, 0, 0, 0, 0)), (16, .iconst 0, 1, 0, (0, 0, 0, 0, 0, 0)), (17, .invokevirtual 594, 3, 0, (0, 8, 0, 0, 1, 0)), (20, .ireturn, 1, 0, (0, 0, 0, 0, 0, 0))]
set_option maxRecDepth 100000 in
theorem rk338 : R338.all (rok 2 338 1 [(321, [15, 0, 0, 0, 0, 0, 0, 0])]) = true := by decide +kernel
set_option maxRecDepth 100000 in
theorem tab338 {F321 : PM → Int32 → Int32 → Int32 → Int32 → Int32 → Int32 → Int32 → Int32 × PM} {G321 : PM → Int32 → Int32 → Int32 → Int32 → Int32 → Int32 → Int32 → Prop} : TabOK 2 338 1 [CC321 F321 G321] R338 := tab_ok (K := K338) rfl rfl (fun h => d338 h) rk338 (by decide +kernel)
set_option maxRecDepth 100000 in
theorem pc338 : cutpc [] R338 = true := by decide +kernel
set_option maxRecDepth 100000 in
theorem r12_giveUp (F321 : PM → Int32 → Int32 → Int32 → Int32 → Int32 → Int32 → Int32 → Int32 × PM) (G321 : PM → Int32 → Int32 → Int32 → Int32 → Int32 → Int32 → Int32 → Prop) (o321 : CalOK 2 (CC321 F321 G321)) : ∀ (p : PM) (v1 : Int32) (v2 : Int32) (v3 : Int32), Gr 2 p → bg12_giveUp F321 G321 p v1 v2 v3 → ZJ 2 338 0 [zR 12 1, zI v1, zI v2, zI v3] [] p (hwI (bv12_giveUp F321 p v1 v2 v3)) := by
  intro p v1 v2 v3  hg H
  exact rwI (n := 3000) (q := 0) (la := [zR 12 1, zI v1, zI v2, zI v3]) (sa := []) (ks := []) (gs := []) (fcons o321 (fnil)) tab338 pc338 trivial hg H
theorem t12_giveUp : ∀ (p : PM) (v1 : Int32) (v2 : Int32) (v3 : Int32), Gr 2 p → g12_giveUp p v1 v2 v3 → ZJ 2 338 0 [zR 12 1, zI v1, zI v2, zI v3] [] p (hwI (v12_giveUp p v1 v2 v3)) := r12_giveUp v12_act g12_act ok321
def CC338 (F : PM → Int32 → Int32 → Int32 → Int32 × PM) (G : PM → Int32 → Int32 → Int32 → Prop) : Cal := (338, [15, 0, 0, 0], 1, false, fun as p => (zI (F p (ai as 1) (ai as 2) (ai as 3)).1, (F p (ai as 1) (ai as 2) (ai as 3)).2), fun as p => zsw (tc2 as [(112, 1), (0, 0), (0, 0), (0, 0)]) False (G p (ai as 1) (ai as 2) (ai as 3)))
set_option maxRecDepth 100000 in
theorem okr338 (F : PM → Int32 → Int32 → Int32 → Int32 × PM) (G : PM → Int32 → Int32 → Int32 → Prop) (h : ∀ (p : PM) (v1 : Int32) (v2 : Int32) (v3 : Int32), Gr 2 p → G p v1 v2 v3 → ZJ 2 338 0 [zR 12 1, zI v1, zI v2, zI v3] [] p (hwI (F p v1 v2 v3))) : CalOK 2 (CC338 F G) := cal_ok (m := 4) (by unfold mL; rw [mX_338]) (fun as p hg H => h p (ai as 1) (ai as 2) (ai as 3) hg H)
theorem ok338 : CalOK 2 (CC338 v12_giveUp g12_giveUp) := okr338 v12_giveUp g12_giveUp t12_giveUp
noncomputable def bv12_allot (F321 : PM → Int32 → Int32 → Int32 → Int32 → Int32 → Int32 → Int32 → Int32 × PM) (p : PM) (v1 : Int32) (v2 : Int32) (v3 : Int32) (v4 : Int32) : Int32 × PM :=
  let r1 : Int32 × PM := F321 p (cn 17) v1 v2 v3 v4 (cn 0) (cn 0)
  (r1.1, r1.2)
noncomputable def v12_allot (p : PM) (v1 : Int32) (v2 : Int32) (v3 : Int32) (v4 : Int32) : Int32 × PM := bv12_allot v12_act p v1 v2 v3 v4
noncomputable def bg12_allot (F321 : PM → Int32 → Int32 → Int32 → Int32 → Int32 → Int32 → Int32 → Int32 × PM) (G321 : PM → Int32 → Int32 → Int32 → Int32 → Int32 → Int32 → Int32 → Prop) (p : PM) (v1 : Int32) (v2 : Int32) (v3 : Int32) (v4 : Int32) : Prop :=
  (G321 p (cn 17) v1 v2 v3 v4 (cn 0) (cn 0)) ∧ (
  let r1 : Int32 × PM := F321 p (cn 17) v1 v2 v3 v4 (cn 0) (cn 0)
  True)
noncomputable def g12_allot (p : PM) (v1 : Int32) (v2 : Int32) (v3 : Int32) (v4 : Int32) : Prop := bg12_allot v12_act g12_act p v1 v2 v3 v4
def R339 : List Row := [(0, .aload_n 0, 1, 0, (0, 0, 0, 0, 0, 0)), (1, .bipush 17, 2, 0, (0, 0, 0, 0, 0, 17)), (3, .iload_n 1, 1, 0, (0, 0, 0, 0, 0, 0)), (4, .iload_n 2, 1, 0, (0, 0, 0, 0, 0, 0)), (5, .iload_n 3, 1, 0, (0, 0, 0, 0, 0, 0)), (6, .iload 4, 2, 0, (0, 0, 0, 0, 0, 0)), (8, .iconst 0, 1, 0, (0, 0, 0, 0, 0, 0)), (9, .iconst 0, 1, 0, (0, 0, 0, 0, 0, 0)), (10, .invokevirtual 594, 3, 0, (0, 8, 0, 0, 1, 0)), (13, .ireturn, 1, 0, (0, 0, 0, 0, 0, 0))]
set_option maxRecDepth 100000 in
theorem rk339 : R339.all (rok 2 339 1 [(321, [15, 0, 0, 0, 0, 0, 0, 0])]) = true := by decide +kernel
set_option maxRecDepth 100000 in
theorem tab339 {F321 : PM → Int32 → Int32 → Int32 → Int32 → Int32 → Int32 → Int32 → Int32 × PM} {G321 : PM → Int32 → Int32 → Int32 → Int32 → Int32 → Int32 → Int32 → Prop} : TabOK 2 339 1 [CC321 F321 G321] R339 := tab_ok (K := K339) rfl rfl (fun h => d339 h) rk339 (by decide +kernel)
set_option maxRecDepth 100000 in
theorem pc339 : cutpc [] R339 = true := by decide +kernel
set_option maxRecDepth 100000 in
theorem r12_allot (F321 : PM → Int32 → Int32 → Int32 → Int32 → Int32 → Int32 → Int32 → Int32 × PM) (G321 : PM → Int32 → Int32 → Int32 → Int32 → Int32 → Int32 → Int32 → Prop) (o321 : CalOK 2 (CC321 F321 G321)) : ∀ (p : PM) (v1 : Int32) (v2 : Int32) (v3 : Int32) (v4 : Int32), Gr 2 p → bg12_allot F321 G321 p v1 v2 v3 v4 → ZJ 2 339 0 [zR 12 1, zI v1, zI v2, zI v3, zI v4] [] p (hwI (bv12_allot F321 p v1 v2 v3 v4)) := by
  intro p v1 v2 v3 v4  hg H
  exact rwI (n := 3000) (q := 0) (la := [zR 12 1, zI v1, zI v2, zI v3, zI v4]) (sa := []) (ks := []) (gs := []) (fcons o321 (fnil)) tab339 pc339 trivial hg H
theorem t12_allot : ∀ (p : PM) (v1 : Int32) (v2 : Int32) (v3 : Int32) (v4 : Int32), Gr 2 p → g12_allot p v1 v2 v3 v4 → ZJ 2 339 0 [zR 12 1, zI v1, zI v2, zI v3, zI v4] [] p (hwI (v12_allot p v1 v2 v3 v4)) := r12_allot v12_act g12_act ok321
def CC339 (F : PM → Int32 → Int32 → Int32 → Int32 → Int32 × PM) (G : PM → Int32 → Int32 → Int32 → Int32 → Prop) : Cal := (339, [15, 0, 0, 0, 0], 1, false, fun as p => (zI (F p (ai as 1) (ai as 2) (ai as 3) (ai as 4)).1, (F p (ai as 1) (ai as 2) (ai as 3) (ai as 4)).2), fun as p => zsw (tc2 as [(112, 1), (0, 0), (0, 0), (0, 0), (0, 0)]) False (G p (ai as 1) (ai as 2) (ai as 3) (ai as 4)))
set_option maxRecDepth 100000 in
theorem okr339 (F : PM → Int32 → Int32 → Int32 → Int32 → Int32 × PM) (G : PM → Int32 → Int32 → Int32 → Int32 → Prop) (h : ∀ (p : PM) (v1 : Int32) (v2 : Int32) (v3 : Int32) (v4 : Int32), Gr 2 p → G p v1 v2 v3 v4 → ZJ 2 339 0 [zR 12 1, zI v1, zI v2, zI v3, zI v4] [] p (hwI (F p v1 v2 v3 v4))) : CalOK 2 (CC339 F G) := cal_ok (m := 5) (by unfold mL; rw [mX_339]) (fun as p hg H => h p (ai as 1) (ai as 2) (ai as 3) (ai as 4) hg H)
theorem ok339 : CalOK 2 (CC339 v12_allot g12_allot) := okr339 v12_allot g12_allot t12_allot
noncomputable def bv12_exercise (F321 : PM → Int32 → Int32 → Int32 → Int32 → Int32 → Int32 → Int32 → Int32 × PM) (p : PM) (v1 : Int32) (v2 : Int32) (v3 : Int32) : Int32 × PM :=
  let r1 : Int32 × PM := F321 p (cn 18) v1 v2 v3 (cn 0) (cn 0) (cn 0)
  (r1.1, r1.2)
noncomputable def v12_exercise (p : PM) (v1 : Int32) (v2 : Int32) (v3 : Int32) : Int32 × PM := bv12_exercise v12_act p v1 v2 v3
noncomputable def bg12_exercise (F321 : PM → Int32 → Int32 → Int32 → Int32 → Int32 → Int32 → Int32 → Int32 × PM) (G321 : PM → Int32 → Int32 → Int32 → Int32 → Int32 → Int32 → Int32 → Prop) (p : PM) (v1 : Int32) (v2 : Int32) (v3 : Int32) : Prop :=
  (G321 p (cn 18) v1 v2 v3 (cn 0) (cn 0) (cn 0)) ∧ (
  let r1 : Int32 × PM := F321 p (cn 18) v1 v2 v3 (cn 0) (cn 0) (cn 0)
  True)
noncomputable def g12_exercise (p : PM) (v1 : Int32) (v2 : Int32) (v3 : Int32) : Prop := bg12_exercise v12_act g12_act p v1 v2 v3
def R340 : List Row := [(0, .aload_n 0, 1, 0, (0, 0, 0, 0, 0, 0)), (1, .bipush 18, 2, 0, (0, 0, 0, 0, 0, 18)), (3, .iload_n 1, 1, 0, (0, 0, 0, 0, 0, 0)), (4, .iload_n 2, 1, 0, (0, 0, 0, 0, 0, 0)), (5, .iload_n 3, 1, 0, (0, 0, 0, 0, 0, 0)), (6, .iconst 0, 1, 0, (0, 0, 0, 0, 0, 0)), (7, .iconst 0, 1, 0, (0, 0, 0, 0, 0, 0)), (8, .iconst 0, 1, 0, (0, 0, 0, 0, 0, 0)), (9, .invokevirtual 594, 3, 0, (0, 8, 0, 0, 1, 0)), (12, .ireturn, 1, 0, (0, 0, 0, 0, 0, 0))]
set_option maxRecDepth 100000 in
theorem rk340 : R340.all (rok 2 340 1 [(321, [15, 0, 0, 0, 0, 0, 0, 0])]) = true := by decide +kernel
set_option maxRecDepth 100000 in
theorem tab340 {F321 : PM → Int32 → Int32 → Int32 → Int32 → Int32 → Int32 → Int32 → Int32 × PM} {G321 : PM → Int32 → Int32 → Int32 → Int32 → Int32 → Int32 → Int32 → Prop} : TabOK 2 340 1 [CC321 F321 G321] R340 := tab_ok (K := K340) rfl rfl (fun h => d340 h) rk340 (by decide +kernel)
set_option maxRecDepth 100000 in
theorem pc340 : cutpc [] R340 = true := by decide +kernel
set_option maxRecDepth 100000 in
theorem r12_exercise (F321 : PM → Int32 → Int32 → Int32 → Int32 → Int32 → Int32 → Int32 → Int32 × PM) (G321 : PM → Int32 → Int32 → Int32 → Int32 → Int32 → Int32 → Int32 → Prop) (o321 : CalOK 2 (CC321 F321 G321)) : ∀ (p : PM) (v1 : Int32) (v2 : Int32) (v3 : Int32), Gr 2 p → bg12_exercise F321 G321 p v1 v2 v3 → ZJ 2 340 0 [zR 12 1, zI v1, zI v2, zI v3] [] p (hwI (bv12_exercise F321 p v1 v2 v3)) := by
  intro p v1 v2 v3  hg H
  exact rwI (n := 3000) (q := 0) (la := [zR 12 1, zI v1, zI v2, zI v3]) (sa := []) (ks := []) (gs := []) (fcons o321 (fnil)) tab340 pc340 trivial hg H
theorem t12_exercise : ∀ (p : PM) (v1 : Int32) (v2 : Int32) (v3 : Int32), Gr 2 p → g12_exercise p v1 v2 v3 → ZJ 2 340 0 [zR 12 1, zI v1, zI v2, zI v3] [] p (hwI (v12_exercise p v1 v2 v3)) := r12_exercise v12_act g12_act ok321
def CC340 (F : PM → Int32 → Int32 → Int32 → Int32 × PM) (G : PM → Int32 → Int32 → Int32 → Prop) : Cal := (340, [15, 0, 0, 0], 1, false, fun as p => (zI (F p (ai as 1) (ai as 2) (ai as 3)).1, (F p (ai as 1) (ai as 2) (ai as 3)).2), fun as p => zsw (tc2 as [(112, 1), (0, 0), (0, 0), (0, 0)]) False (G p (ai as 1) (ai as 2) (ai as 3)))
set_option maxRecDepth 100000 in
theorem okr340 (F : PM → Int32 → Int32 → Int32 → Int32 × PM) (G : PM → Int32 → Int32 → Int32 → Prop) (h : ∀ (p : PM) (v1 : Int32) (v2 : Int32) (v3 : Int32), Gr 2 p → G p v1 v2 v3 → ZJ 2 340 0 [zR 12 1, zI v1, zI v2, zI v3] [] p (hwI (F p v1 v2 v3))) : CalOK 2 (CC340 F G) := cal_ok (m := 4) (by unfold mL; rw [mX_340]) (fun as p hg H => h p (ai as 1) (ai as 2) (ai as 3) hg H)
theorem ok340 : CalOK 2 (CC340 v12_exercise g12_exercise) := okr340 v12_exercise g12_exercise t12_exercise
noncomputable def bv12_convert (F321 : PM → Int32 → Int32 → Int32 → Int32 → Int32 → Int32 → Int32 → Int32 × PM) (p : PM) (v1 : Int32) (v2 : Int32) (v3 : Int32) : Int32 × PM :=
  let r1 : Int32 × PM := F321 p (cn 19) v1 v2 v3 (cn 0) (cn 0) (cn 0)
  (r1.1, r1.2)
noncomputable def v12_convert (p : PM) (v1 : Int32) (v2 : Int32) (v3 : Int32) : Int32 × PM := bv12_convert v12_act p v1 v2 v3
noncomputable def bg12_convert (F321 : PM → Int32 → Int32 → Int32 → Int32 → Int32 → Int32 → Int32 → Int32 × PM) (G321 : PM → Int32 → Int32 → Int32 → Int32 → Int32 → Int32 → Int32 → Prop) (p : PM) (v1 : Int32) (v2 : Int32) (v3 : Int32) : Prop :=
  (G321 p (cn 19) v1 v2 v3 (cn 0) (cn 0) (cn 0)) ∧ (
  let r1 : Int32 × PM := F321 p (cn 19) v1 v2 v3 (cn 0) (cn 0) (cn 0)
  True)
noncomputable def g12_convert (p : PM) (v1 : Int32) (v2 : Int32) (v3 : Int32) : Prop := bg12_convert v12_act g12_act p v1 v2 v3
def R341 : List Row := [(0, .aload_n 0, 1, 0, (0, 0, 0, 0, 0, 0)), (1, .bipush 19, 2, 0, (0, 0, 0, 0, 0, 19)), (3, .iload_n 1, 1, 0, (0, 0, 0, 0, 0, 0)), (4, .iload_n 2, 1, 0, (0, 0, 0, 0, 0, 0)), (5, .iload_n 3, 1, 0, (0, 0, 0, 0, 0, 0)), (6, .iconst 0, 1, 0, (0, 0, 0, 0, 0, 0)), (7, .iconst 0, 1, 0, (0, 0, 0, 0, 0, 0)), (8, .iconst 0, 1, 0, (0, 0, 0, 0, 0, 0)), (9, .invokevirtual 594, 3, 0, (0, 8, 0, 0, 1, 0)), (12, .ireturn, 1, 0, (0, 0, 0, 0, 0, 0))]
set_option maxRecDepth 100000 in
theorem rk341 : R341.all (rok 2 341 1 [(321, [15, 0, 0, 0, 0, 0, 0, 0])]) = true := by decide +kernel
set_option maxRecDepth 100000 in
theorem tab341 {F321 : PM → Int32 → Int32 → Int32 → Int32 → Int32 → Int32 → Int32 → Int32 × PM} {G321 : PM → Int32 → Int32 → Int32 → Int32 → Int32 → Int32 → Int32 → Prop} : TabOK 2 341 1 [CC321 F321 G321] R341 := tab_ok (K := K341) rfl rfl (fun h => d341 h) rk341 (by decide +kernel)
set_option maxRecDepth 100000 in
theorem pc341 : cutpc [] R341 = true := by decide +kernel
set_option maxRecDepth 100000 in
theorem r12_convert (F321 : PM → Int32 → Int32 → Int32 → Int32 → Int32 → Int32 → Int32 → Int32 × PM) (G321 : PM → Int32 → Int32 → Int32 → Int32 → Int32 → Int32 → Int32 → Prop) (o321 : CalOK 2 (CC321 F321 G321)) : ∀ (p : PM) (v1 : Int32) (v2 : Int32) (v3 : Int32), Gr 2 p → bg12_convert F321 G321 p v1 v2 v3 → ZJ 2 341 0 [zR 12 1, zI v1, zI v2, zI v3] [] p (hwI (bv12_convert F321 p v1 v2 v3)) := by
  intro p v1 v2 v3  hg H
  exact rwI (n := 3000) (q := 0) (la := [zR 12 1, zI v1, zI v2, zI v3]) (sa := []) (ks := []) (gs := []) (fcons o321 (fnil)) tab341 pc341 trivial hg H
theorem t12_convert : ∀ (p : PM) (v1 : Int32) (v2 : Int32) (v3 : Int32), Gr 2 p → g12_convert p v1 v2 v3 → ZJ 2 341 0 [zR 12 1, zI v1, zI v2, zI v3] [] p (hwI (v12_convert p v1 v2 v3)) := r12_convert v12_act g12_act ok321
def CC341 (F : PM → Int32 → Int32 → Int32 → Int32 × PM) (G : PM → Int32 → Int32 → Int32 → Prop) : Cal := (341, [15, 0, 0, 0], 1, false, fun as p => (zI (F p (ai as 1) (ai as 2) (ai as 3)).1, (F p (ai as 1) (ai as 2) (ai as 3)).2), fun as p => zsw (tc2 as [(112, 1), (0, 0), (0, 0), (0, 0)]) False (G p (ai as 1) (ai as 2) (ai as 3)))
set_option maxRecDepth 100000 in
theorem okr341 (F : PM → Int32 → Int32 → Int32 → Int32 × PM) (G : PM → Int32 → Int32 → Int32 → Prop) (h : ∀ (p : PM) (v1 : Int32) (v2 : Int32) (v3 : Int32), Gr 2 p → G p v1 v2 v3 → ZJ 2 341 0 [zR 12 1, zI v1, zI v2, zI v3] [] p (hwI (F p v1 v2 v3))) : CalOK 2 (CC341 F G) := cal_ok (m := 4) (by unfold mL; rw [mX_341]) (fun as p hg H => h p (ai as 1) (ai as 2) (ai as 3) hg H)
theorem ok341 : CalOK 2 (CC341 v12_convert g12_convert) := okr341 v12_convert g12_convert t12_convert
noncomputable def bv12_setMove (F321 : PM → Int32 → Int32 → Int32 → Int32 → Int32 → Int32 → Int32 → Int32 × PM) (p : PM) (v1 : Int32) (v2 : Int32) (v3 : Int32) : Int32 × PM :=
  let r1 : Int32 × PM := F321 p (cn 20) v1 v2 v3 (cn 0) (cn 0) (cn 0)
  (r1.1, r1.2)
noncomputable def v12_setMove (p : PM) (v1 : Int32) (v2 : Int32) (v3 : Int32) : Int32 × PM := bv12_setMove v12_act p v1 v2 v3
noncomputable def bg12_setMove (F321 : PM → Int32 → Int32 → Int32 → Int32 → Int32 → Int32 → Int32 → Int32 × PM) (G321 : PM → Int32 → Int32 → Int32 → Int32 → Int32 → Int32 → Int32 → Prop) (p : PM) (v1 : Int32) (v2 : Int32) (v3 : Int32) : Prop :=
  (G321 p (cn 20) v1 v2 v3 (cn 0) (cn 0) (cn 0)) ∧ (
  let r1 : Int32 × PM := F321 p (cn 20) v1 v2 v3 (cn 0) (cn 0) (cn 0)
  True)
noncomputable def g12_setMove (p : PM) (v1 : Int32) (v2 : Int32) (v3 : Int32) : Prop := bg12_setMove v12_act g12_act p v1 v2 v3
def R342 : List Row := [(0, .aload_n 0, 1, 0, (0, 0, 0, 0, 0, 0)), (1, .bipush 20, 2, 0, (0, 0, 0, 0, 0, 20)), (3, .iload_n 1, 1, 0, (0, 0, 0, 0, 0, 0)), (4, .iload_n 2, 1, 0, (0, 0, 0, 0, 0, 0)), (5, .iload_n 3, 1, 0, (0, 0, 0, 0, 0, 0)), (6, .iconst 0, 1, 0, (0, 0, 0, 0, 0, 0)), (7, .iconst 0, 1, 0, (0, 0, 0, 0, 0, 0)), (8, .iconst 0, 1, 0, (0, 0, 0, 0, 0, 0)), (9, .invokevirtual 594, 3, 0, (0, 8, 0, 0, 1, 0)), (12, .ireturn, 1, 0, (0, 0, 0, 0, 0, 0))]
set_option maxRecDepth 100000 in
theorem rk342 : R342.all (rok 2 342 1 [(321, [15, 0, 0, 0, 0, 0, 0, 0])]) = true := by decide +kernel
set_option maxRecDepth 100000 in
theorem tab342 {F321 : PM → Int32 → Int32 → Int32 → Int32 → Int32 → Int32 → Int32 → Int32 × PM} {G321 : PM → Int32 → Int32 → Int32 → Int32 → Int32 → Int32 → Int32 → Prop} : TabOK 2 342 1 [CC321 F321 G321] R342 := tab_ok (K := K342) rfl rfl (fun h => d342 h) rk342 (by decide +kernel)
set_option maxRecDepth 100000 in
theorem pc342 : cutpc [] R342 = true := by decide +kernel
set_option maxRecDepth 100000 in
theorem r12_setMove (F321 : PM → Int32 → Int32 → Int32 → Int32 → Int32 → Int32 → Int32 → Int32 × PM) (G321 : PM → Int32 → Int32 → Int32 → Int32 → Int32 → Int32 → Int32 → Prop) (o321 : CalOK 2 (CC321 F321 G321)) : ∀ (p : PM) (v1 : Int32) (v2 : Int32) (v3 : Int32), Gr 2 p → bg12_setMove F321 G321 p v1 v2 v3 → ZJ 2 342 0 [zR 12 1, zI v1, zI v2, zI v3] [] p (hwI (bv12_setMove F321 p v1 v2 v3)) := by
  intro p v1 v2 v3  hg H
  exact rwI (n := 3000) (q := 0) (la := [zR 12 1, zI v1, zI v2, zI v3]) (sa := []) (ks := []) (gs := []) (fcons o321 (fnil)) tab342 pc342 trivial hg H
theorem t12_setMove : ∀ (p : PM) (v1 : Int32) (v2 : Int32) (v3 : Int32), Gr 2 p → g12_setMove p v1 v2 v3 → ZJ 2 342 0 [zR 12 1, zI v1, zI v2, zI v3] [] p (hwI (v12_setMove p v1 v2 v3)) := r12_setMove v12_act g12_act ok321
def CC342 (F : PM → Int32 → Int32 → Int32 → Int32 × PM) (G : PM → Int32 → Int32 → Int32 → Prop) : Cal := (342, [15, 0, 0, 0], 1, false, fun as p => (zI (F p (ai as 1) (ai as 2) (ai as 3)).1, (F p (ai as 1) (ai as 2) (ai as 3)).2), fun as p => zsw (tc2 as [(112, 1), (0, 0), (0, 0), (0, 0)]) False (G p (ai as 1) (ai as 2) (ai as 3)))
set_option maxRecDepth 100000 in
theorem okr342 (F : PM → Int32 → Int32 → Int32 → Int32 × PM) (G : PM → Int32 → Int32 → Int32 → Prop) (h : ∀ (p : PM) (v1 : Int32) (v2 : Int32) (v3 : Int32), Gr 2 p → G p v1 v2 v3 → ZJ 2 342 0 [zR 12 1, zI v1, zI v2, zI v3] [] p (hwI (F p v1 v2 v3))) : CalOK 2 (CC342 F G) := cal_ok (m := 4) (by unfold mL; rw [mX_342]) (fun as p hg H => h p (ai as 1) (ai as 2) (ai as 3) hg H)
theorem ok342 : CalOK 2 (CC342 v12_setMove g12_setMove) := okr342 v12_setMove g12_setMove t12_setMove
noncomputable def bv12_setHaircut (F321 : PM → Int32 → Int32 → Int32 → Int32 → Int32 → Int32 → Int32 → Int32 × PM) (p : PM) (v1 : Int32) : Int32 × PM :=
  let r1 : Int32 × PM := F321 p (cn 21) v1 (cn 0) (cn 0) (cn 0) (cn 0) (cn 0)
  (r1.1, r1.2)
noncomputable def v12_setHaircut (p : PM) (v1 : Int32) : Int32 × PM := bv12_setHaircut v12_act p v1
noncomputable def bg12_setHaircut (F321 : PM → Int32 → Int32 → Int32 → Int32 → Int32 → Int32 → Int32 → Int32 × PM) (G321 : PM → Int32 → Int32 → Int32 → Int32 → Int32 → Int32 → Int32 → Prop) (p : PM) (v1 : Int32) : Prop :=
  (G321 p (cn 21) v1 (cn 0) (cn 0) (cn 0) (cn 0) (cn 0)) ∧ (
  let r1 : Int32 × PM := F321 p (cn 21) v1 (cn 0) (cn 0) (cn 0) (cn 0) (cn 0)
  True)
noncomputable def g12_setHaircut (p : PM) (v1 : Int32) : Prop := bg12_setHaircut v12_act g12_act p v1
def R343 : List Row := [(0, .aload_n 0, 1, 0, (0, 0, 0, 0, 0, 0)), (1, .bipush 21, 2, 0, (0, 0, 0, 0, 0, 21)), (3, .iload_n 1, 1, 0, (0, 0, 0, 0, 0, 0)), (4, .iconst 0, 1, 0, (0, 0, 0, 0, 0, 0)), (5, .iconst 0, 1, 0, (0, 0, 0, 0, 0, 0)), (6, .iconst 0, 1, 0, (0, 0, 0, 0, 0, 0)), (7, .iconst 0, 1, 0, (0, 0, 0, 0, 0, 0)), (8, .iconst 0, 1, 0, (0, 0, 0, 0, 0, 0)), (9, .invokevirtual 594, 3, 0, (0, 8, 0, 0, 1, 0)), (12, .ireturn, 1, 0, (0, 0, 0, 0, 0, 0))]
set_option maxRecDepth 100000 in
theorem rk343 : R343.all (rok 2 343 1 [(321, [15, 0, 0, 0, 0, 0, 0, 0])]) = true := by decide +kernel
set_option maxRecDepth 100000 in
theorem tab343 {F321 : PM → Int32 → Int32 → Int32 → Int32 → Int32 → Int32 → Int32 → Int32 × PM} {G321 : PM → Int32 → Int32 → Int32 → Int32 → Int32 → Int32 → Int32 → Prop} : TabOK 2 343 1 [CC321 F321 G321] R343 := tab_ok (K := K343) rfl rfl (fun h => d343 h) rk343 (by decide +kernel)
set_option maxRecDepth 100000 in
theorem pc343 : cutpc [] R343 = true := by decide +kernel
set_option maxRecDepth 100000 in
theorem r12_setHaircut (F321 : PM → Int32 → Int32 → Int32 → Int32 → Int32 → Int32 → Int32 → Int32 × PM) (G321 : PM → Int32 → Int32 → Int32 → Int32 → Int32 → Int32 → Int32 → Prop) (o321 : CalOK 2 (CC321 F321 G321)) : ∀ (p : PM) (v1 : Int32), Gr 2 p → bg12_setHaircut F321 G321 p v1 → ZJ 2 343 0 [zR 12 1, zI v1] [] p (hwI (bv12_setHaircut F321 p v1)) := by
  intro p v1  hg H
  exact rwI (n := 3000) (q := 0) (la := [zR 12 1, zI v1]) (sa := []) (ks := []) (gs := []) (fcons o321 (fnil)) tab343 pc343 trivial hg H
theorem t12_setHaircut : ∀ (p : PM) (v1 : Int32), Gr 2 p → g12_setHaircut p v1 → ZJ 2 343 0 [zR 12 1, zI v1] [] p (hwI (v12_setHaircut p v1)) := r12_setHaircut v12_act g12_act ok321
def CC343 (F : PM → Int32 → Int32 × PM) (G : PM → Int32 → Prop) : Cal := (343, [15, 0], 1, false, fun as p => (zI (F p (ai as 1)).1, (F p (ai as 1)).2), fun as p => zsw (tc2 as [(112, 1), (0, 0)]) False (G p (ai as 1)))
set_option maxRecDepth 100000 in
theorem okr343 (F : PM → Int32 → Int32 × PM) (G : PM → Int32 → Prop) (h : ∀ (p : PM) (v1 : Int32), Gr 2 p → G p v1 → ZJ 2 343 0 [zR 12 1, zI v1] [] p (hwI (F p v1))) : CalOK 2 (CC343 F G) := cal_ok (m := 2) (by unfold mL; rw [mX_343]) (fun as p hg H => h p (ai as 1) hg H)
theorem ok343 : CalOK 2 (CC343 v12_setHaircut g12_setHaircut) := okr343 v12_setHaircut g12_setHaircut t12_setHaircut
noncomputable def bv12_pay (F321 : PM → Int32 → Int32 → Int32 → Int32 → Int32 → Int32 → Int32 → Int32 × PM) (p : PM) (v1 : Int32) (v2 : Int32) (v3 : Int32) : Int32 × PM :=
  let r1 : Int32 × PM := F321 p (cn 22) v1 v2 v3 (cn 0) (cn 0) (cn 0)
  (r1.1, r1.2)
noncomputable def v12_pay (p : PM) (v1 : Int32) (v2 : Int32) (v3 : Int32) : Int32 × PM := bv12_pay v12_act p v1 v2 v3
noncomputable def bg12_pay (F321 : PM → Int32 → Int32 → Int32 → Int32 → Int32 → Int32 → Int32 → Int32 × PM) (G321 : PM → Int32 → Int32 → Int32 → Int32 → Int32 → Int32 → Int32 → Prop) (p : PM) (v1 : Int32) (v2 : Int32) (v3 : Int32) : Prop :=
  (G321 p (cn 22) v1 v2 v3 (cn 0) (cn 0) (cn 0)) ∧ (
  let r1 : Int32 × PM := F321 p (cn 22) v1 v2 v3 (cn 0) (cn 0) (cn 0)
  True)
noncomputable def g12_pay (p : PM) (v1 : Int32) (v2 : Int32) (v3 : Int32) : Prop := bg12_pay v12_act g12_act p v1 v2 v3
def R344 : List Row := [(0, .aload_n 0, 1, 0, (0, 0, 0, 0, 0, 0)), (1, .bipush 22, 2, 0, (0, 0, 0, 0, 0, 22)), (3, .iload_n 1, 1, 0, (0, 0, 0, 0, 0, 0)), (4, .iload_n 2, 1, 0, (0, 0, 0, 0, 0, 0)), (5, .iload_n 3, 1, 0, (0, 0, 0, 0, 0, 0)), (6, .iconst 0, 1, 0, (0, 0, 0, 0, 0, 0)), (7, .iconst 0, 1, 0, (0, 0, 0, 0, 0, 0)), (8, .iconst 0, 1, 0, (0, 0, 0, 0, 0, 0)), (9, .invokevirtual 594, 3, 0, (0, 8, 0, 0, 1, 0)), (12, .ireturn, 1, 0, (0, 0, 0, 0, 0, 0))]
set_option maxRecDepth 100000 in
theorem rk344 : R344.all (rok 2 344 1 [(321, [15, 0, 0, 0, 0, 0, 0, 0])]) = true := by decide +kernel
set_option maxRecDepth 100000 in
theorem tab344 {F321 : PM → Int32 → Int32 → Int32 → Int32 → Int32 → Int32 → Int32 → Int32 × PM} {G321 : PM → Int32 → Int32 → Int32 → Int32 → Int32 → Int32 → Int32 → Prop} : TabOK 2 344 1 [CC321 F321 G321] R344 := tab_ok (K := K344) rfl rfl (fun h => d344 h) rk344 (by decide +kernel)
set_option maxRecDepth 100000 in
theorem pc344 : cutpc [] R344 = true := by decide +kernel
set_option maxRecDepth 100000 in
theorem r12_pay (F321 : PM → Int32 → Int32 → Int32 → Int32 → Int32 → Int32 → Int32 → Int32 × PM) (G321 : PM → Int32 → Int32 → Int32 → Int32 → Int32 → Int32 → Int32 → Prop) (o321 : CalOK 2 (CC321 F321 G321)) : ∀ (p : PM) (v1 : Int32) (v2 : Int32) (v3 : Int32), Gr 2 p → bg12_pay F321 G321 p v1 v2 v3 → ZJ 2 344 0 [zR 12 1, zI v1, zI v2, zI v3] [] p (hwI (bv12_pay F321 p v1 v2 v3)) := by
  intro p v1 v2 v3  hg H
  exact rwI (n := 3000) (q := 0) (la := [zR 12 1, zI v1, zI v2, zI v3]) (sa := []) (ks := []) (gs := []) (fcons o321 (fnil)) tab344 pc344 trivial hg H
theorem t12_pay : ∀ (p : PM) (v1 : Int32) (v2 : Int32) (v3 : Int32), Gr 2 p → g12_pay p v1 v2 v3 → ZJ 2 344 0 [zR 12 1, zI v1, zI v2, zI v3] [] p (hwI (v12_pay p v1 v2 v3)) := r12_pay v12_act g12_act ok321
def CC344 (F : PM → Int32 → Int32 → Int32 → Int32 × PM) (G : PM → Int32 → Int32 → Int32 → Prop) : Cal := (344, [15, 0, 0, 0], 1, false, fun as p => (zI (F p (ai as 1) (ai as 2) (ai as 3)).1, (F p (ai as 1) (ai as 2) (ai as 3)).2), fun as p => zsw (tc2 as [(112, 1), (0, 0), (0, 0), (0, 0)]) False (G p (ai as 1) (ai as 2) (ai as 3)))
set_option maxRecDepth 100000 in
theorem okr344 (F : PM → Int32 → Int32 → Int32 → Int32 × PM) (G : PM → Int32 → Int32 → Int32 → Prop) (h : ∀ (p : PM) (v1 : Int32) (v2 : Int32) (v3 : Int32), Gr 2 p → G p v1 v2 v3 → ZJ 2 344 0 [zR 12 1, zI v1, zI v2, zI v3] [] p (hwI (F p v1 v2 v3))) : CalOK 2 (CC344 F G) := cal_ok (m := 4) (by unfold mL; rw [mX_344]) (fun as p hg H => h p (ai as 1) (ai as 2) (ai as 3) hg H)
theorem ok344 : CalOK 2 (CC344 v12_pay g12_pay) := okr344 v12_pay g12_pay t12_pay
noncomputable def bv12_setFund (F321 : PM → Int32 → Int32 → Int32 → Int32 → Int32 → Int32 → Int32 → Int32 × PM) (p : PM) (v1 : Int32) (v2 : Int32) : Int32 × PM :=
  let r1 : Int32 × PM := F321 p (cn 23) v1 v2 (cn 0) (cn 0) (cn 0) (cn 0)
  (r1.1, r1.2)
noncomputable def v12_setFund (p : PM) (v1 : Int32) (v2 : Int32) : Int32 × PM := bv12_setFund v12_act p v1 v2
noncomputable def bg12_setFund (F321 : PM → Int32 → Int32 → Int32 → Int32 → Int32 → Int32 → Int32 → Int32 × PM) (G321 : PM → Int32 → Int32 → Int32 → Int32 → Int32 → Int32 → Int32 → Prop) (p : PM) (v1 : Int32) (v2 : Int32) : Prop :=
  (G321 p (cn 23) v1 v2 (cn 0) (cn 0) (cn 0) (cn 0)) ∧ (
  let r1 : Int32 × PM := F321 p (cn 23) v1 v2 (cn 0) (cn 0) (cn 0) (cn 0)
  True)
noncomputable def g12_setFund (p : PM) (v1 : Int32) (v2 : Int32) : Prop := bg12_setFund v12_act g12_act p v1 v2
def R345 : List Row := [(0, .aload_n 0, 1, 0, (0, 0, 0, 0, 0, 0)), (1, .bipush 23, 2, 0, (0, 0, 0, 0, 0, 23)), (3, .iload_n 1, 1, 0, (0, 0, 0, 0, 0, 0)), (4, .iload_n 2, 1, 0, (0, 0, 0, 0, 0, 0)), (5, .iconst 0, 1, 0, (0, 0, 0, 0, 0, 0)), (6, .iconst 0, 1, 0, (0, 0, 0, 0, 0, 0)), (7, .iconst 0, 1, 0, (0, 0, 0, 0, 0, 0)), (8, .iconst 0, 1, 0, (0, 0, 0, 0, 0, 0)), (9, .invokevirtual 594, 3, 0, (0, 8, 0, 0, 1, 0)), (12, .ireturn, 1, 0, (0, 0, 0, 0, 0, 0))]
set_option maxRecDepth 100000 in
theorem rk345 : R345.all (rok 2 345 1 [(321, [15, 0, 0, 0, 0, 0, 0, 0])]) = true := by decide +kernel
set_option maxRecDepth 100000 in
theorem tab345 {F321 : PM → Int32 → Int32 → Int32 → Int32 → Int32 → Int32 → Int32 → Int32 × PM} {G321 : PM → Int32 → Int32 → Int32 → Int32 → Int32 → Int32 → Int32 → Prop} : TabOK 2 345 1 [CC321 F321 G321] R345 := tab_ok (K := K345) rfl rfl (fun h => d345 h) rk345 (by decide +kernel)
set_option maxRecDepth 100000 in
theorem pc345 : cutpc [] R345 = true := by decide +kernel
set_option maxRecDepth 100000 in
theorem r12_setFund (F321 : PM → Int32 → Int32 → Int32 → Int32 → Int32 → Int32 → Int32 → Int32 × PM) (G321 : PM → Int32 → Int32 → Int32 → Int32 → Int32 → Int32 → Int32 → Prop) (o321 : CalOK 2 (CC321 F321 G321)) : ∀ (p : PM) (v1 : Int32) (v2 : Int32), Gr 2 p → bg12_setFund F321 G321 p v1 v2 → ZJ 2 345 0 [zR 12 1, zI v1, zI v2] [] p (hwI (bv12_setFund F321 p v1 v2)) := by
  intro p v1 v2  hg H
  exact rwI (n := 3000) (q := 0) (la := [zR 12 1, zI v1, zI v2]) (sa := []) (ks := []) (gs := []) (fcons o321 (fnil)) tab345 pc345 trivial hg H
theorem t12_setFund : ∀ (p : PM) (v1 : Int32) (v2 : Int32), Gr 2 p → g12_setFund p v1 v2 → ZJ 2 345 0 [zR 12 1, zI v1, zI v2] [] p (hwI (v12_setFund p v1 v2)) := r12_setFund v12_act g12_act ok321
def CC345 (F : PM → Int32 → Int32 → Int32 × PM) (G : PM → Int32 → Int32 → Prop) : Cal := (345, [15, 0, 0], 1, false, fun as p => (zI (F p (ai as 1) (ai as 2)).1, (F p (ai as 1) (ai as 2)).2), fun as p => zsw (tc2 as [(112, 1), (0, 0), (0, 0)]) False (G p (ai as 1) (ai as 2)))
set_option maxRecDepth 100000 in
theorem okr345 (F : PM → Int32 → Int32 → Int32 × PM) (G : PM → Int32 → Int32 → Prop) (h : ∀ (p : PM) (v1 : Int32) (v2 : Int32), Gr 2 p → G p v1 v2 → ZJ 2 345 0 [zR 12 1, zI v1, zI v2] [] p (hwI (F p v1 v2))) : CalOK 2 (CC345 F G) := cal_ok (m := 3) (by unfold mL; rw [mX_345]) (fun as p hg H => h p (ai as 1) (ai as 2) hg H)
theorem ok345 : CalOK 2 (CC345 v12_setFund g12_setFund) := okr345 v12_setFund g12_setFund t12_setFund
noncomputable def bv12_fail (F321 : PM → Int32 → Int32 → Int32 → Int32 → Int32 → Int32 → Int32 → Int32 × PM) (p : PM) (v1 : Int32) : Int32 × PM :=
  let r1 : Int32 × PM := F321 p (cn 24) v1 (cn 0) (cn 0) (cn 0) (cn 0) (cn 0)
  (r1.1, r1.2)
noncomputable def v12_fail (p : PM) (v1 : Int32) : Int32 × PM := bv12_fail v12_act p v1
noncomputable def bg12_fail (F321 : PM → Int32 → Int32 → Int32 → Int32 → Int32 → Int32 → Int32 → Int32 × PM) (G321 : PM → Int32 → Int32 → Int32 → Int32 → Int32 → Int32 → Int32 → Prop) (p : PM) (v1 : Int32) : Prop :=
  (G321 p (cn 24) v1 (cn 0) (cn 0) (cn 0) (cn 0) (cn 0)) ∧ (
  let r1 : Int32 × PM := F321 p (cn 24) v1 (cn 0) (cn 0) (cn 0) (cn 0) (cn 0)
  True)
noncomputable def g12_fail (p : PM) (v1 : Int32) : Prop := bg12_fail v12_act g12_act p v1
def R346 : List Row := [(0, .aload_n 0, 1, 0, (0, 0, 0, 0, 0, 0)), (1, .bipush 24, 2, 0, (0, 0, 0, 0, 0, 24)), (3, .iload_n 1, 1, 0, (0, 0, 0, 0, 0, 0)), (4, .iconst 0, 1, 0, (0, 0, 0, 0, 0, 0)), (5, .iconst 0, 1, 0, (0, 0, 0, 0, 0, 0)), (6, .iconst 0, 1, 0, (0, 0, 0, 0, 0, 0)), (7, .iconst 0, 1, 0, (0, 0, 0, 0, 0, 0)), (8, .iconst 0, 1, 0, (0, 0, 0, 0, 0, 0)), (9, .invokevirtual 594, 3, 0, (0, 8, 0, 0, 1, 0)), (12, .ireturn, 1, 0, (0, 0, 0, 0, 0, 0))]
set_option maxRecDepth 100000 in
theorem rk346 : R346.all (rok 2 346 1 [(321, [15, 0, 0, 0, 0, 0, 0, 0])]) = true := by decide +kernel
set_option maxRecDepth 100000 in
theorem tab346 {F321 : PM → Int32 → Int32 → Int32 → Int32 → Int32 → Int32 → Int32 → Int32 × PM} {G321 : PM → Int32 → Int32 → Int32 → Int32 → Int32 → Int32 → Int32 → Prop} : TabOK 2 346 1 [CC321 F321 G321] R346 := tab_ok (K := K346) rfl rfl (fun h => d346 h) rk346 (by decide +kernel)
set_option maxRecDepth 100000 in
theorem pc346 : cutpc [] R346 = true := by decide +kernel
set_option maxRecDepth 100000 in
theorem r12_fail (F321 : PM → Int32 → Int32 → Int32 → Int32 → Int32 → Int32 → Int32 → Int32 × PM) (G321 : PM → Int32 → Int32 → Int32 → Int32 → Int32 → Int32 → Int32 → Prop) (o321 : CalOK 2 (CC321 F321 G321)) : ∀ (p : PM) (v1 : Int32), Gr 2 p → bg12_fail F321 G321 p v1 → ZJ 2 346 0 [zR 12 1, zI v1] [] p (hwI (bv12_fail F321 p v1)) := by
  intro p v1  hg H
  exact rwI (n := 3000) (q := 0) (la := [zR 12 1, zI v1]) (sa := []) (ks := []) (gs := []) (fcons o321 (fnil)) tab346 pc346 trivial hg H
theorem t12_fail : ∀ (p : PM) (v1 : Int32), Gr 2 p → g12_fail p v1 → ZJ 2 346 0 [zR 12 1, zI v1] [] p (hwI (v12_fail p v1)) := r12_fail v12_act g12_act ok321
def CC346 (F : PM → Int32 → Int32 × PM) (G : PM → Int32 → Prop) : Cal := (346, [15, 0], 1, false, fun as p => (zI (F p (ai as 1)).1, (F p (ai as 1)).2), fun as p => zsw (tc2 as [(112, 1), (0, 0)]) False (G p (ai as 1)))
set_option maxRecDepth 100000 in
theorem okr346 (F : PM → Int32 → Int32 × PM) (G : PM → Int32 → Prop) (h : ∀ (p : PM) (v1 : Int32), Gr 2 p → G p v1 → ZJ 2 346 0 [zR 12 1, zI v1] [] p (hwI (F p v1))) : CalOK 2 (CC346 F G) := cal_ok (m := 2) (by unfold mL; rw [mX_346]) (fun as p hg H => h p (ai as 1) hg H)
theorem ok346 : CalOK 2 (CC346 v12_fail g12_fail) := okr346 v12_fail g12_fail t12_fail
noncomputable def bv12_bid (F321 : PM → Int32 → Int32 → Int32 → Int32 → Int32 → Int32 → Int32 → Int32 × PM) (p : PM) (v1 : Int32) (v2 : Int32) : Int32 × PM :=
  let r1 : Int32 × PM := F321 p (cn 25) v1 v2 (cn 0) (cn 0) (cn 0) (cn 0)
  (r1.1, r1.2)
noncomputable def v12_bid (p : PM) (v1 : Int32) (v2 : Int32) : Int32 × PM := bv12_bid v12_act p v1 v2
noncomputable def bg12_bid (F321 : PM → Int32 → Int32 → Int32 → Int32 → Int32 → Int32 → Int32 → Int32 × PM) (G321 : PM → Int32 → Int32 → Int32 → Int32 → Int32 → Int32 → Int32 → Prop) (p : PM) (v1 : Int32) (v2 : Int32) : Prop :=
  (G321 p (cn 25) v1 v2 (cn 0) (cn 0) (cn 0) (cn 0)) ∧ (
  let r1 : Int32 × PM := F321 p (cn 25) v1 v2 (cn 0) (cn 0) (cn 0) (cn 0)
  True)
noncomputable def g12_bid (p : PM) (v1 : Int32) (v2 : Int32) : Prop := bg12_bid v12_act g12_act p v1 v2
def R347 : List Row := [(0, .aload_n 0, 1, 0, (0, 0, 0, 0, 0, 0)), (1, .bipush 25, 2, 0, (0, 0, 0, 0, 0, 25)), (3, .iload_n 1, 1, 0, (0, 0, 0, 0, 0, 0)), (4, .iload_n 2, 1, 0, (0, 0, 0, 0, 0, 0)), (5, .iconst 0, 1, 0, (0, 0, 0, 0, 0, 0)), (6, .iconst 0, 1, 0, (0, 0, 0, 0, 0, 0)), (7, .iconst 0, 1, 0, (0, 0, 0, 0, 0, 0)), (8, .iconst 0, 1, 0, (0, 0, 0, 0, 0, 0)), (9, .invokevirtual 594, 3, 0, (0, 8, 0, 0, 1, 0)), (12, .ireturn, 1, 0, (0, 0, 0, 0, 0, 0))]
set_option maxRecDepth 100000 in
theorem rk347 : R347.all (rok 2 347 1 [(321, [15, 0, 0, 0, 0, 0, 0, 0])]) = true := by decide +kernel
set_option maxRecDepth 100000 in
theorem tab347 {F321 : PM → Int32 → Int32 → Int32 → Int32 → Int32 → Int32 → Int32 → Int32 × PM} {G321 : PM → Int32 → Int32 → Int32 → Int32 → Int32 → Int32 → Int32 → Prop} : TabOK 2 347 1 [CC321 F321 G321] R347 := tab_ok (K := K347) rfl rfl (fun h => d347 h) rk347 (by decide +kernel)
set_option maxRecDepth 100000 in
theorem pc347 : cutpc [] R347 = true := by decide +kernel
set_option maxRecDepth 100000 in
theorem r12_bid (F321 : PM → Int32 → Int32 → Int32 → Int32 → Int32 → Int32 → Int32 → Int32 × PM) (G321 : PM → Int32 → Int32 → Int32 → Int32 → Int32 → Int32 → Int32 → Prop) (o321 : CalOK 2 (CC321 F321 G321)) : ∀ (p : PM) (v1 : Int32) (v2 : Int32), Gr 2 p → bg12_bid F321 G321 p v1 v2 → ZJ 2 347 0 [zR 12 1, zI v1, zI v2] [] p (hwI (bv12_bid F321 p v1 v2)) := by
  intro p v1 v2  hg H
  exact rwI (n := 3000) (q := 0) (la := [zR 12 1, zI v1, zI v2]) (sa := []) (ks := []) (gs := []) (fcons o321 (fnil)) tab347 pc347 trivial hg H
theorem t12_bid : ∀ (p : PM) (v1 : Int32) (v2 : Int32), Gr 2 p → g12_bid p v1 v2 → ZJ 2 347 0 [zR 12 1, zI v1, zI v2] [] p (hwI (v12_bid p v1 v2)) := r12_bid v12_act g12_act ok321
def CC347 (F : PM → Int32 → Int32 → Int32 × PM) (G : PM → Int32 → Int32 → Prop) : Cal := (347, [15, 0, 0], 1, false, fun as p => (zI (F p (ai as 1) (ai as 2)).1, (F p (ai as 1) (ai as 2)).2), fun as p => zsw (tc2 as [(112, 1), (0, 0), (0, 0)]) False (G p (ai as 1) (ai as 2)))
set_option maxRecDepth 100000 in
theorem okr347 (F : PM → Int32 → Int32 → Int32 × PM) (G : PM → Int32 → Int32 → Prop) (h : ∀ (p : PM) (v1 : Int32) (v2 : Int32), Gr 2 p → G p v1 v2 → ZJ 2 347 0 [zR 12 1, zI v1, zI v2] [] p (hwI (F p v1 v2))) : CalOK 2 (CC347 F G) := cal_ok (m := 3) (by unfold mL; rw [mX_347]) (fun as p hg H => h p (ai as 1) (ai as 2) hg H)
theorem ok347 : CalOK 2 (CC347 v12_bid g12_bid) := okr347 v12_bid g12_bid t12_bid
noncomputable def bv12_closeOut (F321 : PM → Int32 → Int32 → Int32 → Int32 → Int32 → Int32 → Int32 → Int32 × PM) (p : PM) : Int32 × PM :=
  let r1 : Int32 × PM := F321 p (cn 26) (cn 0) (cn 0) (cn 0) (cn 0) (cn 0) (cn 0)
  (r1.1, r1.2)
noncomputable def v12_closeOut (p : PM) : Int32 × PM := bv12_closeOut v12_act p
noncomputable def bg12_closeOut (F321 : PM → Int32 → Int32 → Int32 → Int32 → Int32 → Int32 → Int32 → Int32 × PM) (G321 : PM → Int32 → Int32 → Int32 → Int32 → Int32 → Int32 → Int32 → Prop) (p : PM) : Prop :=
  (G321 p (cn 26) (cn 0) (cn 0) (cn 0) (cn 0) (cn 0) (cn 0)) ∧ (
  let r1 : Int32 × PM := F321 p (cn 26) (cn 0) (cn 0) (cn 0) (cn 0) (cn 0) (cn 0)
  True)
noncomputable def g12_closeOut (p : PM) : Prop := bg12_closeOut v12_act g12_act p
def R348 : List Row := [(0, .aload_n 0, 1, 0, (0, 0, 0, 0, 0, 0)), (1, .bipush 26, 2, 0, (0, 0, 0, 0, 0, 26)), (3, .iconst 0, 1, 0, (0, 0, 0, 0, 0, 0)), (4, .iconst 0, 1, 0, (0, 0, 0, 0, 0, 0)), (5, .iconst 0, 1, 0, (0, 0, 0, 0, 0, 0)), (6, .iconst 0, 1, 0, (0, 0, 0, 0, 0, 0)), (7, .iconst 0, 1, 0, (0, 0, 0, 0, 0, 0)), (8, .iconst 0, 1, 0, (0, 0, 0, 0, 0, 0)), (9, .invokevirtual 594, 3, 0, (0, 8, 0, 0, 1, 0)), (12, .ireturn, 1, 0, (0, 0, 0, 0, 0, 0))]
set_option maxRecDepth 100000 in
theorem rk348 : R348.all (rok 2 348 1 [(321, [15, 0, 0, 0, 0, 0, 0, 0])]) = true := by decide +kernel
set_option maxRecDepth 100000 in
theorem tab348 {F321 : PM → Int32 → Int32 → Int32 → Int32 → Int32 → Int32 → Int32 → Int32 × PM} {G321 : PM → Int32 → Int32 → Int32 → Int32 → Int32 → Int32 → Int32 → Prop} : TabOK 2 348 1 [CC321 F321 G321] R348 := tab_ok (K := K348) rfl rfl (fun h => d348 h) rk348 (by decide +kernel)
set_option maxRecDepth 100000 in
theorem pc348 : cutpc [] R348 = true := by decide +kernel
set_option maxRecDepth 100000 in
theorem r12_closeOut (F321 : PM → Int32 → Int32 → Int32 → Int32 → Int32 → Int32 → Int32 → Int32 × PM) (G321 : PM → Int32 → Int32 → Int32 → Int32 → Int32 → Int32 → Int32 → Prop) (o321 : CalOK 2 (CC321 F321 G321)) : ∀ (p : PM), Gr 2 p → bg12_closeOut F321 G321 p → ZJ 2 348 0 [zR 12 1] [] p (hwI (bv12_closeOut F321 p)) := by
  intro p   hg H
  exact rwI (n := 3000) (q := 0) (la := [zR 12 1]) (sa := []) (ks := []) (gs := []) (fcons o321 (fnil)) tab348 pc348 trivial hg H
theorem t12_closeOut : ∀ (p : PM), Gr 2 p → g12_closeOut p → ZJ 2 348 0 [zR 12 1] [] p (hwI (v12_closeOut p)) := r12_closeOut v12_act g12_act ok321
def CC348 (F : PM → Int32 × PM) (G : PM → Prop) : Cal := (348, [15], 1, false, fun as p => (zI (F p ).1, (F p ).2), fun as p => zsw (tc2 as [(112, 1)]) False (G p ))
set_option maxRecDepth 100000 in
theorem okr348 (F : PM → Int32 × PM) (G : PM → Prop) (h : ∀ (p : PM), Gr 2 p → G p  → ZJ 2 348 0 [zR 12 1] [] p (hwI (F p ))) : CalOK 2 (CC348 F G) := cal_ok (m := 1) (by unfold mL; rw [mX_348]) (fun as p hg H => h p  hg H)
theorem ok348 : CalOK 2 (CC348 v12_closeOut g12_closeOut) := okr348 v12_closeOut g12_closeOut t12_closeOut
noncomputable def bv12_keep (p : PM) : Int32 × PM :=
  let p1 : PM := pI p 12 1 0 (cn 0)
  let p2 : PM := pI p1 12 1 61 (p1.1 12 1 60)
  ((p2.1 12 1 61), p2)
noncomputable def v12_keep (p : PM) : Int32 × PM := bv12_keep p
noncomputable def bg12_keep (p : PM) : Prop :=
  let p1 : PM := pI p 12 1 0 (cn 0)
  let p2 : PM := pI p1 12 1 61 (p1.1 12 1 60)
  True
noncomputable def g12_keep (p : PM) : Prop := bg12_keep p
def R349 : List Row := [(0, .aload_n 0, 1, 0, (0, 0, 0, 0, 0, 0)), (1, .iconst 0, 1, 0, (0, 0, 0, 0, 0, 0)), (2, .putfield 180, 3, 0, (12, 0, 0, 1, 0, 0)), (5, .aload_n 0, 1, 0, (0, 0, 0, 0, 0, 0)), (6, .aload_n 0, 1, 0, (0, 0, 0, 0, 0, 0)), (7, .getfield 591, 3, 0, (12, 60, 0, 1, 0, 0)), (10, .putfield 598, 3, 0, (12, 61, 0, 1, 0, 0)), (13, .aload_n 0, 1, 0, (0, 0, 0, 0, 0, 0)), (14, .getfield 598, 3, 0, (12, 61, 0, 1, 0, 0)), (17, .ireturn, 1, 0, (0, 0, 0, 0, 0, 0))]
set_option maxRecDepth 100000 in
theorem rk349 : R349.all (rok 2 349 1 []) = true := by decide +kernel
set_option maxRecDepth 100000 in
theorem tab349 : TabOK 2 349 1 [] R349 := tab_ok (K := K349) rfl rfl (fun h => d349 h) rk349 (by decide +kernel)
set_option maxRecDepth 100000 in
theorem pc349 : cutpc [] R349 = true := by decide +kernel
set_option maxRecDepth 100000 in
theorem r12_keep : ∀ (p : PM), Gr 2 p → bg12_keep p → ZJ 2 349 0 [zR 12 1] [] p (hwI (bv12_keep p)) := by
  intro p   hg H
  exact rwI (n := 3000) (q := 0) (la := [zR 12 1]) (sa := []) (ks := []) (gs := []) (fnil) tab349 pc349 trivial hg H
theorem t12_keep : ∀ (p : PM), Gr 2 p → g12_keep p → ZJ 2 349 0 [zR 12 1] [] p (hwI (v12_keep p)) := r12_keep
def CC349 (F : PM → Int32 × PM) (G : PM → Prop) : Cal := (349, [15], 1, false, fun as p => (zI (F p ).1, (F p ).2), fun as p => zsw (tc2 as [(112, 1)]) False (G p ))
set_option maxRecDepth 100000 in
theorem okr349 (F : PM → Int32 × PM) (G : PM → Prop) (h : ∀ (p : PM), Gr 2 p → G p  → ZJ 2 349 0 [zR 12 1] [] p (hwI (F p ))) : CalOK 2 (CC349 F G) := cal_ok (m := 1) (by unfold mL; rw [mX_349]) (fun as p hg H => h p  hg H)
theorem ok349 : CalOK 2 (CC349 v12_keep g12_keep) := okr349 v12_keep g12_keep t12_keep
noncomputable def bv12_failOver_16 (F267 : PM → PM) (F319 : PM → Int32 → Int32 → Int32 → Int32 → Int32 → Int32 → Int32 → Int64 × PM) (kv16 : PM → Int32 → Int32 → Int32 × PM) (p : PM) (v1 : Int32) (v2 : Int32) : Int32 × PM :=
  if v2 < (p.1 12 1 61) then (
    let r3 : Int64 × PM := F319 p (p.1 13 40 (((cn 7) * v2)).toNatClampNeg) (p.1 13 40 ((((cn 7) * v2) + (cn 1))).toNatClampNeg) (p.1 13 40 ((((cn 7) * v2) + (cn 2))).toNatClampNeg) (p.1 13 40 ((((cn 7) * v2) + (cn 3))).toNatClampNeg) (p.1 13 40 ((((cn 7) * v2) + (cn 4))).toNatClampNeg) (p.1 13 40 ((((cn 7) * v2) + (cn 5))).toNatClampNeg) (p.1 13 40 ((((cn 7) * v2) + (cn 6))).toNatClampNeg)
    let p4 : PM := F267 r3.2
    kv16 p4 v1 (v2 + (cn 1)))
  else (
    let p1 : PM := pI p 12 1 60 (p.1 12 1 61)
    let p2 : PM := pI p1 12 1 0 (cn 0)
    (v1, p2))
noncomputable def v12_failOver_16 (n : Nat) : PM → Int32 → Int32 → Int32 × PM := Nat.rec (motive := fun _ => PM → Int32 → Int32 → Int32 × PM) (fun p _ _ => (0, p)) (fun _ ih => bv12_failOver_16 v12_works v12_does ih) n
theorem ev12_failOver_16 (n : Nat) (p : PM) (v1 : Int32) (v2 : Int32) : v12_failOver_16 (n + 1) p v1 v2 = bv12_failOver_16 v12_works v12_does (v12_failOver_16 n) p v1 v2 := rfl
noncomputable def bg12_failOver_16 (F267 : PM → PM) (G267 : PM → Prop) (F319 : PM → Int32 → Int32 → Int32 → Int32 → Int32 → Int32 → Int32 → Int64 × PM) (G319 : PM → Int32 → Int32 → Int32 → Int32 → Int32 → Int32 → Int32 → Prop) (kg16 : PM → Int32 → Int32 → Prop) (p : PM) (v1 : Int32) (v2 : Int32) : Prop :=
  if v2 < (p.1 12 1 61) then (
    (inb ((cn 7) * v2) 3640) ∧ (
    (inb (((cn 7) * v2) + (cn 1)) 3640) ∧ (
    (inb (((cn 7) * v2) + (cn 2)) 3640) ∧ (
    (inb (((cn 7) * v2) + (cn 3)) 3640) ∧ (
    (inb (((cn 7) * v2) + (cn 4)) 3640) ∧ (
    (inb (((cn 7) * v2) + (cn 5)) 3640) ∧ (
    (inb (((cn 7) * v2) + (cn 6)) 3640) ∧ (
    (G319 p (p.1 13 40 (((cn 7) * v2)).toNatClampNeg) (p.1 13 40 ((((cn 7) * v2) + (cn 1))).toNatClampNeg) (p.1 13 40 ((((cn 7) * v2) + (cn 2))).toNatClampNeg) (p.1 13 40 ((((cn 7) * v2) + (cn 3))).toNatClampNeg) (p.1 13 40 ((((cn 7) * v2) + (cn 4))).toNatClampNeg) (p.1 13 40 ((((cn 7) * v2) + (cn 5))).toNatClampNeg) (p.1 13 40 ((((cn 7) * v2) + (cn 6))).toNatClampNeg)) ∧ (
    let r3 : Int64 × PM := F319 p (p.1 13 40 (((cn 7) * v2)).toNatClampNeg) (p.1 13 40 ((((cn 7) * v2) + (cn 1))).toNatClampNeg) (p.1 13 40 ((((cn 7) * v2) + (cn 2))).toNatClampNeg) (p.1 13 40 ((((cn 7) * v2) + (cn 3))).toNatClampNeg) (p.1 13 40 ((((cn 7) * v2) + (cn 4))).toNatClampNeg) (p.1 13 40 ((((cn 7) * v2) + (cn 5))).toNatClampNeg) (p.1 13 40 ((((cn 7) * v2) + (cn 6))).toNatClampNeg)
    (G267 r3.2) ∧ (
    let p4 : PM := F267 r3.2
    kg16 p4 v1 (v2 + (cn 1))))))))))))
  else (
    let p1 : PM := pI p 12 1 60 (p.1 12 1 61)
    let p2 : PM := pI p1 12 1 0 (cn 0)
    True)
noncomputable def g12_failOver_16 (n : Nat) : PM → Int32 → Int32 → Prop := Nat.rec (motive := fun _ => PM → Int32 → Int32 → Prop) (fun _ _ _ => False) (fun _ ih => bg12_failOver_16 v12_works g12_works v12_does g12_does ih) n
theorem eg12_failOver_16 (n : Nat) (p : PM) (v1 : Int32) (v2 : Int32) : g12_failOver_16 (n + 1) p v1 v2 = bg12_failOver_16 v12_works g12_works v12_does g12_does (g12_failOver_16 n) p v1 v2 := rfl
noncomputable def bv12_failOver (F214 : PM → PM) (kv16 : PM → Int32 → Int32 → Int32 × PM) (p : PM) : Int32 × PM :=
  let x1 : Int32 := ((p.1 12 1 60) - (p.1 12 1 61))
  let p2 : PM := F214 p
  kv16 p2 x1 (cn 0)
noncomputable def v12_failOver (p : PM) : Int32 × PM := bv12_failOver v12_resets (v12_failOver_16 FU) p
noncomputable def bg12_failOver (F214 : PM → PM) (G214 : PM → Prop) (kg16 : PM → Int32 → Int32 → Prop) (p : PM) : Prop :=
  let x1 : Int32 := ((p.1 12 1 60) - (p.1 12 1 61))
  (G214 p) ∧ (
  let p2 : PM := F214 p
  kg16 p2 x1 (cn 0))
noncomputable def g12_failOver (p : PM) : Prop := bg12_failOver v12_resets g12_resets (g12_failOver_16 FU) p
def R350 : List Row := [(0, .aload_n 0, 1, 0, (0, 0, 0, 0, 0, 0)), (1, .getfield 591, 3, 0, (12, 60, 0, 1, 0, 0)), (4, .aload_n 0, 1, 0, (0, 0, 0, 0, 0, 0)), (5, .getfield 598, 3, 0, (12, 61, 0, 1, 0, 0)), (8, .isub, 1, 0, (0, 0, 0, 0, 0, 0)), (9, .istore_n 1, 1, 0, (0, 0, 0, 0, 0, 0)), (10, .aload_n 0, 1, 0, (0, 0, 0, 0, 0, 0)), (11, .invokevirtual 177, 3, 0, (0, 1, 0, 0, 1, 0)), (14, .iconst 0, 1, 0, (0, 0, 0, 0, 0, 0)), (15, .istore_n 2, 1, 0, (0, 0, 0, 0, 0, 0)), (16, .iload_n 2, 1, 1, (0, 0, 0, 0, 0, 0)), (17, .aload_n 0, 1, 0, (0, 0, 0, 0, 0, 0)), (18, .getfield 598, 3, 0, (12, 61, 0, 1, 0, 0)), (21, .if_icmp .ge 79, 3, 0, (0, 0, 0, 0, 0, 0)), (24, .bipush 7, 2, 0, (0, 0, 0, 0, 0, 7)), (26, .iload_n 2, 1, 0, (0, 0, 0, 0, 0, 0)), (27, .imul, 1, 0, (0, 0, 0, 0, 0, 0)), (28, .istore_n 3, 1, 0, (0, 0, 0, 0, 0, 0)), (29, .aload_n 0, 1, 0, (0, 0, 0, 0, 0, 0)), (30, .aload_n 0, 1, 0, (0, 0, 0, 0, 0, 0)), (31, .getfield 162, 3, 0, (12, 59, 16, 2, 40, 0)), (34, .iload_n 3, 1, 0, (0, 0, 0, 0, 0, 0)), (35, .iaload, 1, 0, (13, 3640, 0, 0, 0, 0)), (36, .aload_n 0, 1, 0, (0, 0, 0, 0, 0, 0)), (37, .getfield 162, 3, 0, (12, 59, 16, 2, 40, 0)), (40, .iload_n 3, 1, 0, (0, 0, 0, 0, 0, 0)), (41, .iconst 1, 1, 0, (0, 0, 0, 0, 0, 1)), (42, .iadd, 1, 0, (0, 0, 0, 0, 0, 0)), (43, .iaload, 1, 0, (13, 3640, 0, 0, 0, 0)), (44, .aload_n 0, 1, 0, (0, 0, 0, 0, 0, 0)), (45, .getfield 162, 3, 0, (12, 59, 16, 2, 40, 0)), (48, .iload_n 3, 1, 0, (0, 0, 0, 0, 0, 0)), (49, .iconst 2, 1, 0, (0, 0, 0, 0, 0, 2)), (50, .iadd, 1, 0, (0, 0, 0, 0, 0, 0)), (51, .iaload, 1, 0, (13, 3640, 0, 0, 0, 0)), (52, .aload_n 0, 1, 0, (0, 0, 0, 0, 0, 0)), (53, .getfield 162, 3, 0, (12, 59, 16, 2, 40, 0)), (56, .iload_n 3, 1, 0, (0, 0, 0, 0, 0, 0)), (57, .iconst 3, 1, 0, (0, 0, 0, 0, 0, 3)), (58, .iadd, 1, 0, (0, 0, 0, 0, 0, 0)), (59, .iaload, 1, 0, (13, 3640, 0, 0, 0, 0)), (60, .aload_n 0, 1, 0, (0, 0, 0, 0, 0, 0)), (61, .getfield 162, 3, 0, (12, 59, 16, 2, 40, 0)), (64, .iload_n 3, 1, 0, (0, 0, 0, 0, 0, 0)), (65, .iconst 4, 1, 0, (0, 0, 0, 0, 0, 4)), (66, .iadd, 1, 0, (0, 0, 0, 0, 0, 0)), (67, .iaload, 1, 0, (13, 3640, 0, 0, 0, 0)), (68, .aload_n 0, 1, 0, (0, 0, 0, 0, 0, 0)), (69, .getfield 162, 3, 0, (12, 59, 16, 2, 40, 0)), (72, .iload_n 3, 1, 0, (0, 0, 0, 0, 0, 0)), (73, .iconst 5, 1, 0, (0, 0, 0, 0, 0, 5)), (74, .iadd, 1, 0, (0, 0, 0, 0, 0, 0)), (75, .iaload, 1, 0, (13, 3640, 0, 0, 0, 0)), (76, .aload_n 0, 1, 0, (0, 0, 0, 0, 0, 0)), (77, .getfield 162, 3, 0, (12, 59, 16, 2, 40, 0)), (80, .iload_n 3, 1, 0, (0, 0, 0, 0, 0, 0)), (81, .bipush 6, 2, 0, (0, 0, 0, 0, 0, 6)), (83, .iadd, 1, 0, (0, 0, 0, 0, 0, 0)), (84, .iaload, 1, 0, (13, 3640, 0, 0, 0, 0)), (85, .invokevirtual 587, 3, 0, (1, 8, 0, 0, 1, 0)), (88, .lstore 4, 2, 0, (0, 0, 0, 0, 0, 0)), (90, .aload_n 0, 1, 0, (0, 0, 0, 0, 0, 0)), (91, .invokevirtual 390, 3, 0, (2, 1, 0, 0, 1, 0)), (94, .iinc 2 1, 3, 0, (0, 0, 0, 0, 0, 1)), (97, .goto (-81), 3, 0, (0, 0, 0, 0, 0, 0)), (100, .aload_n 0, 1, 0, (0, 0, 0, 0, 0, 0)), (101, .aload_n 0, 1, 0, (0, 0, 0, 0, 0, 0)), (102, .getfield 598, 3, 0, (12, 61, 0, 1, 0, 0)), (105, .putfield 591, 3, 0, (12, 60, 0, 1, 0, 0)), (108, .aload_n 0, 1, 0, (0, 0, 0, 0, 0, 0)), (109, .iconst 0, 1, 0, (0, 0, 0, 0, 0, 0)), (110, .putfield 180, 3, 0, (12, 0, 0, 1, 0, 0)), (113, .iload_n 1, 1, 0, (0, 0, 0, 0, 0, 0)), (114, .ireturn, 1, 0, (0, 0, 0, 0, 0, 0))]
set_option maxRecDepth 100000 in
theorem rk350 : R350.all (rok 2 350 1 [(214, [15]), (319, [15, 0, 0, 0, 0, 0, 0, 0]), (267, [15])]) = true := by decide +kernel
set_option maxRecDepth 100000 in
theorem tab350 {F214 : PM → PM} {G214 : PM → Prop} {F319 : PM → Int32 → Int32 → Int32 → Int32 → Int32 → Int32 → Int32 → Int64 × PM} {G319 : PM → Int32 → Int32 → Int32 → Int32 → Int32 → Int32 → Int32 → Prop} {F267 : PM → PM} {G267 : PM → Prop} : TabOK 2 350 1 [CC214 F214 G214, CC319 F319 G319, CC267 F267 G267] R350 := tab_ok (K := K350) rfl rfl (fun h => d350 h) rk350 (by decide +kernel)
set_option maxRecDepth 100000 in
theorem pc350 : cutpc [16] R350 = true := by decide +kernel
set_option maxRecDepth 100000 in
theorem r12_failOver_16 (F214 : PM → PM) (G214 : PM → Prop) (o214 : CalOK 2 (CC214 F214 G214)) (F319 : PM → Int32 → Int32 → Int32 → Int32 → Int32 → Int32 → Int32 → Int64 × PM) (G319 : PM → Int32 → Int32 → Int32 → Int32 → Int32 → Int32 → Int32 → Prop) (o319 : CalOK 2 (CC319 F319 G319)) (F267 : PM → PM) (G267 : PM → Prop) (o267 : CalOK 2 (CC267 F267 G267)) (kv16 : PM → Int32 → Int32 → Int32 × PM) (kg16 : PM → Int32 → Int32 → Prop) (hk16 : ∀ (p : PM) (v1 : Int32) (v2 : Int32) (d3 d4 d5 : ZV), Gr 2 p → kg16 p v1 v2 → ZJ 2 350 16 [zR 12 1, zI v1, zI v2, d3, d4, d5] [] p (hwI (kv16 p v1 v2))) : ∀ (p : PM) (v1 : Int32) (v2 : Int32) (d3 d4 d5 : ZV), Gr 2 p → bg12_failOver_16 F267 G267 F319 G319 kg16 p v1 v2 → ZJ 2 350 16 [zR 12 1, zI v1, zI v2, d3, d4, d5] [] p (hwI (bv12_failOver_16 F267 F319 kv16 p v1 v2)) := by
  intro p v1 v2 d3 d4 d5 hg H
  exact rwI (n := 3000) (q := 16) (la := [zR 12 1, zI v1, zI v2, d3, d4, d5]) (sa := []) (ks := [fun la sa s => kv16 s (ai la 1) (ai la 2)]) (gs := [fun la sa s => zsw (tc2 la [(112, 1), (0, 0), (0, 0), (2, 0), (2, 0), (2, 0)] && tc2 sa []) False (kg16 s (ai la 1) (ai la 2))]) (fcons o214 (fcons o319 (fcons o267 (fnil)))) tab350 pc350 ⟨fun la sa s hg H => zcut H fun H => hk16 s (ai la 1) (ai la 2) (zld la 3) (zld la 4) (zld la 5) hg H, trivial⟩ hg H
theorem t12_failOver_16 : ∀ (n : Nat), ∀ (p : PM) (v1 : Int32) (v2 : Int32) (d3 d4 d5 : ZV), Gr 2 p → g12_failOver_16 n p v1 v2 → ZJ 2 350 16 [zR 12 1, zI v1, zI v2, d3, d4, d5] [] p (hwI (v12_failOver_16 n p v1 v2)) := by
  intro n
  induction n with
  | zero =>
    intro p v1 v2 d3 d4 d5 hg H
    exact H.elim
  | succ n ih => exact r12_failOver_16 v12_resets g12_resets ok214 v12_does g12_does ok319 v12_works g12_works ok267 (v12_failOver_16 n) (g12_failOver_16 n) ih
set_option maxRecDepth 100000 in
theorem r12_failOver (F214 : PM → PM) (G214 : PM → Prop) (o214 : CalOK 2 (CC214 F214 G214)) (F319 : PM → Int32 → Int32 → Int32 → Int32 → Int32 → Int32 → Int32 → Int64 × PM) (G319 : PM → Int32 → Int32 → Int32 → Int32 → Int32 → Int32 → Int32 → Prop) (o319 : CalOK 2 (CC319 F319 G319)) (F267 : PM → PM) (G267 : PM → Prop) (o267 : CalOK 2 (CC267 F267 G267)) (kv16 : PM → Int32 → Int32 → Int32 × PM) (kg16 : PM → Int32 → Int32 → Prop) (hk16 : ∀ (p : PM) (v1 : Int32) (v2 : Int32) (d3 d4 d5 : ZV), Gr 2 p → kg16 p v1 v2 → ZJ 2 350 16 [zR 12 1, zI v1, zI v2, d3, d4, d5] [] p (hwI (kv16 p v1 v2))) : ∀ (p : PM), Gr 2 p → bg12_failOver F214 G214 kg16 p → ZJ 2 350 0 [zR 12 1, zJ, zJ, zJ, zJ, zJ] [] p (hwI (bv12_failOver F214 kv16 p)) := by
  intro p   hg H
  exact rwI (n := 3000) (q := 0) (la := [zR 12 1, zJ, zJ, zJ, zJ, zJ]) (sa := []) (ks := [fun la sa s => kv16 s (ai la 1) (ai la 2)]) (gs := [fun la sa s => zsw (tc2 la [(112, 1), (0, 0), (0, 0), (2, 0), (2, 0), (2, 0)] && tc2 sa []) False (kg16 s (ai la 1) (ai la 2))]) (fcons o214 (fcons o319 (fcons o267 (fnil)))) tab350 pc350 ⟨fun la sa s hg H => zcut H fun H => hk16 s (ai la 1) (ai la 2) (zld la 3) (zld la 4) (zld la 5) hg H, trivial⟩ hg H
theorem t12_failOver : ∀ (p : PM), Gr 2 p → g12_failOver p → ZJ 2 350 0 [zR 12 1, zJ, zJ, zJ, zJ, zJ] [] p (hwI (v12_failOver p)) := r12_failOver v12_resets g12_resets ok214 v12_does g12_does ok319 v12_works g12_works ok267 (v12_failOver_16 FU) (g12_failOver_16 FU) (t12_failOver_16 FU)
def CC350 (F : PM → Int32 × PM) (G : PM → Prop) : Cal := (350, [15], 1, false, fun as p => (zI (F p ).1, (F p ).2), fun as p => zsw (tc2 as [(112, 1)]) False (G p ))
set_option maxRecDepth 100000 in
theorem okr350 (F : PM → Int32 × PM) (G : PM → Prop) (h : ∀ (p : PM), Gr 2 p → G p  → ZJ 2 350 0 [zR 12 1, zJ, zJ, zJ, zJ, zJ] [] p (hwI (F p ))) : CalOK 2 (CC350 F G) := cal_ok (m := 6) (by unfold mL; rw [mX_350]) (fun as p hg H => h p  hg H)
theorem ok350 : CalOK 2 (CC350 v12_failOver g12_failOver) := okr350 v12_failOver g12_failOver t12_failOver
noncomputable def bv12_events (p : PM) : Int32 × PM :=
  let p1 : PM := pI p 12 1 0 (cn 0)
  ((p1.1 12 1 60), p1)
noncomputable def v12_events (p : PM) : Int32 × PM := bv12_events p
noncomputable def bg12_events (p : PM) : Prop :=
  let p1 : PM := pI p 12 1 0 (cn 0)
  True
noncomputable def g12_events (p : PM) : Prop := bg12_events p
def R351 : List Row := [(0, .aload_n 0, 1, 0, (0, 0, 0, 0, 0, 0)), (1, .iconst 0, 1, 0, (0, 0, 0, 0, 0, 0)), (2, .putfield 180, 3, 0, (12, 0, 0, 1, 0, 0)), (5, .aload_n 0, 1, 0, (0, 0, 0, 0, 0, 0)), (6, .getfield 591, 3, 0, (12, 60, 0, 1, 0, 0)), (9, .ireturn, 1, 0, (0, 0, 0, 0, 0, 0))]
set_option maxRecDepth 100000 in
theorem rk351 : R351.all (rok 2 351 1 []) = true := by decide +kernel
set_option maxRecDepth 100000 in
theorem tab351 : TabOK 2 351 1 [] R351 := tab_ok (K := K351) rfl rfl (fun h => d351 h) rk351 (by decide +kernel)
set_option maxRecDepth 100000 in
theorem pc351 : cutpc [] R351 = true := by decide +kernel
set_option maxRecDepth 100000 in
theorem r12_events : ∀ (p : PM), Gr 2 p → bg12_events p → ZJ 2 351 0 [zR 12 1] [] p (hwI (bv12_events p)) := by
  intro p   hg H
  exact rwI (n := 3000) (q := 0) (la := [zR 12 1]) (sa := []) (ks := []) (gs := []) (fnil) tab351 pc351 trivial hg H
theorem t12_events : ∀ (p : PM), Gr 2 p → g12_events p → ZJ 2 351 0 [zR 12 1] [] p (hwI (v12_events p)) := r12_events
def CC351 (F : PM → Int32 × PM) (G : PM → Prop) : Cal := (351, [15], 1, false, fun as p => (zI (F p ).1, (F p ).2), fun as p => zsw (tc2 as [(112, 1)]) False (G p ))
set_option maxRecDepth 100000 in
theorem okr351 (F : PM → Int32 × PM) (G : PM → Prop) (h : ∀ (p : PM), Gr 2 p → G p  → ZJ 2 351 0 [zR 12 1] [] p (hwI (F p ))) : CalOK 2 (CC351 F G) := cal_ok (m := 1) (by unfold mL; rw [mX_351]) (fun as p hg H => h p  hg H)
theorem ok351 : CalOK 2 (CC351 v12_events g12_events) := okr351 v12_events g12_events t12_events
noncomputable def bv12_position (F215 : PM → Int32 → Int32 → Int32 → Int32) (p : PM) (v1 : Int32) (v2 : Int32) : Int32 × PM :=
  if (F215 p v1 (cn 0) (cn 8)) = 0 then (
    let p1 : PM := pI p 12 1 0 (cn 1)
    if (p1.1 12 1 0) = 0 then (
      ((p1.1 13 1 ((((cn 4) * v1) + v2)).toNatClampNeg), p1))
    else (
      ((cn 0), p1)))
  else (
    if (F215 p v2 (cn 0) (cn 3)) = 0 then (
      let p2 : PM := pI p 12 1 0 (cn 1)
      if (p2.1 12 1 0) = 0 then (
        ((p2.1 13 1 ((((cn 4) * v1) + v2)).toNatClampNeg), p2))
      else (
        ((cn 0), p2)))
    else (
      let p3 : PM := pI p 12 1 0 (cn 0)
      if (p3.1 12 1 0) = 0 then (
        ((p3.1 13 1 ((((cn 4) * v1) + v2)).toNatClampNeg), p3))
      else (
        ((cn 0), p3))))
noncomputable def v12_position (p : PM) (v1 : Int32) (v2 : Int32) : Int32 × PM := bv12_position v12_in p v1 v2
noncomputable def bg12_position (F215 : PM → Int32 → Int32 → Int32 → Int32) (G215 : PM → Int32 → Int32 → Int32 → Prop) (p : PM) (v1 : Int32) (v2 : Int32) : Prop :=
  (G215 p v1 (cn 0) (cn 8)) ∧ (
  if (F215 p v1 (cn 0) (cn 8)) = 0 then (
    let p1 : PM := pI p 12 1 0 (cn 1)
    if (p1.1 12 1 0) = 0 then (
      (inb (((cn 4) * v1) + v2) 36) ∧ (
      True))
    else (
      True))
  else (
    (G215 p v2 (cn 0) (cn 3)) ∧ (
    if (F215 p v2 (cn 0) (cn 3)) = 0 then (
      let p2 : PM := pI p 12 1 0 (cn 1)
      if (p2.1 12 1 0) = 0 then (
        (inb (((cn 4) * v1) + v2) 36) ∧ (
        True))
      else (
        True))
    else (
      let p3 : PM := pI p 12 1 0 (cn 0)
      if (p3.1 12 1 0) = 0 then (
        (inb (((cn 4) * v1) + v2) 36) ∧ (
        True))
      else (
        True)))))
noncomputable def g12_position (p : PM) (v1 : Int32) (v2 : Int32) : Prop := bg12_position v12_in g12_in p v1 v2
def R365 : List Row := [(0, .aload_n 0, 1, 0, (0, 0, 0, 0, 0, 0)), (1, .iload_n 1, 1, 0, (0, 0, 0, 0, 0, 0)), (2, .iconst 0, 1, 0, (0, 0, 0, 0, 0, 0)), (3, .bipush 8, 2, 0, (0, 0, 0, 0, 0, 8)), (5, .invokestatic 209, 3, 0, (0, 3, 0, 0, 0, 0)), (8, .ifCond .eq 16, 3, 0, (0, 0, 0, 0, 0, 0)), (11, .iload_n 2, 1, 0, (0, 0, 0, 0, 0, 0)), (12, .iconst 0, 1, 0, (0, 0, 0, 0, 0, 0)), (13, .iconst 3, 1, 0, (0, 0, 0, 0, 0, 3)), (14, .invokestatic 209, 3, 0, (0, 3, 0, 0, 0, 0)), (17, .ifCond .eq 7, 3, 0, (0, 0, 0, 0, 0, 0)), (20, .iconst 0, 1, 0, (0, 0, 0, 0, 0, 0)), (21, .goto 4, 3, 0, (0, 0, 0, 0, 0, 0)), (24, .iconst 1, 1, 0, (0, 0, 0, 0, 0, 1)), (25, .putfield 180, 3, 0, (12, 0, 0, 1, 0, 0)), (28, .aload_n 0, 1, 0, (0, 0, 0, 0, 0, 0)), (29, .getfield 180, 3, 0, (12, 0, 0, 1, 0, 0)), (32, .ifCond .ne 16, 3, 0, (0, 0, 0, 0, 0, 0)), (35, .aload_n 0, 1, 0, (0, 0, 0, 0, 0, 0)), (36, .getfield 7, 3, 0, (12, 1, 16, 2, 1, 0)), (39, .iconst 4, 1, 0, (0, 0, 0, 0, 0, 4)), (40, .iload_n 1, 1, 0, (0, 0, 0, 0, 0, 0)), (41, .imul, 1, 0, (0, 0, 0, 0, 0, 0)), (42, .iload_n 2, 1, 0, (0, 0, 0, 0, 0, 0)), (43, .iadd, 1, 0, (0, 0, 0, 0, 0, 0)), (44, .iaload, 1, 0, (13, 36, 0, 0, 0, 0)), (45, .goto 4, 3, 0, (0, 0, 0, 0, 0, 0)), (48, .iconst 0, 1, 0, (0, 0, 0, 0, 0, 0)), (49, .ireturn, 1, 0, (0, 0, 0, 0, 0, 0))]
set_option maxRecDepth 100000 in
theorem rk365 : R365.all (rok 2 365 1 [(215, [0, 0, 0])]) = true := by decide +kernel
set_option maxRecDepth 100000 in
theorem tab365 {F215 : PM → Int32 → Int32 → Int32 → Int32} {G215 : PM → Int32 → Int32 → Int32 → Prop} : TabOK 2 365 1 [CC215 F215 G215] R365 := tab_ok (K := K365) rfl rfl (fun h => d365 h) rk365 (by decide +kernel)
set_option maxRecDepth 100000 in
theorem pc365 : cutpc [] R365 = true := by decide +kernel
set_option maxRecDepth 100000 in
theorem r12_position (F215 : PM → Int32 → Int32 → Int32 → Int32) (G215 : PM → Int32 → Int32 → Int32 → Prop) (o215 : CalOK 2 (CC215 F215 G215)) : ∀ (p : PM) (v1 : Int32) (v2 : Int32), Gr 2 p → bg12_position F215 G215 p v1 v2 → ZJ 2 365 0 [zR 12 1, zI v1, zI v2] [] p (hwI (bv12_position F215 p v1 v2)) := by
  intro p v1 v2  hg H
  exact rwI (n := 3000) (q := 0) (la := [zR 12 1, zI v1, zI v2]) (sa := []) (ks := []) (gs := []) (fcons o215 (fnil)) tab365 pc365 trivial hg H
theorem t12_position : ∀ (p : PM) (v1 : Int32) (v2 : Int32), Gr 2 p → g12_position p v1 v2 → ZJ 2 365 0 [zR 12 1, zI v1, zI v2] [] p (hwI (v12_position p v1 v2)) := r12_position v12_in g12_in ok215
def CC365 (F : PM → Int32 → Int32 → Int32 × PM) (G : PM → Int32 → Int32 → Prop) : Cal := (365, [15, 0, 0], 1, false, fun as p => (zI (F p (ai as 1) (ai as 2)).1, (F p (ai as 1) (ai as 2)).2), fun as p => zsw (tc2 as [(112, 1), (0, 0), (0, 0)]) False (G p (ai as 1) (ai as 2)))
set_option maxRecDepth 100000 in
theorem okr365 (F : PM → Int32 → Int32 → Int32 × PM) (G : PM → Int32 → Int32 → Prop) (h : ∀ (p : PM) (v1 : Int32) (v2 : Int32), Gr 2 p → G p v1 v2 → ZJ 2 365 0 [zR 12 1, zI v1, zI v2] [] p (hwI (F p v1 v2))) : CalOK 2 (CC365 F G) := cal_ok (m := 3) (by unfold mL; rw [mX_365]) (fun as p hg H => h p (ai as 1) (ai as 2) hg H)
theorem ok365 : CalOK 2 (CC365 v12_position g12_position) := okr365 v12_position g12_position t12_position
noncomputable def bv12_positionByLog (F365 : PM → Int32 → Int32 → Int32 × PM) (p : PM) (v1 : Int32) (v2 : Int32) : Int32 × PM :=
  let r1 : Int32 × PM := F365 p v1 v2
  (r1.1, r1.2)
noncomputable def v12_positionByLog (p : PM) (v1 : Int32) (v2 : Int32) : Int32 × PM := bv12_positionByLog v12_position p v1 v2
noncomputable def bg12_positionByLog (F365 : PM → Int32 → Int32 → Int32 × PM) (G365 : PM → Int32 → Int32 → Prop) (p : PM) (v1 : Int32) (v2 : Int32) : Prop :=
  (G365 p v1 v2) ∧ (
  let r1 : Int32 × PM := F365 p v1 v2
  True)
noncomputable def g12_positionByLog (p : PM) (v1 : Int32) (v2 : Int32) : Prop := bg12_positionByLog v12_position g12_position p v1 v2
def R352 : List Row := [(0, .aload_n 0, 1, 0, (0, 0, 0, 0, 0, 0)), (1, .iload_n 1, 1, 0, (0, 0, 0, 0, 0, 0)), (2, .iload_n 2, 1, 0, (0, 0, 0, 0, 0, 0)), (3, .invokevirtual 601, 3, 0, (0, 3, 0, 0, 1, 0)), (6, .ireturn, 1, 0, (0, 0, 0, 0, 0, 0))]
set_option maxRecDepth 100000 in
theorem rk352 : R352.all (rok 2 352 1 [(365, [15, 0, 0])]) = true := by decide +kernel
set_option maxRecDepth 100000 in
theorem tab352 {F365 : PM → Int32 → Int32 → Int32 × PM} {G365 : PM → Int32 → Int32 → Prop} : TabOK 2 352 1 [CC365 F365 G365] R352 := tab_ok (K := K352) rfl rfl (fun h => d352 h) rk352 (by decide +kernel)
set_option maxRecDepth 100000 in
theorem pc352 : cutpc [] R352 = true := by decide +kernel
set_option maxRecDepth 100000 in
theorem r12_positionByLog (F365 : PM → Int32 → Int32 → Int32 × PM) (G365 : PM → Int32 → Int32 → Prop) (o365 : CalOK 2 (CC365 F365 G365)) : ∀ (p : PM) (v1 : Int32) (v2 : Int32), Gr 2 p → bg12_positionByLog F365 G365 p v1 v2 → ZJ 2 352 0 [zR 12 1, zI v1, zI v2] [] p (hwI (bv12_positionByLog F365 p v1 v2)) := by
  intro p v1 v2  hg H
  exact rwI (n := 3000) (q := 0) (la := [zR 12 1, zI v1, zI v2]) (sa := []) (ks := []) (gs := []) (fcons o365 (fnil)) tab352 pc352 trivial hg H
theorem t12_positionByLog : ∀ (p : PM) (v1 : Int32) (v2 : Int32), Gr 2 p → g12_positionByLog p v1 v2 → ZJ 2 352 0 [zR 12 1, zI v1, zI v2] [] p (hwI (v12_positionByLog p v1 v2)) := r12_positionByLog v12_position g12_position ok365
def CC352 (F : PM → Int32 → Int32 → Int32 × PM) (G : PM → Int32 → Int32 → Prop) : Cal := (352, [15, 0, 0], 1, false, fun as p => (zI (F p (ai as 1) (ai as 2)).1, (F p (ai as 1) (ai as 2)).2), fun as p => zsw (tc2 as [(112, 1), (0, 0), (0, 0)]) False (G p (ai as 1) (ai as 2)))
set_option maxRecDepth 100000 in
theorem okr352 (F : PM → Int32 → Int32 → Int32 × PM) (G : PM → Int32 → Int32 → Prop) (h : ∀ (p : PM) (v1 : Int32) (v2 : Int32), Gr 2 p → G p v1 v2 → ZJ 2 352 0 [zR 12 1, zI v1, zI v2] [] p (hwI (F p v1 v2))) : CalOK 2 (CC352 F G) := cal_ok (m := 3) (by unfold mL; rw [mX_352]) (fun as p hg H => h p (ai as 1) (ai as 2) hg H)
theorem ok352 : CalOK 2 (CC352 v12_positionByLog g12_positionByLog) := okr352 v12_positionByLog g12_positionByLog t12_positionByLog
noncomputable def bv12_isBook (F215 : PM → Int32 → Int32 → Int32 → Int32) (p : PM) (v1 : Int32) : Int32 × PM :=
  if (F215 p v1 (cn 0) (cn 5)) = 0 then (
    let p1 : PM := pI p 12 1 0 (cn 1)
    if (p1.1 12 1 0) = 0 then (
      ((cn 1), p1))
    else (
      ((cn 0), p1)))
  else (
    let p2 : PM := pI p 12 1 0 (cn 0)
    if (p2.1 12 1 0) = 0 then (
      ((cn 1), p2))
    else (
      ((cn 0), p2)))
noncomputable def v12_isBook (p : PM) (v1 : Int32) : Int32 × PM := bv12_isBook v12_in p v1
noncomputable def bg12_isBook (F215 : PM → Int32 → Int32 → Int32 → Int32) (G215 : PM → Int32 → Int32 → Int32 → Prop) (p : PM) (v1 : Int32) : Prop :=
  (G215 p v1 (cn 0) (cn 5)) ∧ (
  if (F215 p v1 (cn 0) (cn 5)) = 0 then (
    let p1 : PM := pI p 12 1 0 (cn 1)
    if (p1.1 12 1 0) = 0 then (
      True)
    else (
      True))
  else (
    let p2 : PM := pI p 12 1 0 (cn 0)
    if (p2.1 12 1 0) = 0 then (
      True)
    else (
      True)))
noncomputable def g12_isBook (p : PM) (v1 : Int32) : Prop := bg12_isBook v12_in g12_in p v1
def R354 : List Row := [(0, .aload_n 0, 1, 0, (0, 0, 0, 0, 0, 0)), (1, .iload_n 1, 1, 0, (0, 0, 0, 0, 0, 0)), (2, .iconst 0, 1, 0, (0, 0, 0, 0, 0, 0)), (3, .iconst 5, 1, 0, (0, 0, 0, 0, 0, 5)), (4, .invokestatic 209, 3, 0, (0, 3, 0, 0, 0, 0)), (7, .ifCond .eq 7, 3, 0, (0, 0, 0, 0, 0, 0)), (10, .iconst 0, 1, 0, (0, 0, 0, 0, 0, 0)), (11, .goto 4, 3, 0, (0, 0, 0, 0, 0, 0)), (14, .iconst 1, 1, 0, (0, 0, 0, 0, 0, 1)), (15, .putfield 180, 3, 0, (12, 0, 0, 1, 0, 0)), (18, .aload_n 0, 1, 0, (0, 0, 0, 0, 0, 0)), (19, .getfield 180, 3, 0, (12, 0, 0, 1, 0, 0)), (22, .ifCond .ne 7, 3, 0, (0, 0, 0, 0, 0, 0)), (25, .iconst 1, 1, 0, (0, 0, 0, 0, 0, 1)), (26, .goto 4, 3, 0, (0, 0, 0, 0, 0, 0)), (29, .iconst 0, 1, 0, (0, 0, 0, 0, 0, 0)), (30, .ireturn, 1, 0, (1, 0, 0, 0, 0, 0))]
set_option maxRecDepth 100000 in
theorem rk354 : R354.all (rok 2 354 1 [(215, [0, 0, 0])]) = true := by decide +kernel
set_option maxRecDepth 100000 in
theorem tab354 {F215 : PM → Int32 → Int32 → Int32 → Int32} {G215 : PM → Int32 → Int32 → Int32 → Prop} : TabOK 2 354 1 [CC215 F215 G215] R354 := tab_ok (K := K354) rfl rfl (fun h => d354 h) rk354 (by decide +kernel)
set_option maxRecDepth 100000 in
theorem pc354 : cutpc [] R354 = true := by decide +kernel
set_option maxRecDepth 100000 in
theorem r12_isBook (F215 : PM → Int32 → Int32 → Int32 → Int32) (G215 : PM → Int32 → Int32 → Int32 → Prop) (o215 : CalOK 2 (CC215 F215 G215)) : ∀ (p : PM) (v1 : Int32), Gr 2 p → bg12_isBook F215 G215 p v1 → ZJ 2 354 0 [zR 12 1, zI v1] [] p (hwI (bv12_isBook F215 p v1)) := by
  intro p v1  hg H
  exact rwI (n := 3000) (q := 0) (la := [zR 12 1, zI v1]) (sa := []) (ks := []) (gs := []) (fcons o215 (fnil)) tab354 pc354 trivial hg H
theorem t12_isBook : ∀ (p : PM) (v1 : Int32), Gr 2 p → g12_isBook p v1 → ZJ 2 354 0 [zR 12 1, zI v1] [] p (hwI (v12_isBook p v1)) := r12_isBook v12_in g12_in ok215
def CC354 (F : PM → Int32 → Int32 × PM) (G : PM → Int32 → Prop) : Cal := (354, [15, 0], 1, false, fun as p => (zI (F p (ai as 1)).1, (F p (ai as 1)).2), fun as p => zsw (tc2 as [(112, 1), (0, 0)]) False (G p (ai as 1)))
set_option maxRecDepth 100000 in
theorem okr354 (F : PM → Int32 → Int32 × PM) (G : PM → Int32 → Prop) (h : ∀ (p : PM) (v1 : Int32), Gr 2 p → G p v1 → ZJ 2 354 0 [zR 12 1, zI v1] [] p (hwI (F p v1))) : CalOK 2 (CC354 F G) := cal_ok (m := 2) (by unfold mL; rw [mX_354]) (fun as p hg H => h p (ai as 1) hg H)
theorem ok354 : CalOK 2 (CC354 v12_isBook g12_isBook) := okr354 v12_isBook g12_isBook t12_isBook
noncomputable def bv12_best (F240 : PM → Int32 → Int32 → Int32 → Int32) (F354 : PM → Int32 → Int32 × PM) (p : PM) (v1 : Int32) (v2 : Int32) : Int32 × PM :=
  let r1 : Int32 × PM := F354 p v1
  if r1.1 = 0 then (
    ((cn 0), r1.2))
  else (
    ((F240 r1.2 v1 v2 (cn 1)), r1.2))
noncomputable def v12_best (p : PM) (v1 : Int32) (v2 : Int32) : Int32 × PM := bv12_best v12_bestOf v12_isBook p v1 v2
noncomputable def bg12_best (F240 : PM → Int32 → Int32 → Int32 → Int32) (G240 : PM → Int32 → Int32 → Int32 → Prop) (F354 : PM → Int32 → Int32 × PM) (G354 : PM → Int32 → Prop) (p : PM) (v1 : Int32) (v2 : Int32) : Prop :=
  (G354 p v1) ∧ (
  let r1 : Int32 × PM := F354 p v1
  if r1.1 = 0 then (
    True)
  else (
    (G240 r1.2 v1 v2 (cn 1)) ∧ (
    True)))
noncomputable def g12_best (p : PM) (v1 : Int32) (v2 : Int32) : Prop := bg12_best v12_bestOf g12_bestOf v12_isBook g12_isBook p v1 v2
def R355 : List Row := [(0, .aload_n 0, 1, 0, (0, 0, 0, 0, 0, 0)), (1, .iload_n 1, 1, 0, (0, 0, 0, 0, 0, 0)), (2, .invokevirtual 607, 3, 0, (0, 2, 0, 0, 1, 0)), (5, .ifCond .eq 13, 3, 0, (0, 0, 0, 0, 0, 0)), (8, .aload_n 0, 1, 0, (0, 0, 0, 0, 0, 0)), (9, .iload_n 1, 1, 0, (0, 0, 0, 0, 0, 0)), (10, .iload_n 2, 1, 0, (0, 0, 0, 0, 0, 0)), (11, .iconst 1, 1, 0, (0, 0, 0, 0, 0, 1)), (12, .invokevirtual 301, 3, 0, (1, 4, 0, 0, 1, 0)), (15, .goto 4, 3, 0, (0, 0, 0, 0, 0, 0)), (18, .iconst 0, 1, 0, (0, 0, 0, 0, 0, 0)), (19, .ireturn, 1, 0, (0, 0, 0, 0, 0, 0))]
set_option maxRecDepth 100000 in
theorem rk355 : R355.all (rok 2 355 1 [(354, [15, 0]), (240, [15, 0, 0, 0])]) = true := by decide +kernel
set_option maxRecDepth 100000 in
theorem tab355 {F354 : PM → Int32 → Int32 × PM} {G354 : PM → Int32 → Prop} {F240 : PM → Int32 → Int32 → Int32 → Int32} {G240 : PM → Int32 → Int32 → Int32 → Prop} : TabOK 2 355 1 [CC354 F354 G354, CC240 F240 G240] R355 := tab_ok (K := K355) rfl rfl (fun h => d355 h) rk355 (by decide +kernel)
set_option maxRecDepth 100000 in
theorem pc355 : cutpc [] R355 = true := by decide +kernel
set_option maxRecDepth 100000 in
theorem r12_best (F354 : PM → Int32 → Int32 × PM) (G354 : PM → Int32 → Prop) (o354 : CalOK 2 (CC354 F354 G354)) (F240 : PM → Int32 → Int32 → Int32 → Int32) (G240 : PM → Int32 → Int32 → Int32 → Prop) (o240 : CalOK 2 (CC240 F240 G240)) : ∀ (p : PM) (v1 : Int32) (v2 : Int32), Gr 2 p → bg12_best F240 G240 F354 G354 p v1 v2 → ZJ 2 355 0 [zR 12 1, zI v1, zI v2] [] p (hwI (bv12_best F240 F354 p v1 v2)) := by
  intro p v1 v2  hg H
  exact rwI (n := 3000) (q := 0) (la := [zR 12 1, zI v1, zI v2]) (sa := []) (ks := []) (gs := []) (fcons o354 (fcons o240 (fnil))) tab355 pc355 trivial hg H
theorem t12_best : ∀ (p : PM) (v1 : Int32) (v2 : Int32), Gr 2 p → g12_best p v1 v2 → ZJ 2 355 0 [zR 12 1, zI v1, zI v2] [] p (hwI (v12_best p v1 v2)) := r12_best v12_isBook g12_isBook ok354 v12_bestOf g12_bestOf ok240
def CC355 (F : PM → Int32 → Int32 → Int32 × PM) (G : PM → Int32 → Int32 → Prop) : Cal := (355, [15, 0, 0], 1, false, fun as p => (zI (F p (ai as 1) (ai as 2)).1, (F p (ai as 1) (ai as 2)).2), fun as p => zsw (tc2 as [(112, 1), (0, 0), (0, 0)]) False (G p (ai as 1) (ai as 2)))
set_option maxRecDepth 100000 in
theorem okr355 (F : PM → Int32 → Int32 → Int32 × PM) (G : PM → Int32 → Int32 → Prop) (h : ∀ (p : PM) (v1 : Int32) (v2 : Int32), Gr 2 p → G p v1 v2 → ZJ 2 355 0 [zR 12 1, zI v1, zI v2] [] p (hwI (F p v1 v2))) : CalOK 2 (CC355 F G) := cal_ok (m := 3) (by unfold mL; rw [mX_355]) (fun as p hg H => h p (ai as 1) (ai as 2) hg H)
theorem ok355 : CalOK 2 (CC355 v12_best g12_best) := okr355 v12_best g12_best t12_best
noncomputable def bv12_bestByLog (F355 : PM → Int32 → Int32 → Int32 × PM) (p : PM) (v1 : Int32) (v2 : Int32) : Int32 × PM :=
  let r1 : Int32 × PM := F355 p v1 v2
  (r1.1, r1.2)
noncomputable def v12_bestByLog (p : PM) (v1 : Int32) (v2 : Int32) : Int32 × PM := bv12_bestByLog v12_best p v1 v2
noncomputable def bg12_bestByLog (F355 : PM → Int32 → Int32 → Int32 × PM) (G355 : PM → Int32 → Int32 → Prop) (p : PM) (v1 : Int32) (v2 : Int32) : Prop :=
  (G355 p v1 v2) ∧ (
  let r1 : Int32 × PM := F355 p v1 v2
  True)
noncomputable def g12_bestByLog (p : PM) (v1 : Int32) (v2 : Int32) : Prop := bg12_bestByLog v12_best g12_best p v1 v2
def R353 : List Row := [(0, .aload_n 0, 1, 0, (0, 0, 0, 0, 0, 0)), (1, .iload_n 1, 1, 0, (0, 0, 0, 0, 0, 0)), (2, .iload_n 2, 1, 0, (0, 0, 0, 0, 0, 0)), (3, .invokevirtual 604, 3, 0, (0, 3, 0, 0, 1, 0)), (6, .ireturn, 1, 0, (0, 0, 0, 0, 0, 0))]
set_option maxRecDepth 100000 in
theorem rk353 : R353.all (rok 2 353 1 [(355, [15, 0, 0])]) = true := by decide +kernel
set_option maxRecDepth 100000 in
theorem tab353 {F355 : PM → Int32 → Int32 → Int32 × PM} {G355 : PM → Int32 → Int32 → Prop} : TabOK 2 353 1 [CC355 F355 G355] R353 := tab_ok (K := K353) rfl rfl (fun h => d353 h) rk353 (by decide +kernel)
set_option maxRecDepth 100000 in
theorem pc353 : cutpc [] R353 = true := by decide +kernel
set_option maxRecDepth 100000 in
theorem r12_bestByLog (F355 : PM → Int32 → Int32 → Int32 × PM) (G355 : PM → Int32 → Int32 → Prop) (o355 : CalOK 2 (CC355 F355 G355)) : ∀ (p : PM) (v1 : Int32) (v2 : Int32), Gr 2 p → bg12_bestByLog F355 G355 p v1 v2 → ZJ 2 353 0 [zR 12 1, zI v1, zI v2] [] p (hwI (bv12_bestByLog F355 p v1 v2)) := by
  intro p v1 v2  hg H
  exact rwI (n := 3000) (q := 0) (la := [zR 12 1, zI v1, zI v2]) (sa := []) (ks := []) (gs := []) (fcons o355 (fnil)) tab353 pc353 trivial hg H
theorem t12_bestByLog : ∀ (p : PM) (v1 : Int32) (v2 : Int32), Gr 2 p → g12_bestByLog p v1 v2 → ZJ 2 353 0 [zR 12 1, zI v1, zI v2] [] p (hwI (v12_bestByLog p v1 v2)) := r12_bestByLog v12_best g12_best ok355
def CC353 (F : PM → Int32 → Int32 → Int32 × PM) (G : PM → Int32 → Int32 → Prop) : Cal := (353, [15, 0, 0], 1, false, fun as p => (zI (F p (ai as 1) (ai as 2)).1, (F p (ai as 1) (ai as 2)).2), fun as p => zsw (tc2 as [(112, 1), (0, 0), (0, 0)]) False (G p (ai as 1) (ai as 2)))
set_option maxRecDepth 100000 in
theorem okr353 (F : PM → Int32 → Int32 → Int32 × PM) (G : PM → Int32 → Int32 → Prop) (h : ∀ (p : PM) (v1 : Int32) (v2 : Int32), Gr 2 p → G p v1 v2 → ZJ 2 353 0 [zR 12 1, zI v1, zI v2] [] p (hwI (F p v1 v2))) : CalOK 2 (CC353 F G) := cal_ok (m := 3) (by unfold mL; rw [mX_353]) (fun as p hg H => h p (ai as 1) (ai as 2) hg H)
theorem ok353 : CalOK 2 (CC353 v12_bestByLog g12_bestByLog) := okr353 v12_bestByLog g12_bestByLog t12_bestByLog
noncomputable def bv12_shown_6 (F226 : PM → Int32 → Int32) (F241 : PM → Int32 → Int32 → Int32 → Int32 → Int32) (F354 : PM → Int32 → Int32 × PM) (kv6 : PM → Int32 → Int32 → Int32 → Int32 → Int32 → Int32 × PM) (p : PM) (v1 : Int32) (v2 : Int32) (v3 : Int32) (v4 : Int32) (v5 : Int32) : Int32 × PM :=
  if v5 < (cn 44) then (
    let r1 : Int32 × PM := F354 p v1
    if r1.1 = 0 then (
      (v4, r1.2))
    else (
      if (F241 r1.2 v5 v1 v2 v3) = 0 then (
        kv6 r1.2 v1 v2 v3 (v4 + (cn 0)) (v5 + (cn 1)))
      else (
        let x2 : Int32 := (v4 + (F226 r1.2 v5))
        kv6 r1.2 v1 v2 v3 x2 (v5 + (cn 1)))))
  else (
    (v4, p))
noncomputable def v12_shown_6 (n : Nat) : PM → Int32 → Int32 → Int32 → Int32 → Int32 → Int32 × PM := Nat.rec (motive := fun _ => PM → Int32 → Int32 → Int32 → Int32 → Int32 → Int32 × PM) (fun p _ _ _ _ _ => (0, p)) (fun _ ih => bv12_shown_6 v12_showsNow v12_isAt v12_isBook ih) n
theorem ev12_shown_6 (n : Nat) (p : PM) (v1 : Int32) (v2 : Int32) (v3 : Int32) (v4 : Int32) (v5 : Int32) : v12_shown_6 (n + 1) p v1 v2 v3 v4 v5 = bv12_shown_6 v12_showsNow v12_isAt v12_isBook (v12_shown_6 n) p v1 v2 v3 v4 v5 := rfl
noncomputable def bg12_shown_6 (F226 : PM → Int32 → Int32) (G226 : PM → Int32 → Prop) (F241 : PM → Int32 → Int32 → Int32 → Int32 → Int32) (G241 : PM → Int32 → Int32 → Int32 → Int32 → Prop) (F354 : PM → Int32 → Int32 × PM) (G354 : PM → Int32 → Prop) (kg6 : PM → Int32 → Int32 → Int32 → Int32 → Int32 → Prop) (p : PM) (v1 : Int32) (v2 : Int32) (v3 : Int32) (v4 : Int32) (v5 : Int32) : Prop :=
  if v5 < (cn 44) then (
    (G354 p v1) ∧ (
    let r1 : Int32 × PM := F354 p v1
    if r1.1 = 0 then (
      True)
    else (
      (G241 r1.2 v5 v1 v2 v3) ∧ (
      if (F241 r1.2 v5 v1 v2 v3) = 0 then (
        kg6 r1.2 v1 v2 v3 (v4 + (cn 0)) (v5 + (cn 1)))
      else (
        (G226 r1.2 v5) ∧ (
        let x2 : Int32 := (v4 + (F226 r1.2 v5))
        kg6 r1.2 v1 v2 v3 x2 (v5 + (cn 1))))))))
  else (
    True)
noncomputable def g12_shown_6 (n : Nat) : PM → Int32 → Int32 → Int32 → Int32 → Int32 → Prop := Nat.rec (motive := fun _ => PM → Int32 → Int32 → Int32 → Int32 → Int32 → Prop) (fun _ _ _ _ _ _ => False) (fun _ ih => bg12_shown_6 v12_showsNow g12_showsNow v12_isAt g12_isAt v12_isBook g12_isBook ih) n
theorem eg12_shown_6 (n : Nat) (p : PM) (v1 : Int32) (v2 : Int32) (v3 : Int32) (v4 : Int32) (v5 : Int32) : g12_shown_6 (n + 1) p v1 v2 v3 v4 v5 = bg12_shown_6 v12_showsNow g12_showsNow v12_isAt g12_isAt v12_isBook g12_isBook (g12_shown_6 n) p v1 v2 v3 v4 v5 := rfl
noncomputable def bv12_shown (kv6 : PM → Int32 → Int32 → Int32 → Int32 → Int32 → Int32 × PM) (p : PM) (v1 : Int32) (v2 : Int32) (v3 : Int32) : Int32 × PM :=
  kv6 p v1 v2 v3 (cn 0) (cn 0)
noncomputable def v12_shown (p : PM) (v1 : Int32) (v2 : Int32) (v3 : Int32) : Int32 × PM := bv12_shown (v12_shown_6 FU) p v1 v2 v3
noncomputable def bg12_shown (kg6 : PM → Int32 → Int32 → Int32 → Int32 → Int32 → Prop) (p : PM) (v1 : Int32) (v2 : Int32) (v3 : Int32) : Prop :=
  kg6 p v1 v2 v3 (cn 0) (cn 0)
noncomputable def g12_shown (p : PM) (v1 : Int32) (v2 : Int32) (v3 : Int32) : Prop := bg12_shown (g12_shown_6 FU) p v1 v2 v3
def R356 : List Row := [(0, .iconst 0, 1, 0, (0, 0, 0, 0, 0, 0)), (1, .istore 4, 2, 0, (0, 0, 0, 0, 0, 0)), (3, .iconst 0, 1, 0, (0, 0, 0, 0, 0, 0)), (4, .istore 5, 2, 0, (0, 0, 0, 0, 0, 0)), (6, .iload 5, 2, 1, (0, 0, 0, 0, 0, 0)), (8, .bipush 44, 2, 0, (0, 0, 0, 0, 0, 44)), (10, .if_icmp .ge 44, 3, 0, (0, 0, 0, 0, 0, 0)), (13, .aload_n 0, 1, 0, (0, 0, 0, 0, 0, 0)), (14, .iload_n 1, 1, 0, (0, 0, 0, 0, 0, 0)), (15, .invokevirtual 607, 3, 0, (0, 2, 0, 0, 1, 0)), (18, .ifCond .eq 36, 3, 0, (0, 0, 0, 0, 0, 0)), (21, .iload 4, 2, 0, (0, 0, 0, 0, 0, 0)), (23, .aload_n 0, 1, 0, (0, 0, 0, 0, 0, 0)), (24, .iload 5, 2, 0, (0, 0, 0, 0, 0, 0)), (26, .iload_n 1, 1, 0, (0, 0, 0, 0, 0, 0)), (27, .iload_n 2, 1, 0, (0, 0, 0, 0, 0, 0)), (28, .iload_n 3, 1, 0, (0, 0, 0, 0, 0, 0)), (29, .invokevirtual 251, 3, 0, (1, 5, 0, 0, 1, 0)), (32, .ifCond .eq 12, 3, 0, (0, 0, 0, 0, 0, 0)), (35, .aload_n 0, 1, 0, (0, 0, 0, 0, 0, 0)), (36, .iload 5, 2, 0, (0, 0, 0, 0, 0, 0)), (38, .invokevirtual 258, 3, 0, (2, 2, 0, 0, 1, 0)), (41, .goto 4, 3, 0, (0, 0, 0, 0, 0, 0)), (44, .iconst 0, 1, 0, (0, 0, 0, 0, 0, 0)), (45, .iadd, 1, 0, (0, 0, 0, 0, 0, 0)), (46, .istore 4, 2, 0, (0, 0, 0, 0, 0, 0)), (48, .iinc 5 1, 3, 0, (0, 0, 0, 0, 0, 1)), (51, .goto (-45), 3, 0, (0, 0, 0, 0, 0, 0)), (54, .iload 4, 2, 0, (0, 0, 0, 0, 0, 0)), (56, .ireturn, 1, 0, (0, 0, 0, 0, 0, 0))]
set_option maxRecDepth 100000 in
theorem rk356 : R356.all (rok 2 356 1 [(354, [15, 0]), (241, [15, 0, 0, 0, 0]), (226, [15, 0])]) = true := by decide +kernel
set_option maxRecDepth 100000 in
theorem tab356 {F354 : PM → Int32 → Int32 × PM} {G354 : PM → Int32 → Prop} {F241 : PM → Int32 → Int32 → Int32 → Int32 → Int32} {G241 : PM → Int32 → Int32 → Int32 → Int32 → Prop} {F226 : PM → Int32 → Int32} {G226 : PM → Int32 → Prop} : TabOK 2 356 1 [CC354 F354 G354, CC241 F241 G241, CC226 F226 G226] R356 := tab_ok (K := K356) rfl rfl (fun h => d356 h) rk356 (by decide +kernel)
set_option maxRecDepth 100000 in
theorem pc356 : cutpc [6] R356 = true := by decide +kernel
set_option maxRecDepth 100000 in
theorem r12_shown_6 (F354 : PM → Int32 → Int32 × PM) (G354 : PM → Int32 → Prop) (o354 : CalOK 2 (CC354 F354 G354)) (F241 : PM → Int32 → Int32 → Int32 → Int32 → Int32) (G241 : PM → Int32 → Int32 → Int32 → Int32 → Prop) (o241 : CalOK 2 (CC241 F241 G241)) (F226 : PM → Int32 → Int32) (G226 : PM → Int32 → Prop) (o226 : CalOK 2 (CC226 F226 G226)) (kv6 : PM → Int32 → Int32 → Int32 → Int32 → Int32 → Int32 × PM) (kg6 : PM → Int32 → Int32 → Int32 → Int32 → Int32 → Prop) (hk6 : ∀ (p : PM) (v1 : Int32) (v2 : Int32) (v3 : Int32) (v4 : Int32) (v5 : Int32), Gr 2 p → kg6 p v1 v2 v3 v4 v5 → ZJ 2 356 6 [zR 12 1, zI v1, zI v2, zI v3, zI v4, zI v5] [] p (hwI (kv6 p v1 v2 v3 v4 v5))) : ∀ (p : PM) (v1 : Int32) (v2 : Int32) (v3 : Int32) (v4 : Int32) (v5 : Int32), Gr 2 p → bg12_shown_6 F226 G226 F241 G241 F354 G354 kg6 p v1 v2 v3 v4 v5 → ZJ 2 356 6 [zR 12 1, zI v1, zI v2, zI v3, zI v4, zI v5] [] p (hwI (bv12_shown_6 F226 F241 F354 kv6 p v1 v2 v3 v4 v5)) := by
  intro p v1 v2 v3 v4 v5  hg H
  exact rwI (n := 3000) (q := 6) (la := [zR 12 1, zI v1, zI v2, zI v3, zI v4, zI v5]) (sa := []) (ks := [fun la sa s => kv6 s (ai la 1) (ai la 2) (ai la 3) (ai la 4) (ai la 5)]) (gs := [fun la sa s => zsw (tc2 la [(112, 1), (0, 0), (0, 0), (0, 0), (0, 0), (0, 0)] && tc2 sa []) False (kg6 s (ai la 1) (ai la 2) (ai la 3) (ai la 4) (ai la 5))]) (fcons o354 (fcons o241 (fcons o226 (fnil)))) tab356 pc356 ⟨fun la sa s hg H => zcut H fun H => hk6 s (ai la 1) (ai la 2) (ai la 3) (ai la 4) (ai la 5) hg H, trivial⟩ hg H
theorem t12_shown_6 : ∀ (n : Nat), ∀ (p : PM) (v1 : Int32) (v2 : Int32) (v3 : Int32) (v4 : Int32) (v5 : Int32), Gr 2 p → g12_shown_6 n p v1 v2 v3 v4 v5 → ZJ 2 356 6 [zR 12 1, zI v1, zI v2, zI v3, zI v4, zI v5] [] p (hwI (v12_shown_6 n p v1 v2 v3 v4 v5)) := by
  intro n
  induction n with
  | zero =>
    intro p v1 v2 v3 v4 v5  hg H
    exact H.elim
  | succ n ih => exact r12_shown_6 v12_isBook g12_isBook ok354 v12_isAt g12_isAt ok241 v12_showsNow g12_showsNow ok226 (v12_shown_6 n) (g12_shown_6 n) ih
set_option maxRecDepth 100000 in
theorem r12_shown (F354 : PM → Int32 → Int32 × PM) (G354 : PM → Int32 → Prop) (o354 : CalOK 2 (CC354 F354 G354)) (F241 : PM → Int32 → Int32 → Int32 → Int32 → Int32) (G241 : PM → Int32 → Int32 → Int32 → Int32 → Prop) (o241 : CalOK 2 (CC241 F241 G241)) (F226 : PM → Int32 → Int32) (G226 : PM → Int32 → Prop) (o226 : CalOK 2 (CC226 F226 G226)) (kv6 : PM → Int32 → Int32 → Int32 → Int32 → Int32 → Int32 × PM) (kg6 : PM → Int32 → Int32 → Int32 → Int32 → Int32 → Prop) (hk6 : ∀ (p : PM) (v1 : Int32) (v2 : Int32) (v3 : Int32) (v4 : Int32) (v5 : Int32), Gr 2 p → kg6 p v1 v2 v3 v4 v5 → ZJ 2 356 6 [zR 12 1, zI v1, zI v2, zI v3, zI v4, zI v5] [] p (hwI (kv6 p v1 v2 v3 v4 v5))) : ∀ (p : PM) (v1 : Int32) (v2 : Int32) (v3 : Int32), Gr 2 p → bg12_shown kg6 p v1 v2 v3 → ZJ 2 356 0 [zR 12 1, zI v1, zI v2, zI v3, zJ, zJ] [] p (hwI (bv12_shown kv6 p v1 v2 v3)) := by
  intro p v1 v2 v3  hg H
  exact rwI (n := 3000) (q := 0) (la := [zR 12 1, zI v1, zI v2, zI v3, zJ, zJ]) (sa := []) (ks := [fun la sa s => kv6 s (ai la 1) (ai la 2) (ai la 3) (ai la 4) (ai la 5)]) (gs := [fun la sa s => zsw (tc2 la [(112, 1), (0, 0), (0, 0), (0, 0), (0, 0), (0, 0)] && tc2 sa []) False (kg6 s (ai la 1) (ai la 2) (ai la 3) (ai la 4) (ai la 5))]) (fcons o354 (fcons o241 (fcons o226 (fnil)))) tab356 pc356 ⟨fun la sa s hg H => zcut H fun H => hk6 s (ai la 1) (ai la 2) (ai la 3) (ai la 4) (ai la 5) hg H, trivial⟩ hg H
theorem t12_shown : ∀ (p : PM) (v1 : Int32) (v2 : Int32) (v3 : Int32), Gr 2 p → g12_shown p v1 v2 v3 → ZJ 2 356 0 [zR 12 1, zI v1, zI v2, zI v3, zJ, zJ] [] p (hwI (v12_shown p v1 v2 v3)) := r12_shown v12_isBook g12_isBook ok354 v12_isAt g12_isAt ok241 v12_showsNow g12_showsNow ok226 (v12_shown_6 FU) (g12_shown_6 FU) (t12_shown_6 FU)
def CC356 (F : PM → Int32 → Int32 → Int32 → Int32 × PM) (G : PM → Int32 → Int32 → Int32 → Prop) : Cal := (356, [15, 0, 0, 0], 1, false, fun as p => (zI (F p (ai as 1) (ai as 2) (ai as 3)).1, (F p (ai as 1) (ai as 2) (ai as 3)).2), fun as p => zsw (tc2 as [(112, 1), (0, 0), (0, 0), (0, 0)]) False (G p (ai as 1) (ai as 2) (ai as 3)))
set_option maxRecDepth 100000 in
theorem okr356 (F : PM → Int32 → Int32 → Int32 → Int32 × PM) (G : PM → Int32 → Int32 → Int32 → Prop) (h : ∀ (p : PM) (v1 : Int32) (v2 : Int32) (v3 : Int32), Gr 2 p → G p v1 v2 v3 → ZJ 2 356 0 [zR 12 1, zI v1, zI v2, zI v3, zJ, zJ] [] p (hwI (F p v1 v2 v3))) : CalOK 2 (CC356 F G) := cal_ok (m := 6) (by unfold mL; rw [mX_356]) (fun as p hg H => h p (ai as 1) (ai as 2) (ai as 3) hg H)
theorem ok356 : CalOK 2 (CC356 v12_shown g12_shown) := okr356 v12_shown g12_shown t12_shown
noncomputable def bv12_stateOf (F223 : PM → Int32 → Int32) (p : PM) (v1 : Int32) : Int32 × PM :=
  let p1 : PM := pI p 12 1 0 (cn 0)
  if (F223 p1 v1) < 0 then (
    ((cn 0), p1))
  else (
    ((p1.1 13 24 ((F223 p1 v1)).toNatClampNeg), p1))
noncomputable def v12_stateOf (p : PM) (v1 : Int32) : Int32 × PM := bv12_stateOf v12_placeOf p v1
noncomputable def bg12_stateOf (F223 : PM → Int32 → Int32) (G223 : PM → Int32 → Prop) (p : PM) (v1 : Int32) : Prop :=
  let p1 : PM := pI p 12 1 0 (cn 0)
  (G223 p1 v1) ∧ (
  if (F223 p1 v1) < 0 then (
    True)
  else (
    (inb (F223 p1 v1) 44) ∧ (
    True)))
noncomputable def g12_stateOf (p : PM) (v1 : Int32) : Prop := bg12_stateOf v12_placeOf g12_placeOf p v1
def R357 : List Row := [(0, .aload_n 0, 1, 0, (0, 0, 0, 0, 0, 0)), (1, .iconst 0, 1, 0, (0, 0, 0, 0, 0, 0)), (2, .putfield 180, 3, 0, (12, 0, 0, 1, 0, 0)), (5, .aload_n 0, 1, 0, (0, 0, 0, 0, 0, 0)), (6, .iload_n 1, 1, 0, (0, 0, 0, 0, 0, 0)), (7, .invokevirtual 449, 3, 0, (0, 2, 0, 0, 1, 0)), (10, .istore_n 2, 1, 0, (0, 0, 0, 0, 0, 0)), (11, .iload_n 2, 1, 0, (0, 0, 0, 0, 0, 0)), (12, .ifCond .ge 7, 3, 0, (0, 0, 0, 0, 0, 0)), (15, .iconst 0, 1, 0, (0, 0, 0, 0, 0, 0)), (16, .goto 9, 3, 0, (0, 0, 0, 0, 0, 0)), (19, .aload_n 0, 1, 0, (0, 0, 0, 0, 0, 0)), (20, .getfield 99, 3, 0, (12, 32, 16, 2, 24, 0)), (23, .iload_n 2, 1, 0, (0, 0, 0, 0, 0, 0)), (24, .iaload, 1, 0, (13, 44, 0, 0, 0, 0)), (25, .ireturn, 1, 0, (0, 0, 0, 0, 0, 0))]
set_option maxRecDepth 100000 in
theorem rk357 : R357.all (rok 2 357 1 [(223, [15, 0])]) = true := by decide +kernel
set_option maxRecDepth 100000 in
theorem tab357 {F223 : PM → Int32 → Int32} {G223 : PM → Int32 → Prop} : TabOK 2 357 1 [CC223 F223 G223] R357 := tab_ok (K := K357) rfl rfl (fun h => d357 h) rk357 (by decide +kernel)
set_option maxRecDepth 100000 in
theorem pc357 : cutpc [] R357 = true := by decide +kernel
set_option maxRecDepth 100000 in
theorem r12_stateOf (F223 : PM → Int32 → Int32) (G223 : PM → Int32 → Prop) (o223 : CalOK 2 (CC223 F223 G223)) : ∀ (p : PM) (v1 : Int32), Gr 2 p → bg12_stateOf F223 G223 p v1 → ZJ 2 357 0 [zR 12 1, zI v1, zJ] [] p (hwI (bv12_stateOf F223 p v1)) := by
  intro p v1  hg H
  exact rwI (n := 3000) (q := 0) (la := [zR 12 1, zI v1, zJ]) (sa := []) (ks := []) (gs := []) (fcons o223 (fnil)) tab357 pc357 trivial hg H
theorem t12_stateOf : ∀ (p : PM) (v1 : Int32), Gr 2 p → g12_stateOf p v1 → ZJ 2 357 0 [zR 12 1, zI v1, zJ] [] p (hwI (v12_stateOf p v1)) := r12_stateOf v12_placeOf g12_placeOf ok223
def CC357 (F : PM → Int32 → Int32 × PM) (G : PM → Int32 → Prop) : Cal := (357, [15, 0], 1, false, fun as p => (zI (F p (ai as 1)).1, (F p (ai as 1)).2), fun as p => zsw (tc2 as [(112, 1), (0, 0)]) False (G p (ai as 1)))
set_option maxRecDepth 100000 in
theorem okr357 (F : PM → Int32 → Int32 × PM) (G : PM → Int32 → Prop) (h : ∀ (p : PM) (v1 : Int32), Gr 2 p → G p v1 → ZJ 2 357 0 [zR 12 1, zI v1, zJ] [] p (hwI (F p v1))) : CalOK 2 (CC357 F G) := cal_ok (m := 3) (by unfold mL; rw [mX_357]) (fun as p hg H => h p (ai as 1) hg H)
theorem ok357 : CalOK 2 (CC357 v12_stateOf g12_stateOf) := okr357 v12_stateOf g12_stateOf t12_stateOf
noncomputable def bv12_rest (F223 : PM → Int32 → Int32) (p : PM) (v1 : Int32) : Int32 × PM :=
  if (F223 p v1) < 0 then (
    let p2 : PM := pI p 12 1 0 (cn 1)
    if (F223 p v1) < 0 then (
      ((cn 0), p2))
    else (
      ((p2.1 13 17 ((F223 p v1)).toNatClampNeg), p2)))
  else (
    let p1 : PM := pI p 12 1 0 (cn 0)
    if (F223 p v1) < 0 then (
      ((cn 0), p1))
    else (
      ((p1.1 13 17 ((F223 p v1)).toNatClampNeg), p1)))
noncomputable def v12_rest (p : PM) (v1 : Int32) : Int32 × PM := bv12_rest v12_placeOf p v1
noncomputable def bg12_rest (F223 : PM → Int32 → Int32) (G223 : PM → Int32 → Prop) (p : PM) (v1 : Int32) : Prop :=
  (G223 p v1) ∧ (
  if (F223 p v1) < 0 then (
    let p2 : PM := pI p 12 1 0 (cn 1)
    if (F223 p v1) < 0 then (
      True)
    else (
      (inb (F223 p v1) 44) ∧ (
      True)))
  else (
    let p1 : PM := pI p 12 1 0 (cn 0)
    if (F223 p v1) < 0 then (
      True)
    else (
      (inb (F223 p v1) 44) ∧ (
      True))))
noncomputable def g12_rest (p : PM) (v1 : Int32) : Prop := bg12_rest v12_placeOf g12_placeOf p v1
def R358 : List Row := [(0, .aload_n 0, 1, 0, (0, 0, 0, 0, 0, 0)), (1, .iload_n 1, 1, 0, (0, 0, 0, 0, 0, 0)), (2, .invokevirtual 449, 3, 0, (0, 2, 0, 0, 1, 0)), (5, .istore_n 2, 1, 0, (0, 0, 0, 0, 0, 0)), (6, .aload_n 0, 1, 0, (0, 0, 0, 0, 0, 0)), (7, .iload_n 2, 1, 0, (0, 0, 0, 0, 0, 0)), (8, .ifCond .ge 7, 3, 0, (0, 0, 0, 0, 0, 0)), (11, .iconst 1, 1, 0, (0, 0, 0, 0, 0, 1)), (12, .goto 4, 3, 0, (0, 0, 0, 0, 0, 0)), (15, .iconst 0, 1, 0, (0, 0, 0, 0, 0, 0)), (16, .putfield 180, 3, 0, (12, 0, 0, 1, 0, 0)), (19, .iload_n 2, 1, 0, (0, 0, 0, 0, 0, 0)), (20, .ifCond .ge 7, 3, 0, (0, 0, 0, 0, 0, 0)), (23, .iconst 0, 1, 0, (0, 0, 0, 0, 0, 0)), (24, .goto 9, 3, 0, (0, 0, 0, 0, 0, 0)), (27, .aload_n 0, 1, 0, (0, 0, 0, 0, 0, 0)), (28, .getfield 75, 3, 0, (12, 24, 16, 2, 17, 0)), (31, .iload_n 2, 1, 0, (0, 0, 0, 0, 0, 0)), (32, .iaload, 1, 0, (13, 44, 0, 0, 0, 0)), (33, .ireturn, 1, 0, (0, 0, 0, 0, 0, 0))]
set_option maxRecDepth 100000 in
theorem rk358 : R358.all (rok 2 358 1 [(223, [15, 0])]) = true := by decide +kernel
set_option maxRecDepth 100000 in
theorem tab358 {F223 : PM → Int32 → Int32} {G223 : PM → Int32 → Prop} : TabOK 2 358 1 [CC223 F223 G223] R358 := tab_ok (K := K358) rfl rfl (fun h => d358 h) rk358 (by decide +kernel)
set_option maxRecDepth 100000 in
theorem pc358 : cutpc [] R358 = true := by decide +kernel
set_option maxRecDepth 100000 in
theorem r12_rest (F223 : PM → Int32 → Int32) (G223 : PM → Int32 → Prop) (o223 : CalOK 2 (CC223 F223 G223)) : ∀ (p : PM) (v1 : Int32), Gr 2 p → bg12_rest F223 G223 p v1 → ZJ 2 358 0 [zR 12 1, zI v1, zJ] [] p (hwI (bv12_rest F223 p v1)) := by
  intro p v1  hg H
  exact rwI (n := 3000) (q := 0) (la := [zR 12 1, zI v1, zJ]) (sa := []) (ks := []) (gs := []) (fcons o223 (fnil)) tab358 pc358 trivial hg H
theorem t12_rest : ∀ (p : PM) (v1 : Int32), Gr 2 p → g12_rest p v1 → ZJ 2 358 0 [zR 12 1, zI v1, zJ] [] p (hwI (v12_rest p v1)) := r12_rest v12_placeOf g12_placeOf ok223
def CC358 (F : PM → Int32 → Int32 × PM) (G : PM → Int32 → Prop) : Cal := (358, [15, 0], 1, false, fun as p => (zI (F p (ai as 1)).1, (F p (ai as 1)).2), fun as p => zsw (tc2 as [(112, 1), (0, 0)]) False (G p (ai as 1)))
set_option maxRecDepth 100000 in
theorem okr358 (F : PM → Int32 → Int32 × PM) (G : PM → Int32 → Prop) (h : ∀ (p : PM) (v1 : Int32), Gr 2 p → G p v1 → ZJ 2 358 0 [zR 12 1, zI v1, zJ] [] p (hwI (F p v1))) : CalOK 2 (CC358 F G) := cal_ok (m := 3) (by unfold mL; rw [mX_358]) (fun as p hg H => h p (ai as 1) hg H)
theorem ok358 : CalOK 2 (CC358 v12_rest g12_rest) := okr358 v12_rest g12_rest t12_rest
noncomputable def bv12_priceOf (F223 : PM → Int32 → Int32) (p : PM) (v1 : Int32) : Int32 × PM :=
  if (F223 p v1) < 0 then (
    let p2 : PM := pI p 12 1 0 (cn 1)
    if (F223 p v1) < 0 then (
      ((cn 0), p2))
    else (
      if (p2.1 13 24 ((F223 p v1)).toNatClampNeg) = (cn 1) then (
        if (p2.1 15 5 ((F223 p v1)).toNatClampNeg) = 0 then (
          ((p2.1 13 25 ((F223 p v1)).toNatClampNeg), p2))
        else (
          ((cn (-100000)), p2)))
      else (
        ((cn (-100000)), p2))))
  else (
    let p1 : PM := pI p 12 1 0 (cn 0)
    if (F223 p v1) < 0 then (
      ((cn 0), p1))
    else (
      if (p1.1 13 24 ((F223 p v1)).toNatClampNeg) = (cn 1) then (
        if (p1.1 15 5 ((F223 p v1)).toNatClampNeg) = 0 then (
          ((p1.1 13 25 ((F223 p v1)).toNatClampNeg), p1))
        else (
          ((cn (-100000)), p1)))
      else (
        ((cn (-100000)), p1))))
noncomputable def v12_priceOf (p : PM) (v1 : Int32) : Int32 × PM := bv12_priceOf v12_placeOf p v1
noncomputable def bg12_priceOf (F223 : PM → Int32 → Int32) (G223 : PM → Int32 → Prop) (p : PM) (v1 : Int32) : Prop :=
  (G223 p v1) ∧ (
  if (F223 p v1) < 0 then (
    let p2 : PM := pI p 12 1 0 (cn 1)
    if (F223 p v1) < 0 then (
      True)
    else (
      (inb (F223 p v1) 44) ∧ (
      if (p2.1 13 24 ((F223 p v1)).toNatClampNeg) = (cn 1) then (
        (inb (F223 p v1) 44) ∧ (
        if (p2.1 15 5 ((F223 p v1)).toNatClampNeg) = 0 then (
          (inb (F223 p v1) 44) ∧ (
          True))
        else (
          True)))
      else (
        True))))
  else (
    let p1 : PM := pI p 12 1 0 (cn 0)
    if (F223 p v1) < 0 then (
      True)
    else (
      (inb (F223 p v1) 44) ∧ (
      if (p1.1 13 24 ((F223 p v1)).toNatClampNeg) = (cn 1) then (
        (inb (F223 p v1) 44) ∧ (
        if (p1.1 15 5 ((F223 p v1)).toNatClampNeg) = 0 then (
          (inb (F223 p v1) 44) ∧ (
          True))
        else (
          True)))
      else (
        True)))))
noncomputable def g12_priceOf (p : PM) (v1 : Int32) : Prop := bg12_priceOf v12_placeOf g12_placeOf p v1
def R359 : List Row := [(0, .aload_n 0, 1, 0, (0, 0, 0, 0, 0, 0)), (1, .iload_n 1, 1, 0, (0, 0, 0, 0, 0, 0)), (2, .invokevirtual 449, 3, 0, (0, 2, 0, 0, 1, 0)), (5, .istore_n 2, 1, 0, (0, 0, 0, 0, 0, 0)), (6, .aload_n 0, 1, 0, (0, 0, 0, 0, 0, 0)), (7, .iload_n 2, 1, 0, (0, 0, 0, 0, 0, 0)), (8, .ifCond .ge 7, 3, 0, (0, 0, 0, 0, 0, 0)), (11, .iconst 1, 1, 0, (0, 0, 0, 0, 0, 1)), (12, .goto 4, 3, 0, (0, 0, 0, 0, 0, 0)), (15, .iconst 0, 1, 0, (0, 0, 0, 0, 0, 0)), (16, .putfield 180, 3, 0, (12, 0, 0, 1, 0, 0)), (19, .iload_n 2, 1, 0, (0, 0, 0, 0, 0, 0)), (20, .ifCond .ge 7, 3, 0, (0, 0, 0, 0, 0, 0)), (23, .iconst 0, 1, 0, (0, 0, 0, 0, 0, 0)), (24, .goto 33, 3, 0, (0, 0, 0, 0, 0, 0)), (27, .aload_n 0, 1, 0, (0, 0, 0, 0, 0, 0)), (28, .getfield 99, 3, 0, (12, 32, 16, 2, 24, 0)), (31, .iload_n 2, 1, 0, (0, 0, 0, 0, 0, 0)), (32, .iaload, 1, 0, (13, 44, 0, 0, 0, 0)), (33, .iconst 1, 1, 0, (0, 0, 0, 0, 0, 1)), (34, .if_icmp .ne 21, 3, 0, (0, 0, 0, 0, 0, 0)), (37, .aload_n 0, 1, 0, (0, 0, 0, 0, 0, 0)), (38, .getfield 78, 3, 0, (12, 25, 18, 2, 5, 0)), (41, .iload_n 2, 1, 0, (0, 0, 0, 0, 0, 0)), (42, .baload, 1, 0, (15, 44, 0, 0, 0, 0)), (43, .ifCond .ne 12, 3, 0, (0, 0, 0, 0, 0, 0)), (46, .aload_n 0, 1, 0, (0, 0, 0, 0, 0, 0)), (47, .getfield 102, 3, 0, (12, 33, 16, 2, 25, 0)), (50, .iload_n 2, 1, 0, (0, 0, 0, 0, 0, 0)), (51, .iaload, 1, 0, (13, 44, 0, 0, 0, 0)), (52, .goto 5, 3, 0, (0, 0, 0, 0, 0, 0)), (55, .ldc 184, 2, 0, (0, 0, 0, 0, 0, -100000)), (57, .ireturn, 1, 0, (0, 0, 0, 0, 0, 0))]
set_option maxRecDepth 100000 in
theorem rk359 : R359.all (rok 2 359 1 [(223, [15, 0])]) = true := by decide +kernel
set_option maxRecDepth 100000 in
theorem tab359 {F223 : PM → Int32 → Int32} {G223 : PM → Int32 → Prop} : TabOK 2 359 1 [CC223 F223 G223] R359 := tab_ok (K := K359) rfl rfl (fun h => d359 h) rk359 (by decide +kernel)
set_option maxRecDepth 100000 in
theorem pc359 : cutpc [] R359 = true := by decide +kernel
set_option maxRecDepth 100000 in
theorem r12_priceOf (F223 : PM → Int32 → Int32) (G223 : PM → Int32 → Prop) (o223 : CalOK 2 (CC223 F223 G223)) : ∀ (p : PM) (v1 : Int32), Gr 2 p → bg12_priceOf F223 G223 p v1 → ZJ 2 359 0 [zR 12 1, zI v1, zJ] [] p (hwI (bv12_priceOf F223 p v1)) := by
  intro p v1  hg H
  exact rwI (n := 3000) (q := 0) (la := [zR 12 1, zI v1, zJ]) (sa := []) (ks := []) (gs := []) (fcons o223 (fnil)) tab359 pc359 trivial hg H
theorem t12_priceOf : ∀ (p : PM) (v1 : Int32), Gr 2 p → g12_priceOf p v1 → ZJ 2 359 0 [zR 12 1, zI v1, zJ] [] p (hwI (v12_priceOf p v1)) := r12_priceOf v12_placeOf g12_placeOf ok223
def CC359 (F : PM → Int32 → Int32 × PM) (G : PM → Int32 → Prop) : Cal := (359, [15, 0], 1, false, fun as p => (zI (F p (ai as 1)).1, (F p (ai as 1)).2), fun as p => zsw (tc2 as [(112, 1), (0, 0)]) False (G p (ai as 1)))
set_option maxRecDepth 100000 in
theorem okr359 (F : PM → Int32 → Int32 × PM) (G : PM → Int32 → Prop) (h : ∀ (p : PM) (v1 : Int32), Gr 2 p → G p v1 → ZJ 2 359 0 [zR 12 1, zI v1, zJ] [] p (hwI (F p v1))) : CalOK 2 (CC359 F G) := cal_ok (m := 3) (by unfold mL; rw [mX_359]) (fun as p hg H => h p (ai as 1) hg H)
theorem ok359 : CalOK 2 (CC359 v12_priceOf g12_priceOf) := okr359 v12_priceOf g12_priceOf t12_priceOf
noncomputable def bv12_last (F354 : PM → Int32 → Int32 × PM) (p : PM) (v1 : Int32) (v2 : Int32) : Int32 × PM :=
  let r1 : Int32 × PM := F354 p v1
  if r1.1 = 0 then (
    ((cn 0), r1.2))
  else (
    if v2 = 0 then (
      ((r1.2.1 13 10 (v1).toNatClampNeg), r1.2))
    else (
      ((r1.2.1 13 11 (v1).toNatClampNeg), r1.2)))
noncomputable def v12_last (p : PM) (v1 : Int32) (v2 : Int32) : Int32 × PM := bv12_last v12_isBook p v1 v2
noncomputable def bg12_last (F354 : PM → Int32 → Int32 × PM) (G354 : PM → Int32 → Prop) (p : PM) (v1 : Int32) (v2 : Int32) : Prop :=
  (G354 p v1) ∧ (
  let r1 : Int32 × PM := F354 p v1
  if r1.1 = 0 then (
    True)
  else (
    if v2 = 0 then (
      (inb v1 6) ∧ (
      True))
    else (
      (inb v1 6) ∧ (
      True))))
noncomputable def g12_last (p : PM) (v1 : Int32) (v2 : Int32) : Prop := bg12_last v12_isBook g12_isBook p v1 v2
def R360 : List Row := [(0, .aload_n 0, 1, 0, (0, 0, 0, 0, 0, 0)), (1, .iload_n 1, 1, 0, (0, 0, 0, 0, 0, 0)), (2, .invokevirtual 607, 3, 0, (0, 2, 0, 0, 1, 0)), (5, .ifCond .ne 7, 3, 0, (0, 0, 0, 0, 0, 0)), (8, .iconst 0, 1, 0, (0, 0, 0, 0, 0, 0)), (9, .goto 22, 3, 0, (0, 0, 0, 0, 0, 0)), (12, .iload_n 2, 1, 0, (0, 0, 0, 0, 0, 0)), (13, .ifCond .eq 12, 3, 0, (0, 0, 0, 0, 0, 0)), (16, .aload_n 0, 1, 0, (0, 0, 0, 0, 0, 0)), (17, .getfield 48, 3, 0, (12, 13, 16, 2, 11, 0)), (20, .iload_n 1, 1, 0, (0, 0, 0, 0, 0, 0)), (21, .iaload, 1, 0, (13, 6, 0, 0, 0, 0)), (22, .goto 9, 3, 0, (0, 0, 0, 0, 0, 0)), (25, .aload_n 0, 1, 0, (0, 0, 0, 0, 0, 0)), (26, .getfield 45, 3, 0, (12, 12, 16, 2, 10, 0)), (29, .iload_n 1, 1, 0, (0, 0, 0, 0, 0, 0)), (30, .iaload, 1, 0, (13, 6, 0, 0, 0, 0)), (31, .ireturn, 1, 0, (0, 0, 0, 0, 0, 0))]
set_option maxRecDepth 100000 in
theorem rk360 : R360.all (rok 2 360 1 [(354, [15, 0])]) = true := by decide +kernel
set_option maxRecDepth 100000 in
theorem tab360 {F354 : PM → Int32 → Int32 × PM} {G354 : PM → Int32 → Prop} : TabOK 2 360 1 [CC354 F354 G354] R360 := tab_ok (K := K360) rfl rfl (fun h => d360 h) rk360 (by decide +kernel)
set_option maxRecDepth 100000 in
theorem pc360 : cutpc [] R360 = true := by decide +kernel
set_option maxRecDepth 100000 in
theorem r12_last (F354 : PM → Int32 → Int32 × PM) (G354 : PM → Int32 → Prop) (o354 : CalOK 2 (CC354 F354 G354)) : ∀ (p : PM) (v1 : Int32) (v2 : Int32), Gr 2 p → bg12_last F354 G354 p v1 v2 → ZJ 2 360 0 [zR 12 1, zI v1, zI v2] [] p (hwI (bv12_last F354 p v1 v2)) := by
  intro p v1 v2  hg H
  exact rwI (n := 3000) (q := 0) (la := [zR 12 1, zI v1, zI v2]) (sa := []) (ks := []) (gs := []) (fcons o354 (fnil)) tab360 pc360 trivial hg H
theorem t12_last : ∀ (p : PM) (v1 : Int32) (v2 : Int32), Gr 2 p → g12_last p v1 v2 → ZJ 2 360 0 [zR 12 1, zI v1, zI v2] [] p (hwI (v12_last p v1 v2)) := r12_last v12_isBook g12_isBook ok354
def CC360 (F : PM → Int32 → Int32 → Int32 × PM) (G : PM → Int32 → Int32 → Prop) : Cal := (360, [15, 0, 0], 1, false, fun as p => (zI (F p (ai as 1) (ai as 2)).1, (F p (ai as 1) (ai as 2)).2), fun as p => zsw (tc2 as [(112, 1), (0, 0), (0, 0)]) False (G p (ai as 1) (ai as 2)))
set_option maxRecDepth 100000 in
theorem okr360 (F : PM → Int32 → Int32 → Int32 × PM) (G : PM → Int32 → Int32 → Prop) (h : ∀ (p : PM) (v1 : Int32) (v2 : Int32), Gr 2 p → G p v1 v2 → ZJ 2 360 0 [zR 12 1, zI v1, zI v2] [] p (hwI (F p v1 v2))) : CalOK 2 (CC360 F G) := cal_ok (m := 3) (by unfold mL; rw [mX_360]) (fun as p hg H => h p (ai as 1) (ai as 2) hg H)
theorem ok360 : CalOK 2 (CC360 v12_last g12_last) := okr360 v12_last g12_last t12_last
noncomputable def bv12_endOf (F354 : PM → Int32 → Int32 × PM) (p : PM) (v1 : Int32) : Int32 × PM :=
  let r1 : Int32 × PM := F354 p v1
  if r1.1 = 0 then (
    ((cn 0), r1.2))
  else (
    ((r1.2.1 13 12 (v1).toNatClampNeg), r1.2))
noncomputable def v12_endOf (p : PM) (v1 : Int32) : Int32 × PM := bv12_endOf v12_isBook p v1
noncomputable def bg12_endOf (F354 : PM → Int32 → Int32 × PM) (G354 : PM → Int32 → Prop) (p : PM) (v1 : Int32) : Prop :=
  (G354 p v1) ∧ (
  let r1 : Int32 × PM := F354 p v1
  if r1.1 = 0 then (
    True)
  else (
    (inb v1 6) ∧ (
    True)))
noncomputable def g12_endOf (p : PM) (v1 : Int32) : Prop := bg12_endOf v12_isBook g12_isBook p v1
def R361 : List Row := [(0, .aload_n 0, 1, 0, (0, 0, 0, 0, 0, 0)), (1, .iload_n 1, 1, 0, (0, 0, 0, 0, 0, 0)), (2, .invokevirtual 607, 3, 0, (0, 2, 0, 0, 1, 0)), (5, .ifCond .eq 12, 3, 0, (0, 0, 0, 0, 0, 0)), (8, .aload_n 0, 1, 0, (0, 0, 0, 0, 0, 0)), (9, .getfield 51, 3, 0, (12, 14, 16, 2, 12, 0)), (12, .iload_n 1, 1, 0, (0, 0, 0, 0, 0, 0)), (13, .iaload, 1, 0, (13, 6, 0, 0, 0, 0)), (14, .goto 4, 3, 0, (0, 0, 0, 0, 0, 0)), (17, .iconst 0, 1, 0, (0, 0, 0, 0, 0, 0)), (18, .ireturn, 1, 0, (0, 0, 0, 0, 0, 0))]
set_option maxRecDepth 100000 in
theorem rk361 : R361.all (rok 2 361 1 [(354, [15, 0])]) = true := by decide +kernel
set_option maxRecDepth 100000 in
theorem tab361 {F354 : PM → Int32 → Int32 × PM} {G354 : PM → Int32 → Prop} : TabOK 2 361 1 [CC354 F354 G354] R361 := tab_ok (K := K361) rfl rfl (fun h => d361 h) rk361 (by decide +kernel)
set_option maxRecDepth 100000 in
theorem pc361 : cutpc [] R361 = true := by decide +kernel
set_option maxRecDepth 100000 in
theorem r12_endOf (F354 : PM → Int32 → Int32 × PM) (G354 : PM → Int32 → Prop) (o354 : CalOK 2 (CC354 F354 G354)) : ∀ (p : PM) (v1 : Int32), Gr 2 p → bg12_endOf F354 G354 p v1 → ZJ 2 361 0 [zR 12 1, zI v1] [] p (hwI (bv12_endOf F354 p v1)) := by
  intro p v1  hg H
  exact rwI (n := 3000) (q := 0) (la := [zR 12 1, zI v1]) (sa := []) (ks := []) (gs := []) (fcons o354 (fnil)) tab361 pc361 trivial hg H
theorem t12_endOf : ∀ (p : PM) (v1 : Int32), Gr 2 p → g12_endOf p v1 → ZJ 2 361 0 [zR 12 1, zI v1] [] p (hwI (v12_endOf p v1)) := r12_endOf v12_isBook g12_isBook ok354
def CC361 (F : PM → Int32 → Int32 × PM) (G : PM → Int32 → Prop) : Cal := (361, [15, 0], 1, false, fun as p => (zI (F p (ai as 1)).1, (F p (ai as 1)).2), fun as p => zsw (tc2 as [(112, 1), (0, 0)]) False (G p (ai as 1)))
set_option maxRecDepth 100000 in
theorem okr361 (F : PM → Int32 → Int32 × PM) (G : PM → Int32 → Prop) (h : ∀ (p : PM) (v1 : Int32), Gr 2 p → G p v1 → ZJ 2 361 0 [zR 12 1, zI v1] [] p (hwI (F p v1))) : CalOK 2 (CC361 F G) := cal_ok (m := 2) (by unfold mL; rw [mX_361]) (fun as p hg H => h p (ai as 1) hg H)
theorem ok361 : CalOK 2 (CC361 v12_endOf g12_endOf) := okr361 v12_endOf g12_endOf t12_endOf
noncomputable def bv12_indicated (F218 : PM → Int32 → Int32) (F269 : PM → Int32 → PM) (F354 : PM → Int32 → Int32 × PM) (p : PM) (v1 : Int32) (v2 : Int32) : Int32 × PM :=
  let r1 : Int32 × PM := F354 p v1
  if r1.1 = 0 then (
    ((cn 0), r1.2))
  else (
    let p2 : PM := pI r1.2 12 1 65 (cn (-100000))
    let p3 : PM := pI p2 12 1 64 (cn 0)
    if (F218 p3 v1) = 0 then (
      let p4 : PM := F269 p3 v1
      if v2 = 0 then (
        ((p4.1 12 1 65), p4))
      else (
        ((p4.1 12 1 64), p4)))
    else (
      if v2 = 0 then (
        ((p3.1 12 1 65), p3))
      else (
        ((p3.1 12 1 64), p3))))
noncomputable def v12_indicated (p : PM) (v1 : Int32) (v2 : Int32) : Int32 × PM := bv12_indicated v12_isOpen v12_finds v12_isBook p v1 v2
noncomputable def bg12_indicated (F218 : PM → Int32 → Int32) (G218 : PM → Int32 → Prop) (F269 : PM → Int32 → PM) (G269 : PM → Int32 → Prop) (F354 : PM → Int32 → Int32 × PM) (G354 : PM → Int32 → Prop) (p : PM) (v1 : Int32) (v2 : Int32) : Prop :=
  (G354 p v1) ∧ (
  let r1 : Int32 × PM := F354 p v1
  if r1.1 = 0 then (
    True)
  else (
    let p2 : PM := pI r1.2 12 1 65 (cn (-100000))
    let p3 : PM := pI p2 12 1 64 (cn 0)
    (G218 p3 v1) ∧ (
    if (F218 p3 v1) = 0 then (
      (G269 p3 v1) ∧ (
      let p4 : PM := F269 p3 v1
      if v2 = 0 then (
        True)
      else (
        True)))
    else (
      if v2 = 0 then (
        True)
      else (
        True)))))
noncomputable def g12_indicated (p : PM) (v1 : Int32) (v2 : Int32) : Prop := bg12_indicated v12_isOpen g12_isOpen v12_finds g12_finds v12_isBook g12_isBook p v1 v2
def R362 : List Row := [(0, .aload_n 0, 1, 0, (0, 0, 0, 0, 0, 0)), (1, .iload_n 1, 1, 0, (0, 0, 0, 0, 0, 0)), (2, .invokevirtual 607, 3, 0, (0, 2, 0, 0, 1, 0)), (5, .ifCond .ne 5, 3, 0, (0, 0, 0, 0, 0, 0)), (8, .iconst 0, 1, 0, (0, 0, 0, 0, 0, 0)), (9, .ireturn, 1, 0, (0, 0, 0, 0, 0, 0)), (10, .aload_n 0, 1, 0, (0, 0, 0, 0, 0, 0)), (11, .ldc 184, 2, 0, (0, 0, 0, 0, 0, -100000)), (13, .putfield 372, 3, 0, (12, 65, 0, 1, 0, 0)), (16, .aload_n 0, 1, 0, (0, 0, 0, 0, 0, 0)), (17, .iconst 0, 1, 0, (0, 0, 0, 0, 0, 0)), (18, .putfield 375, 3, 0, (12, 64, 0, 1, 0, 0)), (21, .aload_n 0, 1, 0, (0, 0, 0, 0, 0, 0)), (22, .iload_n 1, 1, 0, (0, 0, 0, 0, 0, 0)), (23, .invokevirtual 328, 3, 0, (1, 2, 0, 0, 1, 0)), (26, .ifCond .ne 8, 3, 0, (0, 0, 0, 0, 0, 0)), (29, .aload_n 0, 1, 0, (0, 0, 0, 0, 0, 0)), (30, .iload_n 1, 1, 0, (0, 0, 0, 0, 0, 0)), (31, .invokevirtual 384, 3, 0, (2, 2, 0, 0, 1, 0)), (34, .iload_n 2, 1, 0, (0, 0, 0, 0, 0, 0)), (35, .ifCond .eq 10, 3, 0, (0, 0, 0, 0, 0, 0)), (38, .aload_n 0, 1, 0, (0, 0, 0, 0, 0, 0)), (39, .getfield 375, 3, 0, (12, 64, 0, 1, 0, 0)), (42, .goto 7, 3, 0, (0, 0, 0, 0, 0, 0)), (45, .aload_n 0, 1, 0, (0, 0, 0, 0, 0, 0)), (46, .getfield 372, 3, 0, (12, 65, 0, 1, 0, 0)), (49, .ireturn, 1, 0, (0, 0, 0, 0, 0, 0))]
set_option maxRecDepth 100000 in
theorem rk362 : R362.all (rok 2 362 1 [(354, [15, 0]), (218, [15, 0]), (269, [15, 0])]) = true := by decide +kernel
set_option maxRecDepth 100000 in
theorem tab362 {F354 : PM → Int32 → Int32 × PM} {G354 : PM → Int32 → Prop} {F218 : PM → Int32 → Int32} {G218 : PM → Int32 → Prop} {F269 : PM → Int32 → PM} {G269 : PM → Int32 → Prop} : TabOK 2 362 1 [CC354 F354 G354, CC218 F218 G218, CC269 F269 G269] R362 := tab_ok (K := K362) rfl rfl (fun h => d362 h) rk362 (by decide +kernel)
set_option maxRecDepth 100000 in
theorem pc362 : cutpc [] R362 = true := by decide +kernel
set_option maxRecDepth 100000 in
theorem r12_indicated (F354 : PM → Int32 → Int32 × PM) (G354 : PM → Int32 → Prop) (o354 : CalOK 2 (CC354 F354 G354)) (F218 : PM → Int32 → Int32) (G218 : PM → Int32 → Prop) (o218 : CalOK 2 (CC218 F218 G218)) (F269 : PM → Int32 → PM) (G269 : PM → Int32 → Prop) (o269 : CalOK 2 (CC269 F269 G269)) : ∀ (p : PM) (v1 : Int32) (v2 : Int32), Gr 2 p → bg12_indicated F218 G218 F269 G269 F354 G354 p v1 v2 → ZJ 2 362 0 [zR 12 1, zI v1, zI v2] [] p (hwI (bv12_indicated F218 F269 F354 p v1 v2)) := by
  intro p v1 v2  hg H
  exact rwI (n := 3000) (q := 0) (la := [zR 12 1, zI v1, zI v2]) (sa := []) (ks := []) (gs := []) (fcons o354 (fcons o218 (fcons o269 (fnil)))) tab362 pc362 trivial hg H
theorem t12_indicated : ∀ (p : PM) (v1 : Int32) (v2 : Int32), Gr 2 p → g12_indicated p v1 v2 → ZJ 2 362 0 [zR 12 1, zI v1, zI v2] [] p (hwI (v12_indicated p v1 v2)) := r12_indicated v12_isBook g12_isBook ok354 v12_isOpen g12_isOpen ok218 v12_finds g12_finds ok269
def CC362 (F : PM → Int32 → Int32 → Int32 × PM) (G : PM → Int32 → Int32 → Prop) : Cal := (362, [15, 0, 0], 1, false, fun as p => (zI (F p (ai as 1) (ai as 2)).1, (F p (ai as 1) (ai as 2)).2), fun as p => zsw (tc2 as [(112, 1), (0, 0), (0, 0)]) False (G p (ai as 1) (ai as 2)))
set_option maxRecDepth 100000 in
theorem okr362 (F : PM → Int32 → Int32 → Int32 × PM) (G : PM → Int32 → Int32 → Prop) (h : ∀ (p : PM) (v1 : Int32) (v2 : Int32), Gr 2 p → G p v1 v2 → ZJ 2 362 0 [zR 12 1, zI v1, zI v2] [] p (hwI (F p v1 v2))) : CalOK 2 (CC362 F G) := cal_ok (m := 3) (by unfold mL; rw [mX_362]) (fun as p hg H => h p (ai as 1) (ai as 2) hg H)
theorem ok362 : CalOK 2 (CC362 v12_indicated g12_indicated) := okr362 v12_indicated g12_indicated t12_indicated
noncomputable def bv12_trades (p : PM) : Int32 × PM :=
  let p1 : PM := pI p 12 1 0 (cn 0)
  ((p1.1 12 1 48), p1)
noncomputable def v12_trades (p : PM) : Int32 × PM := bv12_trades p
noncomputable def bg12_trades (p : PM) : Prop :=
  let p1 : PM := pI p 12 1 0 (cn 0)
  True
noncomputable def g12_trades (p : PM) : Prop := bg12_trades p
def R363 : List Row := [(0, .aload_n 0, 1, 0, (0, 0, 0, 0, 0, 0)), (1, .iconst 0, 1, 0, (0, 0, 0, 0, 0, 0)), (2, .putfield 180, 3, 0, (12, 0, 0, 1, 0, 0)), (5, .aload_n 0, 1, 0, (0, 0, 0, 0, 0, 0)), (6, .getfield 206, 3, 0, (12, 48, 0, 1, 0, 0)), (9, .ireturn, 1, 0, (0, 0, 0, 0, 0, 0))]
set_option maxRecDepth 100000 in
theorem rk363 : R363.all (rok 2 363 1 []) = true := by decide +kernel
set_option maxRecDepth 100000 in
theorem tab363 : TabOK 2 363 1 [] R363 := tab_ok (K := K363) rfl rfl (fun h => d363 h) rk363 (by decide +kernel)
set_option maxRecDepth 100000 in
theorem pc363 : cutpc [] R363 = true := by decide +kernel
set_option maxRecDepth 100000 in
theorem r12_trades : ∀ (p : PM), Gr 2 p → bg12_trades p → ZJ 2 363 0 [zR 12 1] [] p (hwI (bv12_trades p)) := by
  intro p   hg H
  exact rwI (n := 3000) (q := 0) (la := [zR 12 1]) (sa := []) (ks := []) (gs := []) (fnil) tab363 pc363 trivial hg H
theorem t12_trades : ∀ (p : PM), Gr 2 p → g12_trades p → ZJ 2 363 0 [zR 12 1] [] p (hwI (v12_trades p)) := r12_trades
def CC363 (F : PM → Int32 × PM) (G : PM → Prop) : Cal := (363, [15], 1, false, fun as p => (zI (F p ).1, (F p ).2), fun as p => zsw (tc2 as [(112, 1)]) False (G p ))
set_option maxRecDepth 100000 in
theorem okr363 (F : PM → Int32 × PM) (G : PM → Prop) (h : ∀ (p : PM), Gr 2 p → G p  → ZJ 2 363 0 [zR 12 1] [] p (hwI (F p ))) : CalOK 2 (CC363 F G) := cal_ok (m := 1) (by unfold mL; rw [mX_363]) (fun as p hg H => h p  hg H)
theorem ok363 : CalOK 2 (CC363 v12_trades g12_trades) := okr363 v12_trades g12_trades t12_trades
noncomputable def bv12_trade_27 (p : PM) (v1 : Int32) (v2 : Int32) (s0 : Int32) : Int32 × PM :=
  let p1 : PM := pI p 12 1 0 s0
  if (p1.1 12 1 0) = 0 then (
    if v2 = 0 then (
      ((p1.1 13 30 ((irm v1 (cn 60))).toNatClampNeg), p1))
    else (
      if v2 = (cn 1) then (
        ((p1.1 13 31 ((irm v1 (cn 60))).toNatClampNeg), p1))
      else (
        if v2 = (cn 2) then (
          ((p1.1 13 32 ((irm v1 (cn 60))).toNatClampNeg), p1))
        else (
          if v2 = (cn 3) then (
            ((p1.1 13 33 ((irm v1 (cn 60))).toNatClampNeg), p1))
          else (
            if v2 = (cn 4) then (
              ((p1.1 13 34 ((irm v1 (cn 60))).toNatClampNeg), p1))
            else (
              if (p1.1 15 7 ((irm v1 (cn 60))).toNatClampNeg) = 0 then (
                ((cn 0), p1))
              else (
                ((cn 1), p1))))))))
  else (
    ((cn 0), p1))
noncomputable def v12_trade_27 (p : PM) (v1 : Int32) (v2 : Int32) (s0 : Int32) : Int32 × PM := bv12_trade_27 p v1 v2 s0
noncomputable def bg12_trade_27 (p : PM) (v1 : Int32) (v2 : Int32) (s0 : Int32) : Prop :=
  let p1 : PM := pI p 12 1 0 s0
  if (p1.1 12 1 0) = 0 then (
    if v2 = 0 then (
      (inb (irm v1 (cn 60)) 60) ∧ (
      True))
    else (
      if v2 = (cn 1) then (
        (inb (irm v1 (cn 60)) 60) ∧ (
        True))
      else (
        if v2 = (cn 2) then (
          (inb (irm v1 (cn 60)) 60) ∧ (
          True))
        else (
          if v2 = (cn 3) then (
            (inb (irm v1 (cn 60)) 60) ∧ (
            True))
          else (
            if v2 = (cn 4) then (
              (inb (irm v1 (cn 60)) 60) ∧ (
              True))
            else (
              (inb (irm v1 (cn 60)) 60) ∧ (
              if (p1.1 15 7 ((irm v1 (cn 60))).toNatClampNeg) = 0 then (
                True)
              else (
                True))))))))
  else (
    True)
noncomputable def g12_trade_27 (p : PM) (v1 : Int32) (v2 : Int32) (s0 : Int32) : Prop := bg12_trade_27 p v1 v2 s0
noncomputable def bv12_trade (F215 : PM → Int32 → Int32 → Int32 → Int32) (F234 : PM → Int32 → Int32) (kv27 : PM → Int32 → Int32 → Int32 → Int32 × PM) (p : PM) (v1 : Int32) (v2 : Int32) : Int32 × PM :=
  if (F234 p v1) = 0 then (
    kv27 p v1 v2 (cn 1))
  else (
    if (F215 p v2 (cn 0) (cn 5)) = 0 then (
      kv27 p v1 v2 (cn 2))
    else (
      kv27 p v1 v2 (cn 0)))
noncomputable def v12_trade (p : PM) (v1 : Int32) (v2 : Int32) : Int32 × PM := bv12_trade v12_in v12_isKept v12_trade_27 p v1 v2
noncomputable def bg12_trade (F215 : PM → Int32 → Int32 → Int32 → Int32) (G215 : PM → Int32 → Int32 → Int32 → Prop) (F234 : PM → Int32 → Int32) (G234 : PM → Int32 → Prop) (kg27 : PM → Int32 → Int32 → Int32 → Prop) (p : PM) (v1 : Int32) (v2 : Int32) : Prop :=
  (G234 p v1) ∧ (
  if (F234 p v1) = 0 then (
    kg27 p v1 v2 (cn 1))
  else (
    (G215 p v2 (cn 0) (cn 5)) ∧ (
    if (F215 p v2 (cn 0) (cn 5)) = 0 then (
      kg27 p v1 v2 (cn 2))
    else (
      kg27 p v1 v2 (cn 0)))))
noncomputable def g12_trade (p : PM) (v1 : Int32) (v2 : Int32) : Prop := bg12_trade v12_in g12_in v12_isKept g12_isKept g12_trade_27 p v1 v2
def R364 : List Row := [(0, .aload_n 0, 1, 0, (0, 0, 0, 0, 0, 0)), (1, .aload_n 0, 1, 0, (0, 0, 0, 0, 0, 0)), (2, .iload_n 1, 1, 0, (0, 0, 0, 0, 0, 0)), (3, .invokevirtual 240, 3, 0, (0, 2, 0, 0, 1, 0)), (6, .ifCond .ne 7, 3, 0, (0, 0, 0, 0, 0, 0)), (9, .iconst 1, 1, 0, (0, 0, 0, 0, 0, 1)), (10, .goto 17, 3, 0, (0, 0, 0, 0, 0, 0)), (13, .iload_n 2, 1, 0, (0, 0, 0, 0, 0, 0)), (14, .iconst 0, 1, 0, (0, 0, 0, 0, 0, 0)), (15, .iconst 5, 1, 0, (0, 0, 0, 0, 0, 5)), (16, .invokestatic 209, 3, 0, (1, 3, 0, 0, 0, 0)), (19, .ifCond .eq 7, 3, 0, (0, 0, 0, 0, 0, 0)), (22, .iconst 0, 1, 0, (0, 0, 0, 0, 0, 0)), (23, .goto 4, 3, 0, (0, 0, 0, 0, 0, 0)), (26, .iconst 2, 1, 0, (0, 0, 0, 0, 0, 2)), (27, .putfield 180, 3, 1, (12, 0, 0, 1, 0, 0)), (30, .aload_n 0, 1, 0, (0, 0, 0, 0, 0, 0)), (31, .getfield 180, 3, 0, (12, 0, 0, 1, 0, 0)), (34, .ifCond .eq 5, 3, 0, (0, 0, 0, 0, 0, 0)), (37, .iconst 0, 1, 0, (0, 0, 0, 0, 0, 0)), (38, .ireturn, 1, 0, (0, 0, 0, 0, 0, 0)), (39, .iload_n 1, 1, 0, (0, 0, 0, 0, 0, 0)), (40, .bipush 60, 2, 0, (0, 0, 0, 0, 0, 60)), (42, .irem, 1, 0, (0, 0, 0, 0, 0, 0)), (43, .istore_n 3, 1, 0, (0, 0, 0, 0, 0, 0)), (44, .iload_n 2, 1, 0, (0, 0, 0, 0, 0, 0)), (45, .ifCond .ne 12, 3, 0, (0, 0, 0, 0, 0, 0)), (48, .aload_n 0, 1, 0, (0, 0, 0, 0, 0, 0)), (49, .getfield 120, 3, 0, (12, 41, 16, 2, 30, 0)), (52, .iload_n 3, 1, 0, (0, 0, 0, 0, 0, 0)), (53, .iaload, 1, 0, (13, 60, 0, 0, 0, 0)), (54, .goto 73, 3, 0, (0, 0, 0, 0, 0, 0)), (57, .iload_n 2, 1, 0, (0, 0, 0, 0, 0, 0)), (58, .iconst 1, 1, 0, (0, 0, 0, 0, 0, 1)), (59, .if_icmp .ne 12, 3, 0, (0, 0, 0, 0, 0, 0)), (62, .aload_n 0, 1, 0, (0, 0, 0, 0, 0, 0)), (63, .getfield 123, 3, 0, (12, 42, 16, 2, 31, 0)), (66, .iload_n 3, 1, 0, (0, 0, 0, 0, 0, 0)), (67, .iaload, 1, 0, (13, 60, 0, 0, 0, 0)), (68, .goto 59, 3, 0, (0, 0, 0, 0, 0, 0)), (71, .iload_n 2, 1, 0, (0, 0, 0, 0, 0, 0)), (72, .iconst 2, 1, 0, (0, 0, 0, 0, 0, 2)), (73, .if_icmp .ne 12, 3, 0, (0, 0, 0, 0, 0, 0)), (76, .aload_n 0, 1, 0, (0, 0, 0, 0, 0, 0)), (77, .getfield 126, 3, 0, (12, 43, 16, 2, 32, 0)), (80, .iload_n 3, 1, 0, (0, 0, 0, 0, 0, 0)), (81, .iaload, 1, 0, (13, 60, 0, 0, 0, 0)), (82, .goto 45, 3, 0, (0, 0, 0, 0, 0, 0)), (85, .iload_n 2, 1, 0, (0, 0, 0, 0, 0, 0)), (86, .iconst 3, 1, 0, (0, 0, 0, 0, 0, 3)), (87, .if_icmp .ne 12, 3, 0, (0, 0, 0, 0, 0, 0)), (90, .aload_n 0, 1, 0, (0, 0, 0, 0, 0, 0)), (91, .getfield 129, 3, 0, (12, 44, 16, 2, 33, 0)), (94, .iload_n 3, 1, 0, (0, 0, 0, 0, 0, 0)), (95, .iaload, 1, 0, (13, 60, 0, 0, 0, 0)), (96, .goto 31, 3, 0, (0, 0, 0, 0, 0, 0)), (99, .iload_n 2, 1, 0, (0, 0, 0, 0, 0, 0)), (100, .iconst 4, 1, 0, (0, 0, 0, 0, 0, 4)), (101, .if_icmp .ne 12, 3, 0, (0, 0, 0, 0, 0, 0)), (104, .aload_n 0, 1, 0, (0, 0, 0, 0, 0, 0)), (105, .getfield 132, 3, 0, (12, 45, 16, 2, 34, 0)), (108, .iload_n 3, 1, 0, (0, 0, 0, 0, 0, 0)), (109, .iaload, 1, 0, (13, 60, 0, 0, 0, 0)), (110, .goto 17, 3, 0, (0, 0, 0, 0, 0, 0)), (113, .aload_n 0, 1, 0, (0, 0, 0, 0, 0, 0)), (114, .getfield 135, 3, 0, (12, 46, 18, 2, 7, 0)), (117, .iload_n 3, 1, 0, (0, 0, 0, 0, 0, 0)), (118, .baload, 1, 0, (15, 60, 0, 0, 0, 0)), (119, .ifCond .eq 7, 3, 0, (0, 0, 0, 0, 0, 0)), (122, .iconst 1, 1, 0, (0, 0, 0, 0, 0, 1)), (123, .goto 4, 3, 0, (0, 0, 0, 0, 0, 0)), (126, .iconst 0, 1, 0, (0, 0, 0, 0, 0, 0)), (127, .ireturn, 1, 0, (0, 0, 0, 0, 0, 0))]
set_option maxRecDepth 100000 in
theorem rk364 : R364.all (rok 2 364 1 [(234, [15, 0]), (215, [0, 0, 0])]) = true := by decide +kernel
set_option maxRecDepth 100000 in
theorem tab364 {F234 : PM → Int32 → Int32} {G234 : PM → Int32 → Prop} {F215 : PM → Int32 → Int32 → Int32 → Int32} {G215 : PM → Int32 → Int32 → Int32 → Prop} : TabOK 2 364 1 [CC234 F234 G234, CC215 F215 G215] R364 := tab_ok (K := K364) rfl rfl (fun h => d364 h) rk364 (by decide +kernel)
set_option maxRecDepth 100000 in
theorem pc364 : cutpc [27] R364 = true := by decide +kernel
set_option maxRecDepth 100000 in
theorem r12_trade_27 (F234 : PM → Int32 → Int32) (G234 : PM → Int32 → Prop) (o234 : CalOK 2 (CC234 F234 G234)) (F215 : PM → Int32 → Int32 → Int32 → Int32) (G215 : PM → Int32 → Int32 → Int32 → Prop) (o215 : CalOK 2 (CC215 F215 G215)) : ∀ (p : PM) (v1 : Int32) (v2 : Int32) (s0 : Int32) (d3 : ZV), Gr 2 p → bg12_trade_27 p v1 v2 s0 → ZJ 2 364 27 [zR 12 1, zI v1, zI v2, d3] [zI s0, zR 12 1] p (hwI (bv12_trade_27 p v1 v2 s0)) := by
  intro p v1 v2 s0 d3 hg H
  exact rwI (n := 3000) (q := 27) (la := [zR 12 1, zI v1, zI v2, d3]) (sa := [zI s0, zR 12 1]) (ks := [fun _ _ s => (0, s)]) (gs := [fun _ _ _ => False]) (fcons o234 (fcons o215 (fnil))) tab364 pc364 ⟨fun _ _ _ _ H => H.elim, trivial⟩ hg H
theorem t12_trade_27 : ∀ (p : PM) (v1 : Int32) (v2 : Int32) (s0 : Int32) (d3 : ZV), Gr 2 p → g12_trade_27 p v1 v2 s0 → ZJ 2 364 27 [zR 12 1, zI v1, zI v2, d3] [zI s0, zR 12 1] p (hwI (v12_trade_27 p v1 v2 s0)) := r12_trade_27 v12_isKept g12_isKept ok234 v12_in g12_in ok215
set_option maxRecDepth 100000 in
theorem r12_trade (F234 : PM → Int32 → Int32) (G234 : PM → Int32 → Prop) (o234 : CalOK 2 (CC234 F234 G234)) (F215 : PM → Int32 → Int32 → Int32 → Int32) (G215 : PM → Int32 → Int32 → Int32 → Prop) (o215 : CalOK 2 (CC215 F215 G215)) (kv27 : PM → Int32 → Int32 → Int32 → Int32 × PM) (kg27 : PM → Int32 → Int32 → Int32 → Prop) (hk27 : ∀ (p : PM) (v1 : Int32) (v2 : Int32) (s0 : Int32) (d3 : ZV), Gr 2 p → kg27 p v1 v2 s0 → ZJ 2 364 27 [zR 12 1, zI v1, zI v2, d3] [zI s0, zR 12 1] p (hwI (kv27 p v1 v2 s0))) : ∀ (p : PM) (v1 : Int32) (v2 : Int32), Gr 2 p → bg12_trade F215 G215 F234 G234 kg27 p v1 v2 → ZJ 2 364 0 [zR 12 1, zI v1, zI v2, zJ] [] p (hwI (bv12_trade F215 F234 kv27 p v1 v2)) := by
  intro p v1 v2  hg H
  exact rwI (n := 3000) (q := 0) (la := [zR 12 1, zI v1, zI v2, zJ]) (sa := []) (ks := [fun la sa s => kv27 s (ai la 1) (ai la 2) (ai sa 0)]) (gs := [fun la sa s => zsw (tc2 la [(112, 1), (0, 0), (0, 0), (2, 0)] && tc2 sa [(0, 0), (112, 1)]) False (kg27 s (ai la 1) (ai la 2) (ai sa 0))]) (fcons o234 (fcons o215 (fnil))) tab364 pc364 ⟨fun la sa s hg H => zcut H fun H => hk27 s (ai la 1) (ai la 2) (ai sa 0) (zld la 3) hg H, trivial⟩ hg H
theorem t12_trade : ∀ (p : PM) (v1 : Int32) (v2 : Int32), Gr 2 p → g12_trade p v1 v2 → ZJ 2 364 0 [zR 12 1, zI v1, zI v2, zJ] [] p (hwI (v12_trade p v1 v2)) := r12_trade v12_isKept g12_isKept ok234 v12_in g12_in ok215 (v12_trade_27) (g12_trade_27) (t12_trade_27)
def CC364 (F : PM → Int32 → Int32 → Int32 × PM) (G : PM → Int32 → Int32 → Prop) : Cal := (364, [15, 0, 0], 1, false, fun as p => (zI (F p (ai as 1) (ai as 2)).1, (F p (ai as 1) (ai as 2)).2), fun as p => zsw (tc2 as [(112, 1), (0, 0), (0, 0)]) False (G p (ai as 1) (ai as 2)))
set_option maxRecDepth 100000 in
theorem okr364 (F : PM → Int32 → Int32 → Int32 × PM) (G : PM → Int32 → Int32 → Prop) (h : ∀ (p : PM) (v1 : Int32) (v2 : Int32), Gr 2 p → G p v1 v2 → ZJ 2 364 0 [zR 12 1, zI v1, zI v2, zJ] [] p (hwI (F p v1 v2))) : CalOK 2 (CC364 F G) := cal_ok (m := 4) (by unfold mL; rw [mX_364]) (fun as p hg H => h p (ai as 1) (ai as 2) hg H)
theorem ok364 : CalOK 2 (CC364 v12_trade g12_trade) := okr364 v12_trade g12_trade t12_trade
noncomputable def bv12_cash (F215 : PM → Int32 → Int32 → Int32 → Int32) (p : PM) (v1 : Int32) : Int64 × PM :=
  if (F215 p v1 (cn 0) (cn 8)) = 0 then (
    let p1 : PM := pI p 12 1 0 (cn 1)
    if (p1.1 12 1 0) = 0 then (
      ((p1.2.1 14 1 (v1).toNatClampNeg), p1))
    else (
      ((cl 0), p1)))
  else (
    let p2 : PM := pI p 12 1 0 (cn 0)
    if (p2.1 12 1 0) = 0 then (
      ((p2.2.1 14 1 (v1).toNatClampNeg), p2))
    else (
      ((cl 0), p2)))
noncomputable def v12_cash (p : PM) (v1 : Int32) : Int64 × PM := bv12_cash v12_in p v1
noncomputable def bg12_cash (F215 : PM → Int32 → Int32 → Int32 → Int32) (G215 : PM → Int32 → Int32 → Int32 → Prop) (p : PM) (v1 : Int32) : Prop :=
  (G215 p v1 (cn 0) (cn 8)) ∧ (
  if (F215 p v1 (cn 0) (cn 8)) = 0 then (
    let p1 : PM := pI p 12 1 0 (cn 1)
    if (p1.1 12 1 0) = 0 then (
      (inb v1 9) ∧ (
      True))
    else (
      True))
  else (
    let p2 : PM := pI p 12 1 0 (cn 0)
    if (p2.1 12 1 0) = 0 then (
      (inb v1 9) ∧ (
      True))
    else (
      True)))
noncomputable def g12_cash (p : PM) (v1 : Int32) : Prop := bg12_cash v12_in g12_in p v1
def R366 : List Row := [(0, .aload_n 0, 1, 0, (0, 0, 0, 0, 0, 0)), (1, .iload_n 1, 1, 0, (0, 0, 0, 0, 0, 0)), (2, .iconst 0, 1, 0, (0, 0, 0, 0, 0, 0)), (3, .bipush 8, 2, 0, (0, 0, 0, 0, 0, 8)), (5, .invokestatic 209, 3, 0, (0, 3, 0, 0, 0, 0)), (8, .ifCond .eq 7, 3, 0, (0, 0, 0, 0, 0, 0)), (11, .iconst 0, 1, 0, (0, 0, 0, 0, 0, 0)), (12, .goto 4, 3, 0, (0, 0, 0, 0, 0, 0)), (15, .iconst 1, 1, 0, (0, 0, 0, 0, 0, 1)), (16, .putfield 180, 3, 0, (12, 0, 0, 1, 0, 0)), (19, .aload_n 0, 1, 0, (0, 0, 0, 0, 0, 0)), (20, .getfield 180, 3, 0, (12, 0, 0, 1, 0, 0)), (23, .ifCond .ne 12, 3, 0, (0, 0, 0, 0, 0, 0)), (26, .aload_n 0, 1, 0, (0, 0, 0, 0, 0, 0)), (27, .getfield 13, 3, 0, (12, 2, 17, 2, 1, 0)), (30, .iload_n 1, 1, 0, (0, 0, 0, 0, 0, 0)), (31, .laload, 1, 0, (14, 9, 0, 0, 0, 0)), (32, .goto 4, 3, 0, (0, 0, 0, 0, 0, 0)), (35, .lconst 0, 1, 0, (0, 0, 0, 0, 0, 0)), (36, .lreturn, 1, 0, (0, 0, 0, 0, 0, 0))]
set_option maxRecDepth 100000 in
theorem rk366 : R366.all (rok 2 366 2 [(215, [0, 0, 0])]) = true := by decide +kernel
set_option maxRecDepth 100000 in
theorem tab366 {F215 : PM → Int32 → Int32 → Int32 → Int32} {G215 : PM → Int32 → Int32 → Int32 → Prop} : TabOK 2 366 2 [CC215 F215 G215] R366 := tab_ok (K := K366) rfl rfl (fun h => d366 h) rk366 (by decide +kernel)
set_option maxRecDepth 100000 in
theorem pc366 : cutpc [] R366 = true := by decide +kernel
set_option maxRecDepth 100000 in
theorem r12_cash (F215 : PM → Int32 → Int32 → Int32 → Int32) (G215 : PM → Int32 → Int32 → Int32 → Prop) (o215 : CalOK 2 (CC215 F215 G215)) : ∀ (p : PM) (v1 : Int32), Gr 2 p → bg12_cash F215 G215 p v1 → ZJ 2 366 0 [zR 12 1, zI v1] [] p (hwL (bv12_cash F215 p v1)) := by
  intro p v1  hg H
  exact rwL (n := 3000) (q := 0) (la := [zR 12 1, zI v1]) (sa := []) (ks := []) (gs := []) (fcons o215 (fnil)) tab366 pc366 trivial hg H
theorem t12_cash : ∀ (p : PM) (v1 : Int32), Gr 2 p → g12_cash p v1 → ZJ 2 366 0 [zR 12 1, zI v1] [] p (hwL (v12_cash p v1)) := r12_cash v12_in g12_in ok215
def CC366 (F : PM → Int32 → Int64 × PM) (G : PM → Int32 → Prop) : Cal := (366, [15, 0], 2, false, fun as p => (zL (F p (ai as 1)).1, (F p (ai as 1)).2), fun as p => zsw (tc2 as [(112, 1), (0, 0)]) False (G p (ai as 1)))
set_option maxRecDepth 100000 in
theorem okr366 (F : PM → Int32 → Int64 × PM) (G : PM → Int32 → Prop) (h : ∀ (p : PM) (v1 : Int32), Gr 2 p → G p v1 → ZJ 2 366 0 [zR 12 1, zI v1] [] p (hwL (F p v1))) : CalOK 2 (CC366 F G) := cal_ok (m := 2) (by unfold mL; rw [mX_366]) (fun as p hg H => h p (ai as 1) hg H)
theorem ok366 : CalOK 2 (CC366 v12_cash g12_cash) := okr366 v12_cash g12_cash t12_cash
noncomputable def bv12_quoted (F280 : PM → Int32 → Int32) (p : PM) (v1 : Int32) : Int32 × PM :=
  if (F280 p v1) = 0 then (
    let p1 : PM := pI p 12 1 0 (cn 1)
    if (p1.1 12 1 0) = 0 then (
      ((p1.1 13 5 (v1).toNatClampNeg), p1))
    else (
      ((cn 0), p1)))
  else (
    let p2 : PM := pI p 12 1 0 (cn 0)
    if (p2.1 12 1 0) = 0 then (
      ((p2.1 13 5 (v1).toNatClampNeg), p2))
    else (
      ((cn 0), p2)))
noncomputable def v12_quoted (p : PM) (v1 : Int32) : Int32 × PM := bv12_quoted v12_isAccount p v1
noncomputable def bg12_quoted (F280 : PM → Int32 → Int32) (G280 : PM → Int32 → Prop) (p : PM) (v1 : Int32) : Prop :=
  (G280 p v1) ∧ (
  if (F280 p v1) = 0 then (
    let p1 : PM := pI p 12 1 0 (cn 1)
    if (p1.1 12 1 0) = 0 then (
      (inb v1 8) ∧ (
      True))
    else (
      True))
  else (
    let p2 : PM := pI p 12 1 0 (cn 0)
    if (p2.1 12 1 0) = 0 then (
      (inb v1 8) ∧ (
      True))
    else (
      True)))
noncomputable def g12_quoted (p : PM) (v1 : Int32) : Prop := bg12_quoted v12_isAccount g12_isAccount p v1
def R367 : List Row := [(0, .aload_n 0, 1, 0, (0, 0, 0, 0, 0, 0)), (1, .iload_n 1, 1, 0, (0, 0, 0, 0, 0, 0)), (2, .invokestatic 429, 3, 0, (0, 1, 0, 0, 0, 0)), (5, .ifCond .eq 7, 3, 0, (0, 0, 0, 0, 0, 0)), (8, .iconst 0, 1, 0, (0, 0, 0, 0, 0, 0)), (9, .goto 4, 3, 0, (0, 0, 0, 0, 0, 0)), (12, .iconst 1, 1, 0, (0, 0, 0, 0, 0, 1)), (13, .putfield 180, 3, 0, (12, 0, 0, 1, 0, 0)), (16, .aload_n 0, 1, 0, (0, 0, 0, 0, 0, 0)), (17, .getfield 180, 3, 0, (12, 0, 0, 1, 0, 0)), (20, .ifCond .ne 12, 3, 0, (0, 0, 0, 0, 0, 0)), (23, .aload_n 0, 1, 0, (0, 0, 0, 0, 0, 0)), (24, .getfield 30, 3, 0, (12, 7, 16, 2, 5, 0)), (27, .iload_n 1, 1, 0, (0, 0, 0, 0, 0, 0)), (28, .iaload, 1, 0, (13, 8, 0, 0, 0, 0)), (29, .goto 4, 3, 0, (0, 0, 0, 0, 0, 0)), (32, .iconst 0, 1, 0, (0, 0, 0, 0, 0, 0)), (33, .ireturn, 1, 0, (0, 0, 0, 0, 0, 0))]
set_option maxRecDepth 100000 in
theorem rk367 : R367.all (rok 2 367 1 [(280, [0])]) = true := by decide +kernel
set_option maxRecDepth 100000 in
theorem tab367 {F280 : PM → Int32 → Int32} {G280 : PM → Int32 → Prop} : TabOK 2 367 1 [CC280 F280 G280] R367 := tab_ok (K := K367) rfl rfl (fun h => d367 h) rk367 (by decide +kernel)
set_option maxRecDepth 100000 in
theorem pc367 : cutpc [] R367 = true := by decide +kernel
set_option maxRecDepth 100000 in
theorem r12_quoted (F280 : PM → Int32 → Int32) (G280 : PM → Int32 → Prop) (o280 : CalOK 2 (CC280 F280 G280)) : ∀ (p : PM) (v1 : Int32), Gr 2 p → bg12_quoted F280 G280 p v1 → ZJ 2 367 0 [zR 12 1, zI v1] [] p (hwI (bv12_quoted F280 p v1)) := by
  intro p v1  hg H
  exact rwI (n := 3000) (q := 0) (la := [zR 12 1, zI v1]) (sa := []) (ks := []) (gs := []) (fcons o280 (fnil)) tab367 pc367 trivial hg H
theorem t12_quoted : ∀ (p : PM) (v1 : Int32), Gr 2 p → g12_quoted p v1 → ZJ 2 367 0 [zR 12 1, zI v1] [] p (hwI (v12_quoted p v1)) := r12_quoted v12_isAccount g12_isAccount ok280
def CC367 (F : PM → Int32 → Int32 × PM) (G : PM → Int32 → Prop) : Cal := (367, [15, 0], 1, false, fun as p => (zI (F p (ai as 1)).1, (F p (ai as 1)).2), fun as p => zsw (tc2 as [(112, 1), (0, 0)]) False (G p (ai as 1)))
set_option maxRecDepth 100000 in
theorem okr367 (F : PM → Int32 → Int32 × PM) (G : PM → Int32 → Prop) (h : ∀ (p : PM) (v1 : Int32), Gr 2 p → G p v1 → ZJ 2 367 0 [zR 12 1, zI v1] [] p (hwI (F p v1))) : CalOK 2 (CC367 F G) := cal_ok (m := 2) (by unfold mL; rw [mX_367]) (fun as p hg H => h p (ai as 1) hg H)
theorem ok367 : CalOK 2 (CC367 v12_quoted g12_quoted) := okr367 v12_quoted g12_quoted t12_quoted
noncomputable def bv12_member_29 (F276 : PM → Int32 → Int64) (F278 : PM → Int32 → Int64) (F307 : PM → Int32 → Int64 × PM) (p : PM) (v1 : Int32) (v2 : Int32) (s0 : Int32) : Int64 × PM :=
  let p1 : PM := pI p 12 1 0 s0
  if (p1.1 12 1 0) = 0 then (
    if v2 = 0 then (
      ((F276 p1 v1), p1))
    else (
      if v2 = (cn 1) then (
        ((F278 p1 v1), p1))
      else (
        if v2 = (cn 2) then (
          let r2 : Int64 × PM := F307 p1 v1
          (r2.1, r2.2))
        else (
          if v2 = (cn 3) then (
            (((p1.1 13 36 (v1).toNatClampNeg)).toInt64, p1))
          else (
            if v2 = (cn 4) then (
              (((p1.1 13 37 (v1).toNatClampNeg)).toInt64, p1))
            else (
              if v2 = (cn 5) then (
                (((p1.1 13 38 (v1).toNatClampNeg)).toInt64, p1))
              else (
                if (p1.1 15 9 (v1).toNatClampNeg) = 0 then (
                  ((cl 0), p1))
                else (
                  ((cl 1), p1)))))))))
  else (
    ((cl 0), p1))
noncomputable def v12_member_29 (p : PM) (v1 : Int32) (v2 : Int32) (s0 : Int32) : Int64 × PM := bv12_member_29 v12_risk v12_value v12_callOf p v1 v2 s0
noncomputable def bg12_member_29 (F276 : PM → Int32 → Int64) (G276 : PM → Int32 → Prop) (F278 : PM → Int32 → Int64) (G278 : PM → Int32 → Prop) (F307 : PM → Int32 → Int64 × PM) (G307 : PM → Int32 → Prop) (p : PM) (v1 : Int32) (v2 : Int32) (s0 : Int32) : Prop :=
  let p1 : PM := pI p 12 1 0 s0
  if (p1.1 12 1 0) = 0 then (
    if v2 = 0 then (
      (G276 p1 v1) ∧ (
      True))
    else (
      if v2 = (cn 1) then (
        (G278 p1 v1) ∧ (
        True))
      else (
        if v2 = (cn 2) then (
          (G307 p1 v1) ∧ (
          let r2 : Int64 × PM := F307 p1 v1
          True))
        else (
          if v2 = (cn 3) then (
            (inb v1 4) ∧ (
            True))
          else (
            if v2 = (cn 4) then (
              (inb v1 4) ∧ (
              True))
            else (
              if v2 = (cn 5) then (
                (inb v1 4) ∧ (
                True))
              else (
                (inb v1 4) ∧ (
                if (p1.1 15 9 (v1).toNatClampNeg) = 0 then (
                  True)
                else (
                  True)))))))))
  else (
    True)
noncomputable def g12_member_29 (p : PM) (v1 : Int32) (v2 : Int32) (s0 : Int32) : Prop := bg12_member_29 v12_risk g12_risk v12_value g12_value v12_callOf g12_callOf p v1 v2 s0
noncomputable def bv12_member (F215 : PM → Int32 → Int32 → Int32 → Int32) (kv29 : PM → Int32 → Int32 → Int32 → Int64 × PM) (p : PM) (v1 : Int32) (v2 : Int32) : Int64 × PM :=
  if (F215 p v1 (cn 0) (cn 3)) = 0 then (
    kv29 p v1 v2 (cn 1))
  else (
    if (F215 p v2 (cn 0) (cn 6)) = 0 then (
      kv29 p v1 v2 (cn 2))
    else (
      kv29 p v1 v2 (cn 0)))
noncomputable def v12_member (p : PM) (v1 : Int32) (v2 : Int32) : Int64 × PM := bv12_member v12_in v12_member_29 p v1 v2
noncomputable def bg12_member (F215 : PM → Int32 → Int32 → Int32 → Int32) (G215 : PM → Int32 → Int32 → Int32 → Prop) (kg29 : PM → Int32 → Int32 → Int32 → Prop) (p : PM) (v1 : Int32) (v2 : Int32) : Prop :=
  (G215 p v1 (cn 0) (cn 3)) ∧ (
  if (F215 p v1 (cn 0) (cn 3)) = 0 then (
    kg29 p v1 v2 (cn 1))
  else (
    (G215 p v2 (cn 0) (cn 6)) ∧ (
    if (F215 p v2 (cn 0) (cn 6)) = 0 then (
      kg29 p v1 v2 (cn 2))
    else (
      kg29 p v1 v2 (cn 0)))))
noncomputable def g12_member (p : PM) (v1 : Int32) (v2 : Int32) : Prop := bg12_member v12_in g12_in g12_member_29 p v1 v2
def R368 : List Row := [(0, .aload_n 0, 1, 0, (0, 0, 0, 0, 0, 0)), (1, .iload_n 1, 1, 0, (0, 0, 0, 0, 0, 0)), (2, .iconst 0, 1, 0, (0, 0, 0, 0, 0, 0)), (3, .iconst 3, 1, 0, (0, 0, 0, 0, 0, 3)), (4, .invokestatic 209, 3, 0, (0, 3, 0, 0, 0, 0)), (7, .ifCond .ne 7, 3, 0, (0, 0, 0, 0, 0, 0)), (10, .iconst 1, 1, 0, (0, 0, 0, 0, 0, 1)), (11, .goto 18, 3, 0, (0, 0, 0, 0, 0, 0)), (14, .iload_n 2, 1, 0, (0, 0, 0, 0, 0, 0)), (15, .iconst 0, 1, 0, (0, 0, 0, 0, 0, 0)), (16, .bipush 6, 2, 0, (0, 0, 0, 0, 0, 6)), (18, .invokestatic 209, 3, 0, (0, 3, 0, 0, 0, 0)), (21, .ifCond .eq 7, 3, 0, (0, 0, 0, 0, 0, 0)), (24, .iconst 0, 1, 0, (0, 0, 0, 0, 0, 0)), (25, .goto 4, 3, 0, (0, 0, 0, 0, 0, 0)), (28, .iconst 2, 1, 0, (0, 0, 0, 0, 0, 2)), (29, .putfield 180, 3, 1, (12, 0, 0, 1, 0, 0)), (32, .aload_n 0, 1, 0, (0, 0, 0, 0, 0, 0)), (33, .getfield 180, 3, 0, (12, 0, 0, 1, 0, 0)), (36, .ifCond .eq 5, 3, 0, (0, 0, 0, 0, 0, 0)), (39, .lconst 0, 1, 0, (0, 0, 0, 0, 0, 0)), (40, .lreturn, 1, 0, (0, 0, 0, 0, 0, 0)), (41, .iload_n 2, 1, 0, (0, 0, 0, 0, 0, 0)), (42, .ifCond .ne 11, 3, 0, (0, 0, 0, 0, 0, 0)), (45, .aload_n 0, 1, 0, (0, 0, 0, 0, 0, 0)), (46, .iload_n 1, 1, 0, (0, 0, 0, 0, 0, 0)), (47, .invokevirtual 411, 3, 0, (3, 2, 0, 0, 1, 0)), (50, .goto 88, 3, 0, (0, 0, 0, 0, 0, 0)), (53, .iload_n 2, 1, 0, (0, 0, 0, 0, 0, 0)), (54, .iconst 1, 1, 0, (0, 0, 0, 0, 0, 1)), (55, .if_icmp .ne 11, 3, 0, (0, 0, 0, 0, 0, 0)), (58, .aload_n 0, 1, 0, (0, 0, 0, 0, 0, 0)), (59, .iload_n 1, 1, 0, (0, 0, 0, 0, 0, 0)), (60, .invokevirtual 414, 3, 0, (2, 2, 0, 0, 1, 0)), (63, .goto 75, 3, 0, (0, 0, 0, 0, 0, 0)), (66, .iload_n 2, 1, 0, (0, 0, 0, 0, 0, 0)), (67, .iconst 2, 1, 0, (0, 0, 0, 0, 0, 2)), (68, .if_icmp .ne 11, 3, 0, (0, 0, 0, 0, 0, 0)), (71, .aload_n 0, 1, 0, (0, 0, 0, 0, 0, 0)), (72, .iload_n 1, 1, 0, (0, 0, 0, 0, 0, 0)), (73, .invokevirtual 479, 3, 0, (1, 2, 0, 0, 1, 0)), (76, .goto 62, 3, 0, (0, 0, 0, 0, 0, 0)), (79, .iload_n 2, 1, 0, (0, 0, 0, 0, 0, 0)), (80, .iconst 3, 1, 0, (0, 0, 0, 0, 0, 3)), (81, .if_icmp .ne 13, 3, 0, (0, 0, 0, 0, 0, 0)), (84, .aload_n 0, 1, 0, (0, 0, 0, 0, 0, 0)), (85, .getfield 144, 3, 0, (12, 51, 16, 2, 36, 0)), (88, .iload_n 1, 1, 0, (0, 0, 0, 0, 0, 0)), (89, .iaload, 1, 0, (13, 4, 0, 0, 0, 0)), (90, .i2l, 1, 0, (0, 0, 0, 0, 0, 0)), (91, .goto 47, 3, 0, (0, 0, 0, 0, 0, 0)), (94, .iload_n 2, 1, 0, (0, 0, 0, 0, 0, 0)), (95, .iconst 4, 1, 0, (0, 0, 0, 0, 0, 4)), (96, .if_icmp .ne 13, 3, 0, (0, 0, 0, 0, 0, 0)), (99, .aload_n 0, 1, 0, (0, 0, 0, 0, 0, 0)), (100, .getfield 147, 3, 0, (12, 52, 16, 2, 37, 0)), (103, .iload_n 1, 1, 0, (0, 0, 0, 0, 0, 0)), (104, .iaload, 1, 0, (13, 4, 0, 0, 0, 0)), (105, .i2l, 1, 0, (0, 0, 0, 0, 0, 0)), (106, .goto 32, 3, 0, (0, 0, 0, 0, 0, 0)), (109, .iload_n 2, 1, 0, (0, 0, 0, 0, 0, 0)), (110, .iconst 5, 1, 0, (0, 0, 0, 0, 0, 5)), (111, .if_icmp .ne 13, 3, 0, (0, 0, 0, 0, 0, 0)), (114, .aload_n 0, 1, 0, (0, 0, 0, 0, 0, 0)), (115, .getfield 150, 3, 0, (12, 53, 16, 2, 38, 0)), (118, .iload_n 1, 1, 0, (0, 0, 0, 0, 0, 0)), (119, .iaload, 1, 0, (13, 4, 0, 0, 0, 0)), (120, .i2l, 1, 0, (0, 0, 0, 0, 0, 0)), (121, .goto 17, 3, 0, (0, 0, 0, 0, 0, 0)), (124, .aload_n 0, 1, 0, (0, 0, 0, 0, 0, 0)), (125, .getfield 153, 3, 0, (12, 54, 18, 2, 9, 0)), (128, .iload_n 1, 1, 0, (0, 0, 0, 0, 0, 0)), (129, .baload, 1, 0, (15, 4, 0, 0, 0, 0)), (130, .ifCond .eq 7, 3, 0, (0, 0, 0, 0, 0, 0)), (133, .lconst 1, 1, 0, (0, 0, 0, 0, 0, 1)), (134, .goto 4, 3, 0, (0, 0, 0, 0, 0, 0)), (137, .lconst 0, 1, 0, (0, 0, 0, 0, 0, 0)), (138, .lreturn, 1, 0, (0, 0, 0, 0, 0, 0))]
set_option maxRecDepth 100000 in
theorem rk368 : R368.all (rok 2 368 2 [(215, [0, 0, 0]), (307, [15, 0]), (278, [15, 0]), (276, [15, 0])]) = true := by decide +kernel
set_option maxRecDepth 100000 in
theorem tab368 {F215 : PM → Int32 → Int32 → Int32 → Int32} {G215 : PM → Int32 → Int32 → Int32 → Prop} {F307 : PM → Int32 → Int64 × PM} {G307 : PM → Int32 → Prop} {F278 : PM → Int32 → Int64} {G278 : PM → Int32 → Prop} {F276 : PM → Int32 → Int64} {G276 : PM → Int32 → Prop} : TabOK 2 368 2 [CC215 F215 G215, CC307 F307 G307, CC278 F278 G278, CC276 F276 G276] R368 := tab_ok (K := K368) rfl rfl (fun h => d368 h) rk368 (by decide +kernel)
set_option maxRecDepth 100000 in
theorem pc368 : cutpc [29] R368 = true := by decide +kernel
set_option maxRecDepth 100000 in
theorem r12_member_29 (F215 : PM → Int32 → Int32 → Int32 → Int32) (G215 : PM → Int32 → Int32 → Int32 → Prop) (o215 : CalOK 2 (CC215 F215 G215)) (F307 : PM → Int32 → Int64 × PM) (G307 : PM → Int32 → Prop) (o307 : CalOK 2 (CC307 F307 G307)) (F278 : PM → Int32 → Int64) (G278 : PM → Int32 → Prop) (o278 : CalOK 2 (CC278 F278 G278)) (F276 : PM → Int32 → Int64) (G276 : PM → Int32 → Prop) (o276 : CalOK 2 (CC276 F276 G276)) : ∀ (p : PM) (v1 : Int32) (v2 : Int32) (s0 : Int32), Gr 2 p → bg12_member_29 F276 G276 F278 G278 F307 G307 p v1 v2 s0 → ZJ 2 368 29 [zR 12 1, zI v1, zI v2] [zI s0, zR 12 1] p (hwL (bv12_member_29 F276 F278 F307 p v1 v2 s0)) := by
  intro p v1 v2 s0  hg H
  exact rwL (n := 3000) (q := 29) (la := [zR 12 1, zI v1, zI v2]) (sa := [zI s0, zR 12 1]) (ks := [fun _ _ s => (0, s)]) (gs := [fun _ _ _ => False]) (fcons o215 (fcons o307 (fcons o278 (fcons o276 (fnil))))) tab368 pc368 ⟨fun _ _ _ _ H => H.elim, trivial⟩ hg H
theorem t12_member_29 : ∀ (p : PM) (v1 : Int32) (v2 : Int32) (s0 : Int32), Gr 2 p → g12_member_29 p v1 v2 s0 → ZJ 2 368 29 [zR 12 1, zI v1, zI v2] [zI s0, zR 12 1] p (hwL (v12_member_29 p v1 v2 s0)) := r12_member_29 v12_in g12_in ok215 v12_callOf g12_callOf ok307 v12_value g12_value ok278 v12_risk g12_risk ok276
set_option maxRecDepth 100000 in
theorem r12_member (F215 : PM → Int32 → Int32 → Int32 → Int32) (G215 : PM → Int32 → Int32 → Int32 → Prop) (o215 : CalOK 2 (CC215 F215 G215)) (F307 : PM → Int32 → Int64 × PM) (G307 : PM → Int32 → Prop) (o307 : CalOK 2 (CC307 F307 G307)) (F278 : PM → Int32 → Int64) (G278 : PM → Int32 → Prop) (o278 : CalOK 2 (CC278 F278 G278)) (F276 : PM → Int32 → Int64) (G276 : PM → Int32 → Prop) (o276 : CalOK 2 (CC276 F276 G276)) (kv29 : PM → Int32 → Int32 → Int32 → Int64 × PM) (kg29 : PM → Int32 → Int32 → Int32 → Prop) (hk29 : ∀ (p : PM) (v1 : Int32) (v2 : Int32) (s0 : Int32), Gr 2 p → kg29 p v1 v2 s0 → ZJ 2 368 29 [zR 12 1, zI v1, zI v2] [zI s0, zR 12 1] p (hwL (kv29 p v1 v2 s0))) : ∀ (p : PM) (v1 : Int32) (v2 : Int32), Gr 2 p → bg12_member F215 G215 kg29 p v1 v2 → ZJ 2 368 0 [zR 12 1, zI v1, zI v2] [] p (hwL (bv12_member F215 kv29 p v1 v2)) := by
  intro p v1 v2  hg H
  exact rwL (n := 3000) (q := 0) (la := [zR 12 1, zI v1, zI v2]) (sa := []) (ks := [fun la sa s => kv29 s (ai la 1) (ai la 2) (ai sa 0)]) (gs := [fun la sa s => zsw (tc2 la [(112, 1), (0, 0), (0, 0)] && tc2 sa [(0, 0), (112, 1)]) False (kg29 s (ai la 1) (ai la 2) (ai sa 0))]) (fcons o215 (fcons o307 (fcons o278 (fcons o276 (fnil))))) tab368 pc368 ⟨fun la sa s hg H => zcut H fun H => hk29 s (ai la 1) (ai la 2) (ai sa 0) hg H, trivial⟩ hg H
theorem t12_member : ∀ (p : PM) (v1 : Int32) (v2 : Int32), Gr 2 p → g12_member p v1 v2 → ZJ 2 368 0 [zR 12 1, zI v1, zI v2] [] p (hwL (v12_member p v1 v2)) := r12_member v12_in g12_in ok215 v12_callOf g12_callOf ok307 v12_value g12_value ok278 v12_risk g12_risk ok276 (v12_member_29) (g12_member_29) (t12_member_29)
def CC368 (F : PM → Int32 → Int32 → Int64 × PM) (G : PM → Int32 → Int32 → Prop) : Cal := (368, [15, 0, 0], 2, false, fun as p => (zL (F p (ai as 1) (ai as 2)).1, (F p (ai as 1) (ai as 2)).2), fun as p => zsw (tc2 as [(112, 1), (0, 0), (0, 0)]) False (G p (ai as 1) (ai as 2)))
set_option maxRecDepth 100000 in
theorem okr368 (F : PM → Int32 → Int32 → Int64 × PM) (G : PM → Int32 → Int32 → Prop) (h : ∀ (p : PM) (v1 : Int32) (v2 : Int32), Gr 2 p → G p v1 v2 → ZJ 2 368 0 [zR 12 1, zI v1, zI v2] [] p (hwL (F p v1 v2))) : CalOK 2 (CC368 F G) := cal_ok (m := 3) (by unfold mL; rw [mX_368]) (fun as p hg H => h p (ai as 1) (ai as 2) hg H)
theorem ok368 : CalOK 2 (CC368 v12_member g12_member) := okr368 v12_member g12_member t12_member
noncomputable def bv12_stake (p : PM) : Int32 × PM :=
  let p1 : PM := pI p 12 1 0 (cn 0)
  ((p1.1 12 1 58), p1)
noncomputable def v12_stake (p : PM) : Int32 × PM := bv12_stake p
noncomputable def bg12_stake (p : PM) : Prop :=
  let p1 : PM := pI p 12 1 0 (cn 0)
  True
noncomputable def g12_stake (p : PM) : Prop := bg12_stake p
def R369 : List Row := [(0, .aload_n 0, 1, 0, (0, 0, 0, 0, 0, 0)), (1, .iconst 0, 1, 0, (0, 0, 0, 0, 0, 0)), (2, .putfield 180, 3, 0, (12, 0, 0, 1, 0, 0)), (5, .aload_n 0, 1, 0, (0, 0, 0, 0, 0, 0)), (6, .getfield 191, 3, 0, (12, 58, 0, 1, 0, 0)), (9, .ireturn, 1, 0, (0, 0, 0, 0, 0, 0))]
set_option maxRecDepth 100000 in
theorem rk369 : R369.all (rok 2 369 1 []) = true := by decide +kernel
set_option maxRecDepth 100000 in
theorem tab369 : TabOK 2 369 1 [] R369 := tab_ok (K := K369) rfl rfl (fun h => d369 h) rk369 (by decide +kernel)
set_option maxRecDepth 100000 in
theorem pc369 : cutpc [] R369 = true := by decide +kernel
set_option maxRecDepth 100000 in
theorem r12_stake : ∀ (p : PM), Gr 2 p → bg12_stake p → ZJ 2 369 0 [zR 12 1] [] p (hwI (bv12_stake p)) := by
  intro p   hg H
  exact rwI (n := 3000) (q := 0) (la := [zR 12 1]) (sa := []) (ks := []) (gs := []) (fnil) tab369 pc369 trivial hg H
theorem t12_stake : ∀ (p : PM), Gr 2 p → g12_stake p → ZJ 2 369 0 [zR 12 1] [] p (hwI (v12_stake p)) := r12_stake
def CC369 (F : PM → Int32 × PM) (G : PM → Prop) : Cal := (369, [15], 1, false, fun as p => (zI (F p ).1, (F p ).2), fun as p => zsw (tc2 as [(112, 1)]) False (G p ))
set_option maxRecDepth 100000 in
theorem okr369 (F : PM → Int32 × PM) (G : PM → Prop) (h : ∀ (p : PM), Gr 2 p → G p  → ZJ 2 369 0 [zR 12 1] [] p (hwI (F p ))) : CalOK 2 (CC369 F G) := cal_ok (m := 1) (by unfold mL; rw [mX_369]) (fun as p hg H => h p  hg H)
theorem ok369 : CalOK 2 (CC369 v12_stake g12_stake) := okr369 v12_stake g12_stake t12_stake
