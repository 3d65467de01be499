/-! methods as functions over one part, by program (wip/whole/lift.py) -/
noncomputable def bv6_nextTurn (p : PM) : Int32 × PM :=
  let p1 : PM := pI p 6 1 5 ((p.1 6 1 5) + (cn 1))
  ((p1.1 6 1 5), p1)
noncomputable def v6_nextTurn (p : PM) : Int32 × PM := bv6_nextTurn p
noncomputable def bg6_nextTurn (p : PM) : Prop :=
  let p1 : PM := pI p 6 1 5 ((p.1 6 1 5) + (cn 1))
  True
noncomputable def g6_nextTurn (p : PM) : Prop := bg6_nextTurn p
def R79 : List Row := [(0, .aload_n 0, 1, 0, (0, 0, 0, 0, 0, 0)), (1, .dup, 1, 0, (0, 0, 0, 0, 0, 0)), (2, .getfield 42, 3, 0, (6, 5, 0, 1, 0, 0)), (5, .iconst 1, 1, 0, (0, 0, 0, 0, 0, 1)), (6, .iadd, 1, 0, (0, 0, 0, 0, 0, 0)), (7, .putfield 42, 3, 0, (6, 5, 0, 1, 0, 0)), (10, .aload_n 0, 1, 0, (0, 0, 0, 0, 0, 0)), (11, .getfield 42, 3, 0, (6, 5, 0, 1, 0, 0)), (14, .ireturn, 1, 0, (0, 0, 0, 0, 0, 0))]
set_option maxRecDepth 100000 in
theorem rk79 : R79.all (rok 0 79 1 []) = true := by decide +kernel
set_option maxRecDepth 100000 in
theorem tab79 : TabOK 0 79 1 [] R79 := tab_ok (K := K79) rfl rfl (fun h => d79 h) rk79 (by decide +kernel)
set_option maxRecDepth 100000 in
theorem pc79 : cutpc [] R79 = true := by decide +kernel
set_option maxRecDepth 100000 in
theorem r6_nextTurn : ∀ (p : PM), Gr 0 p → bg6_nextTurn p → ZJ 0 79 0 [zR 6 1] [] p (hwI (bv6_nextTurn p)) := by
  intro p   hg H
  exact rwI (n := 3000) (q := 0) (la := [zR 6 1]) (sa := []) (ks := []) (gs := []) (fnil) tab79 pc79 trivial hg H
theorem t6_nextTurn : ∀ (p : PM), Gr 0 p → g6_nextTurn p → ZJ 0 79 0 [zR 6 1] [] p (hwI (v6_nextTurn p)) := r6_nextTurn
def CC79 (F : PM → Int32 × PM) (G : PM → Prop) : Cal := (79, [9], 1, false, fun as p => (zI (F p ).1, (F p ).2), fun as p => zsw (tc2 as [(106, 1)]) False (G p ))
set_option maxRecDepth 100000 in
theorem okr79 (F : PM → Int32 × PM) (G : PM → Prop) (h : ∀ (p : PM), Gr 0 p → G p  → ZJ 0 79 0 [zR 6 1] [] p (hwI (F p ))) : CalOK 0 (CC79 F G) := cal_ok (m := 1) (by unfold mL; rw [mX_79]) (fun as p hg H => h p  hg H)
theorem ok79 : CalOK 0 (CC79 v6_nextTurn g6_nextTurn) := okr79 v6_nextTurn g6_nextTurn t6_nextTurn
noncomputable def bv6_showAnew (F79 : PM → Int32 × PM) (F150 : PM → Nat → Int32) (p : PM) (v1 : Nat) : PM :=
  if (p.1 10 v1 2) = (cn 1) then (
    if 0 < (p.1 10 v1 11) then (
      p)
    else (
      let p1 : PM := pI p 10 v1 11 (F150 p v1)
      let r2 : Int32 × PM := F79 p1
      let p3 : PM := pI r2.2 10 v1 12 r2.1
      p3))
  else (
    p)
noncomputable def v6_showAnew (p : PM) (v1 : Nat) : PM := bv6_showAnew v6_nextTurn v10_showable p v1
noncomputable def bg6_showAnew (F79 : PM → Int32 × PM) (G79 : PM → Prop) (F150 : PM → Nat → Int32) (G150 : PM → Nat → Prop) (p : PM) (v1 : Nat) : Prop :=
  (¬ v1 = 0) ∧ (
  if (p.1 10 v1 2) = (cn 1) then (
    (¬ v1 = 0) ∧ (
    if 0 < (p.1 10 v1 11) then (
      True)
    else (
      (¬ v1 = 0) ∧ (
      (G150 p v1) ∧ (
      (¬ v1 = 0) ∧ (
      let p1 : PM := pI p 10 v1 11 (F150 p v1)
      (G79 p1) ∧ (
      let r2 : Int32 × PM := F79 p1
      (¬ v1 = 0) ∧ (
      let p3 : PM := pI r2.2 10 v1 12 r2.1
      True))))))))
  else (
    True))
noncomputable def g6_showAnew (p : PM) (v1 : Nat) : Prop := bg6_showAnew v6_nextTurn g6_nextTurn v10_showable g10_showable p v1
def R80 : List Row := [(0, .aload_n 1, 1, 0, (0, 0, 0, 0, 0, 0)), (1, .getfield 29, 3, 0, (10, 2, 0, 0, 0, 0)), (4, .iconst 1, 1, 0, (0, 0, 0, 0, 0, 1)), (5, .if_icmp .ne 26, 3, 0, (0, 0, 0, 0, 0, 0)), (8, .aload_n 1, 1, 0, (0, 0, 0, 0, 0, 0)), (9, .getfield 62, 3, 0, (10, 11, 0, 0, 0, 0)), (12, .ifCond .gt 19, 3, 0, (0, 0, 0, 0, 0, 0)), (15, .aload_n 1, 1, 0, (0, 0, 0, 0, 0, 0)), (16, .aload_n 1, 1, 0, (0, 0, 0, 0, 0, 0)), (17, .invokevirtual 58, 3, 0, (0, 1, 0, 0, 2, 0)), (20, .putfield 62, 3, 0, (10, 11, 0, 0, 0, 0)), (23, .aload_n 1, 1, 0, (0, 0, 0, 0, 0, 0)), (24, .aload_n 0, 1, 0, (0, 0, 0, 0, 0, 0)), (25, .invokevirtual 65, 3, 0, (1, 1, 0, 0, 1, 0)), (28, .putfield 68, 3, 0, (10, 12, 0, 0, 0, 0)), (31, .return_, 1, 0, (0, 0, 0, 0, 0, 0))]
set_option maxRecDepth 100000 in
theorem rk80 : R80.all (rok 0 80 0 [(150, [13]), (79, [9])]) = true := by decide +kernel
set_option maxRecDepth 100000 in
theorem tab80 {F150 : PM → Nat → Int32} {G150 : PM → Nat → Prop} {F79 : PM → Int32 × PM} {G79 : PM → Prop} : TabOK 0 80 0 [CC150 F150 G150, CC79 F79 G79] R80 := tab_ok (K := K80) rfl rfl (fun h => d80 h) rk80 (by decide +kernel)
set_option maxRecDepth 100000 in
theorem pc80 : cutpc [] R80 = true := by decide +kernel
set_option maxRecDepth 100000 in
theorem r6_showAnew (F150 : PM → Nat → Int32) (G150 : PM → Nat → Prop) (o150 : CalOK 0 (CC150 F150 G150)) (F79 : PM → Int32 × PM) (G79 : PM → Prop) (o79 : CalOK 0 (CC79 F79 G79)) : ∀ (p : PM) (v1 : Nat), Gr 0 p → bg6_showAnew F79 G79 F150 G150 p v1 → ZJ 0 80 0 [zR 6 1, zR 10 v1] [] p (hwV (bv6_showAnew F79 F150 p v1)) := by
  intro p v1  hg H
  exact rwV (n := 3000) (q := 0) (la := [zR 6 1, zR 10 v1]) (sa := []) (ks := []) (gs := []) (fcons o150 (fcons o79 (fnil))) tab80 pc80 trivial hg H
theorem t6_showAnew : ∀ (p : PM) (v1 : Nat), Gr 0 p → g6_showAnew p v1 → ZJ 0 80 0 [zR 6 1, zR 10 v1] [] p (hwV (v6_showAnew p v1)) := r6_showAnew v10_showable g10_showable ok150 v6_nextTurn g6_nextTurn ok79
def CC80 (F : PM → Nat → PM) (G : PM → Nat → Prop) : Cal := (80, [9, 13], 0, false, fun as p => (zJ, (F p (ar as 1))), fun as p => zsw (tc2 as [(106, 1), (14, 0)]) False (G p (ar as 1)))
set_option maxRecDepth 100000 in
theorem okr80 (F : PM → Nat → PM) (G : PM → Nat → Prop) (h : ∀ (p : PM) (v1 : Nat), Gr 0 p → G p v1 → ZJ 0 80 0 [zR 6 1, zR 10 v1] [] p (hwV (F p v1))) : CalOK 0 (CC80 F G) := cal_ok (m := 2) (by unfold mL; rw [mX_80]) (fun as p hg H => h p (ar as 1) hg H)
theorem ok80 : CalOK 0 (CC80 v6_showAnew g6_showAnew) := okr80 v6_showAnew g6_showAnew t6_showAnew
noncomputable def bv3_fallTogether (F80 : PM → Nat → PM) (F90 : PM → Nat → Int32 → PM) (F151 : PM → Nat → Int32 → PM) (p : PM) (v1 : Nat) (v2 : Nat) (v3 : Nat) (v4 : Nat) (v5 : Int32) : PM :=
  let p1 : PM := F151 p v1 v5
  let p2 : PM := F151 p1 v2 v5
  let p3 : PM := F151 p2 v3 v5
  if v4 = 0 then (
    let p4 : PM := F90 p3 v1 v5
    let p5 : PM := F90 p4 v2 v5
    let p6 : PM := F90 p5 v3 v5
    let p7 : PM := F80 p6 v1
    let p8 : PM := F80 p7 v2
    let p9 : PM := F80 p8 v3
    p9)
  else (
    let p10 : PM := F151 p3 v4 v5
    let p11 : PM := F90 p10 v4 v5
    let p12 : PM := F80 p11 v4
    let p13 : PM := F90 p12 v1 v5
    let p14 : PM := F90 p13 v2 v5
    let p15 : PM := F90 p14 v3 v5
    let p16 : PM := F80 p15 v1
    let p17 : PM := F80 p16 v2
    let p18 : PM := F80 p17 v3
    p18)
noncomputable def v3_fallTogether (p : PM) (v1 : Nat) (v2 : Nat) (v3 : Nat) (v4 : Nat) (v5 : Int32) : PM := bv3_fallTogether v6_showAnew v6_guard v10_fall p v1 v2 v3 v4 v5
noncomputable def bg3_fallTogether (F80 : PM → Nat → PM) (G80 : PM → Nat → Prop) (F90 : PM → Nat → Int32 → PM) (G90 : PM → Nat → Int32 → Prop) (F151 : PM → Nat → Int32 → PM) (G151 : PM → Nat → Int32 → Prop) (p : PM) (v1 : Nat) (v2 : Nat) (v3 : Nat) (v4 : Nat) (v5 : Int32) : Prop :=
  (¬ v1 = 0) ∧ (
  (G151 p v1 v5) ∧ (
  let p1 : PM := F151 p v1 v5
  (¬ v2 = 0) ∧ (
  (G151 p1 v2 v5) ∧ (
  let p2 : PM := F151 p1 v2 v5
  (¬ v3 = 0) ∧ (
  (G151 p2 v3 v5) ∧ (
  let p3 : PM := F151 p2 v3 v5
  if v4 = 0 then (
    (G90 p3 v1 v5) ∧ (
    let p4 : PM := F90 p3 v1 v5
    (G90 p4 v2 v5) ∧ (
    let p5 : PM := F90 p4 v2 v5
    (G90 p5 v3 v5) ∧ (
    let p6 : PM := F90 p5 v3 v5
    (G80 p6 v1) ∧ (
    let p7 : PM := F80 p6 v1
    (G80 p7 v2) ∧ (
    let p8 : PM := F80 p7 v2
    (G80 p8 v3) ∧ (
    let p9 : PM := F80 p8 v3
    True)))))))
  else (
    (¬ v4 = 0) ∧ (
    (G151 p3 v4 v5) ∧ (
    let p10 : PM := F151 p3 v4 v5
    (G90 p10 v4 v5) ∧ (
    let p11 : PM := F90 p10 v4 v5
    (G80 p11 v4) ∧ (
    let p12 : PM := F80 p11 v4
    (G90 p12 v1 v5) ∧ (
    let p13 : PM := F90 p12 v1 v5
    (G90 p13 v2 v5) ∧ (
    let p14 : PM := F90 p13 v2 v5
    (G90 p14 v3 v5) ∧ (
    let p15 : PM := F90 p14 v3 v5
    (G80 p15 v1) ∧ (
    let p16 : PM := F80 p15 v1
    (G80 p16 v2) ∧ (
    let p17 : PM := F80 p16 v2
    (G80 p17 v3) ∧ (
    let p18 : PM := F80 p17 v3
    True)))))))))))))))))
noncomputable def g3_fallTogether (p : PM) (v1 : Nat) (v2 : Nat) (v3 : Nat) (v4 : Nat) (v5 : Int32) : Prop := bg3_fallTogether v6_showAnew g6_showAnew v6_guard g6_guard v10_fall g10_fall p v1 v2 v3 v4 v5
def R51 : List Row := [(0, .aload_n 1, 1, 0, (0, 0, 0, 0, 0, 0)), (1, .iload 5, 2, 0, (0, 0, 0, 0, 0, 0)), (3, .invokevirtual 90, 3, 0, (0, 2, 0, 0, 2, 0)), (6, .aload_n 2, 1, 0, (0, 0, 0, 0, 0, 0)), (7, .iload 5, 2, 0, (0, 0, 0, 0, 0, 0)), (9, .invokevirtual 90, 3, 0, (0, 2, 0, 0, 2, 0)), (12, .aload_n 3, 1, 0, (0, 0, 0, 0, 0, 0)), (13, .iload 5, 2, 0, (0, 0, 0, 0, 0, 0)), (15, .invokevirtual 90, 3, 0, (0, 2, 0, 0, 2, 0)), (18, .aload 4, 2, 0, (0, 0, 0, 0, 0, 0)), (20, .ifnull 30, 3, 0, (0, 0, 0, 0, 0, 0)), (23, .aload 4, 2, 0, (0, 0, 0, 0, 0, 0)), (25, .iload 5, 2, 0, (0, 0, 0, 0, 0, 0)), (27, .invokevirtual 90, 3, 0, (0, 2, 0, 0, 2, 0)), (30, .aload_n 0, 1, 0, (0, 0, 0, 0, 0, 0)), (31, .getfield 7, 3, 0, (3, 0, 9, 2, 1, 0)), (34, .aload 4, 2, 0, (0, 0, 0, 0, 0, 0)), (36, .iload 5, 2, 0, (0, 0, 0, 0, 0, 0)), (38, .invokevirtual 94, 3, 0, (1, 3, 0, 0, 1, 0)), (41, .aload_n 0, 1, 0, (0, 0, 0, 0, 0, 0)), (42, .getfield 7, 3, 0, (3, 0, 9, 2, 1, 0)), (45, .aload 4, 2, 0, (0, 0, 0, 0, 0, 0)), (47, .invokevirtual 98, 3, 0, (2, 2, 0, 0, 1, 0)), (50, .aload_n 0, 1, 0, (0, 0, 0, 0, 0, 0)), (51, .getfield 7, 3, 0, (3, 0, 9, 2, 1, 0)), (54, .aload_n 1, 1, 0, (0, 0, 0, 0, 0, 0)), (55, .iload 5, 2, 0, (0, 0, 0, 0, 0, 0)), (57, .invokevirtual 94, 3, 0, (1, 3, 0, 0, 1, 0)), (60, .aload_n 0, 1, 0, (0, 0, 0, 0, 0, 0)), (61, .getfield 7, 3, 0, (3, 0, 9, 2, 1, 0)), (64, .aload_n 2, 1, 0, (0, 0, 0, 0, 0, 0)), (65, .iload 5, 2, 0, (0, 0, 0, 0, 0, 0)), (67, .invokevirtual 94, 3, 0, (1, 3, 0, 0, 1, 0)), (70, .aload_n 0, 1, 0, (0, 0, 0, 0, 0, 0)), (71, .getfield 7, 3, 0, (3, 0, 9, 2, 1, 0)), (74, .aload_n 3, 1, 0, (0, 0, 0, 0, 0, 0)), (75, .iload 5, 2, 0, (0, 0, 0, 0, 0, 0)), (77, .invokevirtual 94, 3, 0, (1, 3, 0, 0, 1, 0)), (80, .aload_n 0, 1, 0, (0, 0, 0, 0, 0, 0)), (81, .getfield 7, 3, 0, (3, 0, 9, 2, 1, 0)), (84, .aload_n 1, 1, 0, (0, 0, 0, 0, 0, 0)), (85, .invokevirtual 98, 3, 0, (2, 2, 0, 0, 1, 0)), (88, .aload_n 0, 1, 0, (0, 0, 0, 0, 0, 0)), (89, .getfield 7, 3, 0, (3, 0, 9, 2, 1, 0)), (92, .aload_n 2, 1, 0, (0, 0, 0, 0, 0, 0)), (93, .invokevirtual 98, 3, 0, (2, 2, 0, 0, 1, 0)), (96, .aload_n 0, 1, 0, (0, 0, 0, 0, 0, 0)), (97, .getfield 7, 3, 0, (3, 0, 9, 2, 1, 0)), (100, .aload_n 3, 1, 0, (0, 0, 0, 0, 0, 0)), (101, .invokevirtual 98, 3, 0, (2, 2, 0, 0, 1, 0)), (104, .return_, 1, 0, (0, 0, 0, 0, 0, 0))]
set_option maxRecDepth 100000 in
theorem rk51 : R51.all (rok 0 51 0 [(151, [13, 0]), (90, [9, 13, 0]), (80, [9, 13])]) = true := by decide +kernel
set_option maxRecDepth 100000 in
theorem tab51 {F151 : PM → Nat → Int32 → PM} {G151 : PM → Nat → Int32 → Prop} {F90 : PM → Nat → Int32 → PM} {G90 : PM → Nat → Int32 → Prop} {F80 : PM → Nat → PM} {G80 : PM → Nat → Prop} : TabOK 0 51 0 [CC151 F151 G151, CC90 F90 G90, CC80 F80 G80] R51 := tab_ok (K := K51) rfl rfl (fun h => d51 h) rk51 (by decide +kernel)
set_option maxRecDepth 100000 in
theorem pc51 : cutpc [] R51 = true := by decide +kernel
set_option maxRecDepth 100000 in
theorem r3_fallTogether (F151 : PM → Nat → Int32 → PM) (G151 : PM → Nat → Int32 → Prop) (o151 : CalOK 0 (CC151 F151 G151)) (F90 : PM → Nat → Int32 → PM) (G90 : PM → Nat → Int32 → Prop) (o90 : CalOK 0 (CC90 F90 G90)) (F80 : PM → Nat → PM) (G80 : PM → Nat → Prop) (o80 : CalOK 0 (CC80 F80 G80)) : ∀ (p : PM) (v1 : Nat) (v2 : Nat) (v3 : Nat) (v4 : Nat) (v5 : Int32), Gr 0 p → bg3_fallTogether F80 G80 F90 G90 F151 G151 p v1 v2 v3 v4 v5 → ZJ 0 51 0 [zR 3 1, zR 10 v1, zR 10 v2, zR 10 v3, zR 10 v4, zI v5] [] p (hwV (bv3_fallTogether F80 F90 F151 p v1 v2 v3 v4 v5)) := by
  intro p v1 v2 v3 v4 v5  hg H
  exact rwV (n := 3000) (q := 0) (la := [zR 3 1, zR 10 v1, zR 10 v2, zR 10 v3, zR 10 v4, zI v5]) (sa := []) (ks := []) (gs := []) (fcons o151 (fcons o90 (fcons o80 (fnil)))) tab51 pc51 trivial hg H
theorem t3_fallTogether : ∀ (p : PM) (v1 : Nat) (v2 : Nat) (v3 : Nat) (v4 : Nat) (v5 : Int32), Gr 0 p → g3_fallTogether p v1 v2 v3 v4 v5 → ZJ 0 51 0 [zR 3 1, zR 10 v1, zR 10 v2, zR 10 v3, zR 10 v4, zI v5] [] p (hwV (v3_fallTogether p v1 v2 v3 v4 v5)) := r3_fallTogether v10_fall g10_fall ok151 v6_guard g6_guard ok90 v6_showAnew g6_showAnew ok80
def CC51 (F : PM → Nat → Nat → Nat → Nat → Int32 → PM) (G : PM → Nat → Nat → Nat → Nat → Int32 → Prop) : Cal := (51, [6, 13, 13, 13, 13, 0], 0, false, fun as p => (zJ, (F p (ar as 1) (ar as 2) (ar as 3) (ar as 4) (ai as 5))), fun as p => zsw (tc2 as [(103, 1), (14, 0), (14, 0), (14, 0), (14, 0), (0, 0)]) False (G p (ar as 1) (ar as 2) (ar as 3) (ar as 4) (ai as 5)))
set_option maxRecDepth 100000 in
theorem okr51 (F : PM → Nat → Nat → Nat → Nat → Int32 → PM) (G : PM → Nat → Nat → Nat → Nat → Int32 → Prop) (h : ∀ (p : PM) (v1 : Nat) (v2 : Nat) (v3 : Nat) (v4 : Nat) (v5 : Int32), Gr 0 p → G p v1 v2 v3 v4 v5 → ZJ 0 51 0 [zR 3 1, zR 10 v1, zR 10 v2, zR 10 v3, zR 10 v4, zI v5] [] p (hwV (F p v1 v2 v3 v4 v5))) : CalOK 0 (CC51 F G) := cal_ok (m := 6) (by unfold mL; rw [mX_51]) (fun as p hg H => h p (ar as 1) (ar as 2) (ar as 3) (ar as 4) (ai as 5) hg H)
theorem ok51 : CalOK 0 (CC51 v3_fallTogether g3_fallTogether) := okr51 v3_fallTogether g3_fallTogether t3_fallTogether
noncomputable def bv3_makePair_58 (p : PM) : Int32 × PM :=
  ((cn 0), p)
noncomputable def v3_makePair_58 (p : PM) : Int32 × PM := bv3_makePair_58 p
noncomputable def bg3_makePair_58 (p : PM) : Prop :=
  True
noncomputable def g3_makePair_58 (p : PM) : Prop := bg3_makePair_58 p
noncomputable def bv3_makePair_118 (p : PM) : Int32 × PM :=
  ((cn 0), p)
noncomputable def v3_makePair_118 (p : PM) : Int32 × PM := bv3_makePair_118 p
noncomputable def bg3_makePair_118 (p : PM) : Prop :=
  True
noncomputable def g3_makePair_118 (p : PM) : Prop := bg3_makePair_118 p
noncomputable def bv3_makePair_160 (p : PM) : Int32 × PM :=
  ((cn 0), p)
noncomputable def v3_makePair_160 (p : PM) : Int32 × PM := bv3_makePair_160 p
noncomputable def bg3_makePair_160 (p : PM) : Prop :=
  True
noncomputable def g3_makePair_160 (p : PM) : Prop := bg3_makePair_160 p
noncomputable def bv3_makePair_162 (F49 : PM → Nat → Int32 → Nat → Nat → Int32) (F50 : PM → Nat → Int32 → Nat → Nat → Int32 → Int32 → PM) (F51 : PM → Nat → Nat → Nat → Nat → Int32 → PM) (F377 : PM → Int32 → Int32 → Int32) (p : PM) (v2 : Int32) (v4 : Nat) (v5 : Nat) (v6 : Nat) (v7 : Nat) (v8 : Nat) : Int32 × PM :=
  if (F49 p v4 (p.1 10 v7 7) v6 v7) = 0 then (
    if (F49 p v5 (p.1 10 v8 7) v6 v8) = 0 then (
      let x1 : Int32 := (F377 p (p.1 10 v6 11) (F377 p (p.1 10 v7 11) (p.1 10 v8 11)))
      let p2 : PM := F50 p v4 v2 v6 v7 (p.1 10 v7 7) x1
      if v2 = 0 then (
        let p5 : PM := F50 p2 v5 (cn 1) v6 v8 (p2.1 10 v8 7) x1
        let p6 : PM := F51 p5 v6 v7 v8 0 x1
        ((cn 1), p6))
      else (
        let p3 : PM := F50 p2 v5 (cn 0) v6 v8 (p2.1 10 v8 7) x1
        let p4 : PM := F51 p3 v6 v7 v8 0 x1
        ((cn 1), p4)))
    else (
      ((cn 0), p)))
  else (
    ((cn 0), p))
noncomputable def v3_makePair_162 (p : PM) (v2 : Int32) (v4 : Nat) (v5 : Nat) (v6 : Nat) (v7 : Nat) (v8 : Nat) : Int32 × PM := bv3_makePair_162 v3_isBarred v3_record v3_fallTogether v14_min_7cf53 p v2 v4 v5 v6 v7 v8
noncomputable def bg3_makePair_162 (F49 : PM → Nat → Int32 → Nat → Nat → Int32) (G49 : PM → Nat → Int32 → Nat → Nat → Prop) (F50 : PM → Nat → Int32 → Nat → Nat → Int32 → Int32 → PM) (G50 : PM → Nat → Int32 → Nat → Nat → Int32 → Int32 → Prop) (F51 : PM → Nat → Nat → Nat → Nat → Int32 → PM) (G51 : PM → Nat → Nat → Nat → Nat → Int32 → Prop) (F377 : PM → Int32 → Int32 → Int32) (G377 : PM → Int32 → Int32 → Prop) (p : PM) (v2 : Int32) (v4 : Nat) (v5 : Nat) (v6 : Nat) (v7 : Nat) (v8 : Nat) : Prop :=
  (¬ v7 = 0) ∧ (
  (G49 p v4 (p.1 10 v7 7) v6 v7) ∧ (
  if (F49 p v4 (p.1 10 v7 7) v6 v7) = 0 then (
    (¬ v8 = 0) ∧ (
    (G49 p v5 (p.1 10 v8 7) v6 v8) ∧ (
    if (F49 p v5 (p.1 10 v8 7) v6 v8) = 0 then (
      (¬ v6 = 0) ∧ (
      (¬ v7 = 0) ∧ (
      (¬ v8 = 0) ∧ (
      (G377 p (p.1 10 v7 11) (p.1 10 v8 11)) ∧ (
      (G377 p (p.1 10 v6 11) (F377 p (p.1 10 v7 11) (p.1 10 v8 11))) ∧ (
      let x1 : Int32 := (F377 p (p.1 10 v6 11) (F377 p (p.1 10 v7 11) (p.1 10 v8 11)))
      (¬ v7 = 0) ∧ (
      (G50 p v4 v2 v6 v7 (p.1 10 v7 7) x1) ∧ (
      let p2 : PM := F50 p v4 v2 v6 v7 (p.1 10 v7 7) x1
      if v2 = 0 then (
        (¬ v8 = 0) ∧ (
        (G50 p2 v5 (cn 1) v6 v8 (p2.1 10 v8 7) x1) ∧ (
        let p5 : PM := F50 p2 v5 (cn 1) v6 v8 (p2.1 10 v8 7) x1
        (G51 p5 v6 v7 v8 0 x1) ∧ (
        let p6 : PM := F51 p5 v6 v7 v8 0 x1
        True))))
      else (
        (¬ v8 = 0) ∧ (
        (G50 p2 v5 (cn 0) v6 v8 (p2.1 10 v8 7) x1) ∧ (
        let p3 : PM := F50 p2 v5 (cn 0) v6 v8 (p2.1 10 v8 7) x1
        (G51 p3 v6 v7 v8 0 x1) ∧ (
        let p4 : PM := F51 p3 v6 v7 v8 0 x1
        True))))))))))))
    else (
      True))))
  else (
    True)))
noncomputable def g3_makePair_162 (p : PM) (v2 : Int32) (v4 : Nat) (v5 : Nat) (v6 : Nat) (v7 : Nat) (v8 : Nat) : Prop := bg3_makePair_162 v3_isBarred g3_isBarred v3_record g3_record v3_fallTogether g3_fallTogether v14_min_7cf53 g14_min_7cf53 p v2 v4 v5 v6 v7 v8
noncomputable def bv3_makePair_86 (F82 : PM → Nat → Int32 → Nat) (kv118 : PM → Int32 × PM) (kv160 : PM → Int32 × PM) (kv162 : PM → Int32 → Nat → Nat → Nat → Nat → Nat → Int32 × PM) (p : PM) (v2 : Int32) (v4 : Nat) (v5 : Nat) (v6 : Nat) (s0 : Int32) (s1 : Nat) : Int32 × PM :=
  if v6 = 0 then (
    kv118 p)
  else (
    if (F82 p s1 s0) = 0 then (
      kv118 p)
    else (
      if (F82 p v5 v2) = 0 then (
        kv118 p)
      else (
        let x1 : Int32 := ((p.1 10 (F82 p s1 s0) 7) - (p.1 10 (F82 p v5 v2) 7))
        if v2 = 0 then (
          if x1 < (p.1 10 v6 7) then (
            kv160 p)
          else (
            kv162 p v2 v4 v5 v6 (F82 p s1 s0) (F82 p v5 v2)))
        else (
          if (p.1 10 v6 7) < x1 then (
            kv160 p)
          else (
            kv162 p v2 v4 v5 v6 (F82 p s1 s0) (F82 p v5 v2))))))
noncomputable def v3_makePair_86 (p : PM) (v2 : Int32) (v4 : Nat) (v5 : Nat) (v6 : Nat) (s0 : Int32) (s1 : Nat) : Int32 × PM := bv3_makePair_86 v6_firstOf v3_makePair_118 v3_makePair_160 v3_makePair_162 p v2 v4 v5 v6 s0 s1
noncomputable def bg3_makePair_86 (F82 : PM → Nat → Int32 → Nat) (G82 : PM → Nat → Int32 → Prop) (kg118 : PM → Prop) (kg160 : PM → Prop) (kg162 : PM → Int32 → Nat → Nat → Nat → Nat → Nat → Prop) (p : PM) (v2 : Int32) (v4 : Nat) (v5 : Nat) (v6 : Nat) (s0 : Int32) (s1 : Nat) : Prop :=
  (G82 p s1 s0) ∧ (
  (G82 p v5 v2) ∧ (
  if v6 = 0 then (
    kg118 p)
  else (
    if (F82 p s1 s0) = 0 then (
      kg118 p)
    else (
      if (F82 p v5 v2) = 0 then (
        kg118 p)
      else (
        (¬ (F82 p s1 s0) = 0) ∧ (
        (¬ (F82 p v5 v2) = 0) ∧ (
        let x1 : Int32 := ((p.1 10 (F82 p s1 s0) 7) - (p.1 10 (F82 p v5 v2) 7))
        if v2 = 0 then (
          (¬ v6 = 0) ∧ (
          if x1 < (p.1 10 v6 7) then (
            kg160 p)
          else (
            kg162 p v2 v4 v5 v6 (F82 p s1 s0) (F82 p v5 v2))))
        else (
          (¬ v6 = 0) ∧ (
          if (p.1 10 v6 7) < x1 then (
            kg160 p)
          else (
            kg162 p v2 v4 v5 v6 (F82 p s1 s0) (F82 p v5 v2)))))))))))
noncomputable def g3_makePair_86 (p : PM) (v2 : Int32) (v4 : Nat) (v5 : Nat) (v6 : Nat) (s0 : Int32) (s1 : Nat) : Prop := bg3_makePair_86 v6_firstOf g6_firstOf g3_makePair_118 g3_makePair_160 g3_makePair_162 p v2 v4 v5 v6 s0 s1
noncomputable def bv3_makePair (F74 : PM → Int32 → Nat) (F82 : PM → Nat → Int32 → Nat) (kv58 : PM → Int32 × PM) (kv86 : PM → Int32 → Nat → Nat → Nat → Int32 → Nat → Int32 × PM) (p : PM) (v1 : Int32) (v2 : Int32) : Int32 × PM :=
  let x1 : Nat := (F74 p (p.1 1 (F74 p v1) 1))
  let x2 : Nat := (F74 p (p.1 1 (F74 p v1) 2))
  if (p.1 1 (F74 p v1) 5) = 0 then (
    if (p.1 1 x1 5) = 0 then (
      if (p.1 1 x2 5) = 0 then (
        let x3 : Nat := (F82 p (F74 p v1) v2)
        if v2 = 0 then (
          kv86 p v2 x1 x2 x3 (cn 1) x1)
        else (
          kv86 p v2 x1 x2 x3 (cn 0) x1))
      else (
        kv58 p))
    else (
      kv58 p))
  else (
    kv58 p)
noncomputable def v3_makePair (p : PM) (v1 : Int32) (v2 : Int32) : Int32 × PM := bv3_makePair v6_bookAt v6_firstOf v3_makePair_58 v3_makePair_86 p v1 v2
noncomputable def bg3_makePair (F74 : PM → Int32 → Nat) (G74 : PM → Int32 → Prop) (F82 : PM → Nat → Int32 → Nat) (G82 : PM → Nat → Int32 → Prop) (kg58 : PM → Prop) (kg86 : PM → Int32 → Nat → Nat → Nat → Int32 → Nat → Prop) (p : PM) (v1 : Int32) (v2 : Int32) : Prop :=
  (G74 p v1) ∧ (
  (¬ (F74 p v1) = 0) ∧ (
  (G74 p (p.1 1 (F74 p v1) 1)) ∧ (
  let x1 : Nat := (F74 p (p.1 1 (F74 p v1) 1))
  (¬ (F74 p v1) = 0) ∧ (
  (G74 p (p.1 1 (F74 p v1) 2)) ∧ (
  let x2 : Nat := (F74 p (p.1 1 (F74 p v1) 2))
  (¬ (F74 p v1) = 0) ∧ (
  if (p.1 1 (F74 p v1) 5) = 0 then (
    (¬ x1 = 0) ∧ (
    if (p.1 1 x1 5) = 0 then (
      (¬ x2 = 0) ∧ (
      if (p.1 1 x2 5) = 0 then (
        (G82 p (F74 p v1) v2) ∧ (
        let x3 : Nat := (F82 p (F74 p v1) v2)
        if v2 = 0 then (
          kg86 p v2 x1 x2 x3 (cn 1) x1)
        else (
          kg86 p v2 x1 x2 x3 (cn 0) x1)))
      else (
        kg58 p)))
    else (
      kg58 p)))
  else (
    kg58 p)))))))
noncomputable def g3_makePair (p : PM) (v1 : Int32) (v2 : Int32) : Prop := bg3_makePair v6_bookAt g6_bookAt v6_firstOf g6_firstOf g3_makePair_58 g3_makePair_86 p v1 v2
def R47 : List Row := [(0, .aload_n 0, 1, 0, (0, 0, 0, 0, 0, 0)), (1, .getfield 7, 3, 0, (3, 0, 9, 2, 1, 0)), (4, .iload_n 1, 1, 0, (0, 0, 0, 0, 0, 0)), (5, .invokevirtual 17, 3, 0, (0, 2, 0, 0, 1, 0)), (8, .astore_n 3, 1, 0, (0, 0, 0, 0, 0, 0)), (9, .aload_n 0, 1, 0, (0, 0, 0, 0, 0, 0)), (10, .getfield 7, 3, 0, (3, 0, 9, 2, 1, 0)), (13, .aload_n 3, 1, 0, (0, 0, 0, 0, 0, 0)), (14, .getfield 23, 3, 0, (1, 1, 0, 0, 0, 0)), (17, .invokevirtual 17, 3, 0, (0, 2, 0, 0, 1, 0)), (20, .astore 4, 2, 0, (0, 0, 0, 0, 0, 0)), (22, .aload_n 0, 1, 0, (0, 0, 0, 0, 0, 0)), (23, .getfield 7, 3, 0, (3, 0, 9, 2, 1, 0)), (26, .aload_n 3, 1, 0, (0, 0, 0, 0, 0, 0)), (27, .getfield 29, 3, 0, (1, 2, 0, 0, 0, 0)), (30, .invokevirtual 17, 3, 0, (0, 2, 0, 0, 1, 0)), (33, .astore 5, 2, 0, (0, 0, 0, 0, 0, 0)), (35, .aload_n 3, 1, 0, (0, 0, 0, 0, 0, 0)), (36, .getfield 32, 3, 0, (1, 5, 1, 0, 0, 0)), (39, .ifCond .ne 19, 3, 0, (0, 0, 0, 0, 0, 0)), (42, .aload 4, 2, 0, (0, 0, 0, 0, 0, 0)), (44, .getfield 32, 3, 0, (1, 5, 1, 0, 0, 0)), (47, .ifCond .ne 11, 3, 0, (0, 0, 0, 0, 0, 0)), (50, .aload 5, 2, 0, (0, 0, 0, 0, 0, 0)), (52, .getfield 32, 3, 0, (1, 5, 1, 0, 0, 0)), (55, .ifCond .eq 5, 3, 0, (0, 0, 0, 0, 0, 0)), (58, .iconst 0, 1, 1, (0, 0, 0, 0, 0, 0)), (59, .ireturn, 1, 0, (1, 0, 0, 0, 0, 0)), (60, .aload_n 0, 1, 0, (0, 0, 0, 0, 0, 0)), (61, .getfield 7, 3, 0, (3, 0, 9, 2, 1, 0)), (64, .aload_n 3, 1, 0, (0, 0, 0, 0, 0, 0)), (65, .iload_n 2, 1, 0, (0, 0, 0, 0, 0, 0)), (66, .invokevirtual 36, 3, 0, (1, 3, 0, 0, 1, 0)), (69, .astore 6, 2, 0, (0, 0, 0, 0, 0, 0)), (71, .aload_n 0, 1, 0, (0, 0, 0, 0, 0, 0)), (72, .getfield 7, 3, 0, (3, 0, 9, 2, 1, 0)), (75, .aload 4, 2, 0, (0, 0, 0, 0, 0, 0)), (77, .iload_n 2, 1, 0, (0, 0, 0, 0, 0, 0)), (78, .ifCond .ne 7, 3, 0, (0, 0, 0, 0, 0, 0)), (81, .iconst 1, 1, 0, (0, 0, 0, 0, 0, 1)), (82, .goto 4, 3, 0, (0, 0, 0, 0, 0, 0)), (85, .iconst 0, 1, 0, (0, 0, 0, 0, 0, 0)), (86, .invokevirtual 36, 3, 2, (1, 3, 0, 0, 1, 0)), (89, .astore 7, 2, 0, (0, 0, 0, 0, 0, 0)), (91, .aload_n 0, 1, 0, (0, 0, 0, 0, 0, 0)), (92, .getfield 7, 3, 0, (3, 0, 9, 2, 1, 0)), (95, .aload 5, 2, 0, (0, 0, 0, 0, 0, 0)), (97, .iload_n 2, 1, 0, (0, 0, 0, 0, 0, 0)), (98, .invokevirtual 36, 3, 0, (1, 3, 0, 0, 1, 0)), (101, .astore 8, 2, 0, (0, 0, 0, 0, 0, 0)), (103, .aload 6, 2, 0, (0, 0, 0, 0, 0, 0)), (105, .ifnull 13, 3, 0, (0, 0, 0, 0, 0, 0)), (108, .aload 7, 2, 0, (0, 0, 0, 0, 0, 0)), (110, .ifnull 8, 3, 0, (0, 0, 0, 0, 0, 0)), (113, .aload 8, 2, 0, (0, 0, 0, 0, 0, 0)), (115, .ifnonnull 5, 3, 0, (0, 0, 0, 0, 0, 0)), (118, .iconst 0, 1, 3, (0, 0, 0, 0, 0, 0)), (119, .ireturn, 1, 0, (1, 0, 0, 0, 0, 0)), (120, .aload 7, 2, 0, (0, 0, 0, 0, 0, 0)), (122, .getfield 40, 3, 0, (10, 7, 0, 0, 0, 0)), (125, .aload 8, 2, 0, (0, 0, 0, 0, 0, 0)), (127, .getfield 40, 3, 0, (10, 7, 0, 0, 0, 0)), (130, .isub, 1, 0, (0, 0, 0, 0, 0, 0)), (131, .istore 9, 2, 0, (0, 0, 0, 0, 0, 0)), (133, .iload_n 2, 1, 0, (0, 0, 0, 0, 0, 0)), (134, .ifCond .eq 16, 3, 0, (0, 0, 0, 0, 0, 0)), (137, .aload 6, 2, 0, (0, 0, 0, 0, 0, 0)), (139, .getfield 40, 3, 0, (10, 7, 0, 0, 0, 0)), (142, .iload 9, 2, 0, (0, 0, 0, 0, 0, 0)), (144, .if_icmp .ge 18, 3, 0, (0, 0, 0, 0, 0, 0)), (147, .goto 13, 3, 0, (0, 0, 0, 0, 0, 0)), (150, .aload 6, 2, 0, (0, 0, 0, 0, 0, 0)), (152, .getfield 40, 3, 0, (10, 7, 0, 0, 0, 0)), (155, .iload 9, 2, 0, (0, 0, 0, 0, 0, 0)), (157, .if_icmp .le 5, 3, 0, (0, 0, 0, 0, 0, 0)), (160, .iconst 0, 1, 4, (0, 0, 0, 0, 0, 0)), (161, .ireturn, 1, 0, (1, 0, 0, 0, 0, 0)), (162, .aload 4, 2, 5, (0, 0, 0, 0, 0, 0)), (164, .aload 7, 2, 0, (0, 0, 0, 0, 0, 0)), (166, .getfield 40, 3, 0, (10, 7, 0, 0, 0, 0)), (169, .aload 6, 2, 0, (0, 0, 0, 0, 0, 0)), (171, .aload 7, 2, 0, (0, 0, 0, 0, 0, 0)), (173, .invokestatic 45, 3, 0, (2, 4, 0, 0, 0, 0)), (176, .ifCond .ne 20, 3, 0, (0, 0, 0, 0, 0, 0)), (179, .aload 5, 2, 0, (0, 0, 0, 0, 0, 0)), (181, .aload 8, 2, 0, (0, 0, 0, 0, 0, 0)), (183, .getfield 40, 3, 0, (10, 7, 0, 0, 0, 0)), (186, .aload 6, 2, 0, (0, 0, 0, 0, 0, 0)), (188, .aload 8, 2, 0, (0, 0, 0, 0, 0, 0)), (190, .invokestatic 45, 3, 0, (2, 4, 0, 0, 0, 0)), (193, .ifCond .eq 5, 3, 0, (0, 0, 0, 0, 0, 0)), (196, .iconst 0, 1, 0, (0, 0, 0, 0, 0, 0)), (197, .ireturn, 1, 0, (1, 0, 0, 0, 0, 0)), (198, .aload 6, 2, 0, (0, 0, 0, 0, 0, 0)), (200, .getfield 49, 3, 0, (10, 11, 0, 0, 0, 0)), (203, .aload 7, 2, 0, (0, 0, 0, 0, 0, 0)), (205, .getfield 49, 3, 0, (10, 11, 0, 0, 0, 0)), (208, .aload 8, 2, 0, (0, 0, 0, 0, 0, 0)), (210, .getfield 49, 3, 0, (10, 11, 0, 0, 0, 0)), (213, .invokestatic 52, 3, 0, (3, 2, 0, 0, 0, 0)), (216, .invokestatic 52, 3, 0, (3, 2, 0, 0, 0, 0)), (219, .istore 10, 2, 0, (0, 0, 0, 0, 0, 0)), (221, .aload_n 0, 1, 0, (0, 0, 0, 0, 0, 0)), (222, .aload 4, 2, 0, (0, 0, 0, 0, 0, 0)), (224, .iload_n 2, 1, 0, (0, 0, 0, 0, 0, 0)), (225, .aload 6, 2, 0, (0, 0, 0, 0, 0, 0)), (227, .aload 7, 2, 0, (0, 0, 0, 0, 0, 0)), (229, .aload 7, 2, 0, (0, 0, 0, 0, 0, 0)), (231, .getfield 40, 3, 0, (10, 7, 0, 0, 0, 0)), (234, .iload 10, 2, 0, (0, 0, 0, 0, 0, 0)), (236, .invokevirtual 58, 3, 0, (4, 7, 0, 0, 1, 0)), (239, .aload_n 0, 1, 0, (0, 0, 0, 0, 0, 0)), (240, .aload 5, 2, 0, (0, 0, 0, 0, 0, 0)), (242, .iload_n 2, 1, 0, (0, 0, 0, 0, 0, 0)), (243, .ifCond .ne 7, 3, 0, (0, 0, 0, 0, 0, 0)), (246, .iconst 1, 1, 0, (0, 0, 0, 0, 0, 1)), (247, .goto 4, 3, 0, (0, 0, 0, 0, 0, 0)), (250, .iconst 0, 1, 0, (0, 0, 0, 0, 0, 0)), (251, .aload 6, 2, 0, (0, 0, 0, 0, 0, 0)), (253, .aload 8, 2, 0, (0, 0, 0, 0, 0, 0)), (255, .aload 8, 2, 0, (0, 0, 0, 0, 0, 0)), (257, .getfield 40, 3, 0, (10, 7, 0, 0, 0, 0)), (260, .iload 10, 2, 0, (0, 0, 0, 0, 0, 0)), (262, .invokevirtual 58, 3, 0, (4, 7, 0, 0, 1, 0)), (265, .aload_n 0, 1, 0, (0, 0, 0, 0, 0, 0)), (266, .aload 6, 2, 0, (0, 0, 0, 0, 0, 0)), (268, .aload 7, 2, 0, (0, 0, 0, 0, 0, 0)), (270, .aload 8, 2, 0, (0, 0, 0, 0, 0, 0)), (272, .aconst_null, 1, 0, (10, 0, 0, 0, 0, 0)), (273, .iload 10, 2, 0, (0, 0, 0, 0, 0, 0)), (275, .invokevirtual 62, 3, 0, (5, 6, 0, 0, 1, 0)), (278, .iconst 1, 1, 0, (0, 0, 0, 0, 0, 1)), (279, .ireturn, 1, 0, (1, 0, 0, 0, 0, 0))]
set_option maxRecDepth 100000 in
theorem rk47 : R47.all (rok 0 47 1 [(74, [9, 0]), (82, [9, 4, 0]), (49, [4, 0, 13, 13]), (377, [0, 0]), (50, [6, 4, 0, 13, 13, 0, 0]), (51, [6, 13, 13, 13, 13, 0])]) = true := by decide +kernel
set_option maxRecDepth 100000 in
theorem tab47 {F74 : PM → Int32 → Nat} {G74 : PM → Int32 → Prop} {F82 : PM → Nat → Int32 → Nat} {G82 : PM → Nat → Int32 → Prop} {F49 : PM → Nat → Int32 → Nat → Nat → Int32} {G49 : PM → Nat → Int32 → Nat → Nat → Prop} {F377 : PM → Int32 → Int32 → Int32} {G377 : PM → Int32 → Int32 → Prop} {F50 : PM → Nat → Int32 → Nat → Nat → Int32 → Int32 → PM} {G50 : PM → Nat → Int32 → Nat → Nat → Int32 → Int32 → Prop} {F51 : PM → Nat → Nat → Nat → Nat → Int32 → PM} {G51 : PM → Nat → Nat → Nat → Nat → Int32 → Prop} : TabOK 0 47 1 [CC74 F74 G74, CC82 F82 G82, CC49 F49 G49, CC377 F377 G377, CC50 F50 G50, CC51 F51 G51] R47 := tab_ok (K := K47) rfl rfl (fun h => d47 h) rk47 (by decide +kernel)
set_option maxRecDepth 100000 in
theorem pc47 : cutpc [58, 86, 118, 160, 162] R47 = true := by decide +kernel
set_option maxRecDepth 100000 in
theorem r3_makePair_58 (F74 : PM → Int32 → Nat) (G74 : PM → Int32 → Prop) (o74 : CalOK 0 (CC74 F74 G74)) (F82 : PM → Nat → Int32 → Nat) (G82 : PM → Nat → Int32 → Prop) (o82 : CalOK 0 (CC82 F82 G82)) (F49 : PM → Nat → Int32 → Nat → Nat → Int32) (G49 : PM → Nat → Int32 → Nat → Nat → Prop) (o49 : CalOK 0 (CC49 F49 G49)) (F377 : PM → Int32 → Int32 → Int32) (G377 : PM → Int32 → Int32 → Prop) (o377 : CalOK 0 (CC377 F377 G377)) (F50 : PM → Nat → Int32 → Nat → Nat → Int32 → Int32 → PM) (G50 : PM → Nat → Int32 → Nat → Nat → Int32 → Int32 → Prop) (o50 : CalOK 0 (CC50 F50 G50)) (F51 : PM → Nat → Nat → Nat → Nat → Int32 → PM) (G51 : PM → Nat → Nat → Nat → Nat → Int32 → Prop) (o51 : CalOK 0 (CC51 F51 G51)) : ∀ (p : PM) (d0 d1 d2 d3 d4 d5 d6 d7 d8 d9 d10 : ZV), Gr 0 p → bg3_makePair_58 p → ZJ 0 47 58 [d0, d1, d2, d3, d4, d5, d6, d7, d8, d9, d10] [] p (hwI (bv3_makePair_58 p)) := by
  intro p  d0 d1 d2 d3 d4 d5 d6 d7 d8 d9 d10 hg H
  exact rwI (n := 3000) (q := 58) (la := [d0, d1, d2, d3, d4, d5, d6, d7, d8, d9, d10]) (sa := []) (ks := [fun _ _ s => (0, s), fun _ _ s => (0, s), fun _ _ s => (0, s), fun _ _ s => (0, s), fun _ _ s => (0, s)]) (gs := [fun _ _ _ => False, fun _ _ _ => False, fun _ _ _ => False, fun _ _ _ => False, fun _ _ _ => False]) (fcons o74 (fcons o82 (fcons o49 (fcons o377 (fcons o50 (fcons o51 (fnil))))))) tab47 pc47 ⟨fun _ _ _ _ H => H.elim, fun _ _ _ _ H => H.elim, fun _ _ _ _ H => H.elim, fun _ _ _ _ H => H.elim, fun _ _ _ _ H => H.elim, trivial⟩ hg H
theorem t3_makePair_58 : ∀ (p : PM) (d0 d1 d2 d3 d4 d5 d6 d7 d8 d9 d10 : ZV), Gr 0 p → g3_makePair_58 p → ZJ 0 47 58 [d0, d1, d2, d3, d4, d5, d6, d7, d8, d9, d10] [] p (hwI (v3_makePair_58 p)) := r3_makePair_58 v6_bookAt g6_bookAt ok74 v6_firstOf g6_firstOf ok82 v3_isBarred g3_isBarred ok49 v14_min_7cf53 g14_min_7cf53 ok377 v3_record g3_record ok50 v3_fallTogether g3_fallTogether ok51
set_option maxRecDepth 100000 in
theorem r3_makePair_118 (F74 : PM → Int32 → Nat) (G74 : PM → Int32 → Prop) (o74 : CalOK 0 (CC74 F74 G74)) (F82 : PM → Nat → Int32 → Nat) (G82 : PM → Nat → Int32 → Prop) (o82 : CalOK 0 (CC82 F82 G82)) (F49 : PM → Nat → Int32 → Nat → Nat → Int32) (G49 : PM → Nat → Int32 → Nat → Nat → Prop) (o49 : CalOK 0 (CC49 F49 G49)) (F377 : PM → Int32 → Int32 → Int32) (G377 : PM → Int32 → Int32 → Prop) (o377 : CalOK 0 (CC377 F377 G377)) (F50 : PM → Nat → Int32 → Nat → Nat → Int32 → Int32 → PM) (G50 : PM → Nat → Int32 → Nat → Nat → Int32 → Int32 → Prop) (o50 : CalOK 0 (CC50 F50 G50)) (F51 : PM → Nat → Nat → Nat → Nat → Int32 → PM) (G51 : PM → Nat → Nat → Nat → Nat → Int32 → Prop) (o51 : CalOK 0 (CC51 F51 G51)) : ∀ (p : PM) (d0 d1 d2 d3 d4 d5 d6 d7 d8 d9 d10 : ZV), Gr 0 p → bg3_makePair_118 p → ZJ 0 47 118 [d0, d1, d2, d3, d4, d5, d6, d7, d8, d9, d10] [] p (hwI (bv3_makePair_118 p)) := by
  intro p  d0 d1 d2 d3 d4 d5 d6 d7 d8 d9 d10 hg H
  exact rwI (n := 3000) (q := 118) (la := [d0, d1, d2, d3, d4, d5, d6, d7, d8, d9, d10]) (sa := []) (ks := [fun _ _ s => (0, s), fun _ _ s => (0, s), fun _ _ s => (0, s), fun _ _ s => (0, s), fun _ _ s => (0, s)]) (gs := [fun _ _ _ => False, fun _ _ _ => False, fun _ _ _ => False, fun _ _ _ => False, fun _ _ _ => False]) (fcons o74 (fcons o82 (fcons o49 (fcons o377 (fcons o50 (fcons o51 (fnil))))))) tab47 pc47 ⟨fun _ _ _ _ H => H.elim, fun _ _ _ _ H => H.elim, fun _ _ _ _ H => H.elim, fun _ _ _ _ H => H.elim, fun _ _ _ _ H => H.elim, trivial⟩ hg H
theorem t3_makePair_118 : ∀ (p : PM) (d0 d1 d2 d3 d4 d5 d6 d7 d8 d9 d10 : ZV), Gr 0 p → g3_makePair_118 p → ZJ 0 47 118 [d0, d1, d2, d3, d4, d5, d6, d7, d8, d9, d10] [] p (hwI (v3_makePair_118 p)) := r3_makePair_118 v6_bookAt g6_bookAt ok74 v6_firstOf g6_firstOf ok82 v3_isBarred g3_isBarred ok49 v14_min_7cf53 g14_min_7cf53 ok377 v3_record g3_record ok50 v3_fallTogether g3_fallTogether ok51
set_option maxRecDepth 100000 in
theorem r3_makePair_160 (F74 : PM → Int32 → Nat) (G74 : PM → Int32 → Prop) (o74 : CalOK 0 (CC74 F74 G74)) (F82 : PM → Nat → Int32 → Nat) (G82 : PM → Nat → Int32 → Prop) (o82 : CalOK 0 (CC82 F82 G82)) (F49 : PM → Nat → Int32 → Nat → Nat → Int32) (G49 : PM → Nat → Int32 → Nat → Nat → Prop) (o49 : CalOK 0 (CC49 F49 G49)) (F377 : PM → Int32 → Int32 → Int32) (G377 : PM → Int32 → Int32 → Prop) (o377 : CalOK 0 (CC377 F377 G377)) (F50 : PM → Nat → Int32 → Nat → Nat → Int32 → Int32 → PM) (G50 : PM → Nat → Int32 → Nat → Nat → Int32 → Int32 → Prop) (o50 : CalOK 0 (CC50 F50 G50)) (F51 : PM → Nat → Nat → Nat → Nat → Int32 → PM) (G51 : PM → Nat → Nat → Nat → Nat → Int32 → Prop) (o51 : CalOK 0 (CC51 F51 G51)) : ∀ (p : PM) (d0 d1 d2 d3 d4 d5 d6 d7 d8 d9 d10 : ZV), Gr 0 p → bg3_makePair_160 p → ZJ 0 47 160 [d0, d1, d2, d3, d4, d5, d6, d7, d8, d9, d10] [] p (hwI (bv3_makePair_160 p)) := by
  intro p  d0 d1 d2 d3 d4 d5 d6 d7 d8 d9 d10 hg H
  exact rwI (n := 3000) (q := 160) (la := [d0, d1, d2, d3, d4, d5, d6, d7, d8, d9, d10]) (sa := []) (ks := [fun _ _ s => (0, s), fun _ _ s => (0, s), fun _ _ s => (0, s), fun _ _ s => (0, s), fun _ _ s => (0, s)]) (gs := [fun _ _ _ => False, fun _ _ _ => False, fun _ _ _ => False, fun _ _ _ => False, fun _ _ _ => False]) (fcons o74 (fcons o82 (fcons o49 (fcons o377 (fcons o50 (fcons o51 (fnil))))))) tab47 pc47 ⟨fun _ _ _ _ H => H.elim, fun _ _ _ _ H => H.elim, fun _ _ _ _ H => H.elim, fun _ _ _ _ H => H.elim, fun _ _ _ _ H => H.elim, trivial⟩ hg H
theorem t3_makePair_160 : ∀ (p : PM) (d0 d1 d2 d3 d4 d5 d6 d7 d8 d9 d10 : ZV), Gr 0 p → g3_makePair_160 p → ZJ 0 47 160 [d0, d1, d2, d3, d4, d5, d6, d7, d8, d9, d10] [] p (hwI (v3_makePair_160 p)) := r3_makePair_160 v6_bookAt g6_bookAt ok74 v6_firstOf g6_firstOf ok82 v3_isBarred g3_isBarred ok49 v14_min_7cf53 g14_min_7cf53 ok377 v3_record g3_record ok50 v3_fallTogether g3_fallTogether ok51
set_option maxRecDepth 100000 in
theorem r3_makePair_162 (F74 : PM → Int32 → Nat) (G74 : PM → Int32 → Prop) (o74 : CalOK 0 (CC74 F74 G74)) (F82 : PM → Nat → Int32 → Nat) (G82 : PM → Nat → Int32 → Prop) (o82 : CalOK 0 (CC82 F82 G82)) (F49 : PM → Nat → Int32 → Nat → Nat → Int32) (G49 : PM → Nat → Int32 → Nat → Nat → Prop) (o49 : CalOK 0 (CC49 F49 G49)) (F377 : PM → Int32 → Int32 → Int32) (G377 : PM → Int32 → Int32 → Prop) (o377 : CalOK 0 (CC377 F377 G377)) (F50 : PM → Nat → Int32 → Nat → Nat → Int32 → Int32 → PM) (G50 : PM → Nat → Int32 → Nat → Nat → Int32 → Int32 → Prop) (o50 : CalOK 0 (CC50 F50 G50)) (F51 : PM → Nat → Nat → Nat → Nat → Int32 → PM) (G51 : PM → Nat → Nat → Nat → Nat → Int32 → Prop) (o51 : CalOK 0 (CC51 F51 G51)) : ∀ (p : PM) (v2 : Int32) (v4 : Nat) (v5 : Nat) (v6 : Nat) (v7 : Nat) (v8 : Nat) (d1 d3 d9 d10 : ZV), Gr 0 p → bg3_makePair_162 F49 G49 F50 G50 F51 G51 F377 G377 p v2 v4 v5 v6 v7 v8 → ZJ 0 47 162 [zR 3 1, d1, zI v2, d3, zR 1 v4, zR 1 v5, zR 10 v6, zR 10 v7, zR 10 v8, d9, d10] [] p (hwI (bv3_makePair_162 F49 F50 F51 F377 p v2 v4 v5 v6 v7 v8)) := by
  intro p v2 v4 v5 v6 v7 v8 d1 d3 d9 d10 hg H
  exact rwI (n := 3000) (q := 162) (la := [zR 3 1, d1, zI v2, d3, zR 1 v4, zR 1 v5, zR 10 v6, zR 10 v7, zR 10 v8, d9, d10]) (sa := []) (ks := [fun _ _ s => (0, s), fun _ _ s => (0, s), fun _ _ s => (0, s), fun _ _ s => (0, s), fun _ _ s => (0, s)]) (gs := [fun _ _ _ => False, fun _ _ _ => False, fun _ _ _ => False, fun _ _ _ => False, fun _ _ _ => False]) (fcons o74 (fcons o82 (fcons o49 (fcons o377 (fcons o50 (fcons o51 (fnil))))))) tab47 pc47 ⟨fun _ _ _ _ H => H.elim, fun _ _ _ _ H => H.elim, fun _ _ _ _ H => H.elim, fun _ _ _ _ H => H.elim, fun _ _ _ _ H => H.elim, trivial⟩ hg H
theorem t3_makePair_162 : ∀ (p : PM) (v2 : Int32) (v4 : Nat) (v5 : Nat) (v6 : Nat) (v7 : Nat) (v8 : Nat) (d1 d3 d9 d10 : ZV), Gr 0 p → g3_makePair_162 p v2 v4 v5 v6 v7 v8 → ZJ 0 47 162 [zR 3 1, d1, zI v2, d3, zR 1 v4, zR 1 v5, zR 10 v6, zR 10 v7, zR 10 v8, d9, d10] [] p (hwI (v3_makePair_162 p v2 v4 v5 v6 v7 v8)) := r3_makePair_162 v6_bookAt g6_bookAt ok74 v6_firstOf g6_firstOf ok82 v3_isBarred g3_isBarred ok49 v14_min_7cf53 g14_min_7cf53 ok377 v3_record g3_record ok50 v3_fallTogether g3_fallTogether ok51
set_option maxRecDepth 100000 in
theorem r3_makePair_86 (F74 : PM → Int32 → Nat) (G74 : PM → Int32 → Prop) (o74 : CalOK 0 (CC74 F74 G74)) (F82 : PM → Nat → Int32 → Nat) (G82 : PM → Nat → Int32 → Prop) (o82 : CalOK 0 (CC82 F82 G82)) (F49 : PM → Nat → Int32 → Nat → Nat → Int32) (G49 : PM → Nat → Int32 → Nat → Nat → Prop) (o49 : CalOK 0 (CC49 F49 G49)) (F377 : PM → Int32 → Int32 → Int32) (G377 : PM → Int32 → Int32 → Prop) (o377 : CalOK 0 (CC377 F377 G377)) (F50 : PM → Nat → Int32 → Nat → Nat → Int32 → Int32 → PM) (G50 : PM → Nat → Int32 → Nat → Nat → Int32 → Int32 → Prop) (o50 : CalOK 0 (CC50 F50 G50)) (F51 : PM → Nat → Nat → Nat → Nat → Int32 → PM) (G51 : PM → Nat → Nat → Nat → Nat → Int32 → Prop) (o51 : CalOK 0 (CC51 F51 G51)) (kv118 : PM → Int32 × PM) (kg118 : PM → Prop) (hk118 : ∀ (p : PM) (d0 d1 d2 d3 d4 d5 d6 d7 d8 d9 d10 : ZV), Gr 0 p → kg118 p  → ZJ 0 47 118 [d0, d1, d2, d3, d4, d5, d6, d7, d8, d9, d10] [] p (hwI (kv118 p ))) (kv160 : PM → Int32 × PM) (kg160 : PM → Prop) (hk160 : ∀ (p : PM) (d0 d1 d2 d3 d4 d5 d6 d7 d8 d9 d10 : ZV), Gr 0 p → kg160 p  → ZJ 0 47 160 [d0, d1, d2, d3, d4, d5, d6, d7, d8, d9, d10] [] p (hwI (kv160 p ))) (kv162 : PM → Int32 → Nat → Nat → Nat → Nat → Nat → Int32 × PM) (kg162 : PM → Int32 → Nat → Nat → Nat → Nat → Nat → Prop) (hk162 : ∀ (p : PM) (v2 : Int32) (v4 : Nat) (v5 : Nat) (v6 : Nat) (v7 : Nat) (v8 : Nat) (d1 d3 d9 d10 : ZV), Gr 0 p → kg162 p v2 v4 v5 v6 v7 v8 → ZJ 0 47 162 [zR 3 1, d1, zI v2, d3, zR 1 v4, zR 1 v5, zR 10 v6, zR 10 v7, zR 10 v8, d9, d10] [] p (hwI (kv162 p v2 v4 v5 v6 v7 v8))) : ∀ (p : PM) (v2 : Int32) (v4 : Nat) (v5 : Nat) (v6 : Nat) (s0 : Int32) (s1 : Nat) (d1 d3 d7 d8 d9 d10 : ZV), Gr 0 p → bg3_makePair_86 F82 G82 kg118 kg160 kg162 p v2 v4 v5 v6 s0 s1 → ZJ 0 47 86 [zR 3 1, d1, zI v2, d3, zR 1 v4, zR 1 v5, zR 10 v6, d7, d8, d9, d10] [zI s0, zR 1 s1, zR 6 1] p (hwI (bv3_makePair_86 F82 kv118 kv160 kv162 p v2 v4 v5 v6 s0 s1)) := by
  intro p v2 v4 v5 v6 s0 s1 d1 d3 d7 d8 d9 d10 hg H
  exact rwI (n := 3000) (q := 86) (la := [zR 3 1, d1, zI v2, d3, zR 1 v4, zR 1 v5, zR 10 v6, d7, d8, d9, d10]) (sa := [zI s0, zR 1 s1, zR 6 1]) (ks := [fun _ _ s => (0, s), fun _ _ s => (0, s), fun la sa s => kv118 s, fun la sa s => kv160 s, fun la sa s => kv162 s (ai la 2) (ar la 4) (ar la 5) (ar la 6) (ar la 7) (ar la 8)]) (gs := [fun _ _ _ => False, fun _ _ _ => False, fun la sa s => zsw (tc2 la [(2, 0), (2, 0), (2, 0), (2, 0), (2, 0), (2, 0), (2, 0), (2, 0), (2, 0), (2, 0), (2, 0)] && tc2 sa []) False (kg118 s ), fun la sa s => zsw (tc2 la [(2, 0), (2, 0), (2, 0), (2, 0), (2, 0), (2, 0), (2, 0), (2, 0), (2, 0), (2, 0), (2, 0)] && tc2 sa []) False (kg160 s ), fun la sa s => zsw (tc2 la [(103, 1), (2, 0), (0, 0), (2, 0), (5, 0), (5, 0), (14, 0), (14, 0), (14, 0), (2, 0), (2, 0)] && tc2 sa []) False (kg162 s (ai la 2) (ar la 4) (ar la 5) (ar la 6) (ar la 7) (ar la 8))]) (fcons o74 (fcons o82 (fcons o49 (fcons o377 (fcons o50 (fcons o51 (fnil))))))) tab47 pc47 ⟨fun _ _ _ _ H => H.elim, fun _ _ _ _ H => H.elim, fun la sa s hg H => zcut H fun H => hk118 s (zld la 0) (zld la 1) (zld la 2) (zld la 3) (zld la 4) (zld la 5) (zld la 6) (zld la 7) (zld la 8) (zld la 9) (zld la 10) hg H, fun la sa s hg H => zcut H fun H => hk160 s (zld la 0) (zld la 1) (zld la 2) (zld la 3) (zld la 4) (zld la 5) (zld la 6) (zld la 7) (zld la 8) (zld la 9) (zld la 10) hg H, fun la sa s hg H => zcut H fun H => hk162 s (ai la 2) (ar la 4) (ar la 5) (ar la 6) (ar la 7) (ar la 8) (zld la 1) (zld la 3) (zld la 9) (zld la 10) hg H, trivial⟩ hg H
theorem t3_makePair_86 : ∀ (p : PM) (v2 : Int32) (v4 : Nat) (v5 : Nat) (v6 : Nat) (s0 : Int32) (s1 : Nat) (d1 d3 d7 d8 d9 d10 : ZV), Gr 0 p → g3_makePair_86 p v2 v4 v5 v6 s0 s1 → ZJ 0 47 86 [zR 3 1, d1, zI v2, d3, zR 1 v4, zR 1 v5, zR 10 v6, d7, d8, d9, d10] [zI s0, zR 1 s1, zR 6 1] p (hwI (v3_makePair_86 p v2 v4 v5 v6 s0 s1)) := r3_makePair_86 v6_bookAt g6_bookAt ok74 v6_firstOf g6_firstOf ok82 v3_isBarred g3_isBarred ok49 v14_min_7cf53 g14_min_7cf53 ok377 v3_record g3_record ok50 v3_fallTogether g3_fallTogether ok51 (v3_makePair_118) (g3_makePair_118) (t3_makePair_118) (v3_makePair_160) (g3_makePair_160) (t3_makePair_160) (v3_makePair_162) (g3_makePair_162) (t3_makePair_162)
set_option maxRecDepth 100000 in
theorem r3_makePair (F74 : PM → Int32 → Nat) (G74 : PM → Int32 → Prop) (o74 : CalOK 0 (CC74 F74 G74)) (F82 : PM → Nat → Int32 → Nat) (G82 : PM → Nat → Int32 → Prop) (o82 : CalOK 0 (CC82 F82 G82)) (F49 : PM → Nat → Int32 → Nat → Nat → Int32) (G49 : PM → Nat → Int32 → Nat → Nat → Prop) (o49 : CalOK 0 (CC49 F49 G49)) (F377 : PM → Int32 → Int32 → Int32) (G377 : PM → Int32 → Int32 → Prop) (o377 : CalOK 0 (CC377 F377 G377)) (F50 : PM → Nat → Int32 → Nat → Nat → Int32 → Int32 → PM) (G50 : PM → Nat → Int32 → Nat → Nat → Int32 → Int32 → Prop) (o50 : CalOK 0 (CC50 F50 G50)) (F51 : PM → Nat → Nat → Nat → Nat → Int32 → PM) (G51 : PM → Nat → Nat → Nat → Nat → Int32 → Prop) (o51 : CalOK 0 (CC51 F51 G51)) (kv58 : PM → Int32 × PM) (kg58 : PM → Prop) (hk58 : ∀ (p : PM) (d0 d1 d2 d3 d4 d5 d6 d7 d8 d9 d10 : ZV), Gr 0 p → kg58 p  → ZJ 0 47 58 [d0, d1, d2, d3, d4, d5, d6, d7, d8, d9, d10] [] p (hwI (kv58 p ))) (kv86 : PM → Int32 → Nat → Nat → Nat → Int32 → Nat → Int32 × PM) (kg86 : PM → Int32 → Nat → Nat → Nat → Int32 → Nat → Prop) (hk86 : ∀ (p : PM) (v2 : Int32) (v4 : Nat) (v5 : Nat) (v6 : Nat) (s0 : Int32) (s1 : Nat) (d1 d3 d7 d8 d9 d10 : ZV), Gr 0 p → kg86 p v2 v4 v5 v6 s0 s1 → ZJ 0 47 86 [zR 3 1, d1, zI v2, d3, zR 1 v4, zR 1 v5, zR 10 v6, d7, d8, d9, d10] [zI s0, zR 1 s1, zR 6 1] p (hwI (kv86 p v2 v4 v5 v6 s0 s1))) : ∀ (p : PM) (v1 : Int32) (v2 : Int32), Gr 0 p → bg3_makePair F74 G74 F82 G82 kg58 kg86 p v1 v2 → ZJ 0 47 0 [zR 3 1, zI v1, zI v2, zJ, zJ, zJ, zJ, zJ, zJ, zJ, zJ] [] p (hwI (bv3_makePair F74 F82 kv58 kv86 p v1 v2)) := by
  intro p v1 v2  hg H
  exact rwI (n := 3000) (q := 0) (la := [zR 3 1, zI v1, zI v2, zJ, zJ, zJ, zJ, zJ, zJ, zJ, zJ]) (sa := []) (ks := [fun la sa s => kv58 s, fun la sa s => kv86 s (ai la 2) (ar la 4) (ar la 5) (ar la 6) (ai sa 0) (ar sa 1), fun _ _ s => (0, s), fun _ _ s => (0, s), fun _ _ s => (0, s)]) (gs := [fun la sa s => zsw (tc2 la [(2, 0), (2, 0), (2, 0), (2, 0), (2, 0), (2, 0), (2, 0), (2, 0), (2, 0), (2, 0), (2, 0)] && tc2 sa []) False (kg58 s ), fun la sa s => zsw (tc2 la [(103, 1), (2, 0), (0, 0), (2, 0), (5, 0), (5, 0), (14, 0), (2, 0), (2, 0), (2, 0), (2, 0)] && tc2 sa [(0, 0), (5, 0), (106, 1)]) False (kg86 s (ai la 2) (ar la 4) (ar la 5) (ar la 6) (ai sa 0) (ar sa 1)), fun _ _ _ => False, fun _ _ _ => False, fun _ _ _ => False]) (fcons o74 (fcons o82 (fcons o49 (fcons o377 (fcons o50 (fcons o51 (fnil))))))) tab47 pc47 ⟨fun la sa s hg H => zcut H fun H => hk58 s (zld la 0) (zld la 1) (zld la 2) (zld la 3) (zld la 4) (zld la 5) (zld la 6) (zld la 7) (zld la 8) (zld la 9) (zld la 10) hg H, fun la sa s hg H => zcut H fun H => hk86 s (ai la 2) (ar la 4) (ar la 5) (ar la 6) (ai sa 0) (ar sa 1) (zld la 1) (zld la 3) (zld la 7) (zld la 8) (zld la 9) (zld la 10) hg H, fun _ _ _ _ H => H.elim, fun _ _ _ _ H => H.elim, fun _ _ _ _ H => H.elim, trivial⟩ hg H
theorem t3_makePair : ∀ (p : PM) (v1 : Int32) (v2 : Int32), Gr 0 p → g3_makePair p v1 v2 → ZJ 0 47 0 [zR 3 1, zI v1, zI v2, zJ, zJ, zJ, zJ, zJ, zJ, zJ, zJ] [] p (hwI (v3_makePair p v1 v2)) := r3_makePair v6_bookAt g6_bookAt ok74 v6_firstOf g6_firstOf ok82 v3_isBarred g3_isBarred ok49 v14_min_7cf53 g14_min_7cf53 ok377 v3_record g3_record ok50 v3_fallTogether g3_fallTogether ok51 (v3_makePair_58) (g3_makePair_58) (t3_makePair_58) (v3_makePair_86) (g3_makePair_86) (t3_makePair_86)
def CC47 (F : PM → Int32 → Int32 → Int32 × PM) (G : PM → Int32 → Int32 → Prop) : Cal := (47, [6, 0, 0], 1, false, fun as p => (zI (F p (ai as 1) (ai as 2)).1, (F p (ai as 1) (ai as 2)).2), fun as p => zsw (tc2 as [(103, 1), (0, 0), (0, 0)]) False (G p (ai as 1) (ai as 2)))
set_option maxRecDepth 100000 in
theorem okr47 (F : PM → Int32 → Int32 → Int32 × PM) (G : PM → Int32 → Int32 → Prop) (h : ∀ (p : PM) (v1 : Int32) (v2 : Int32), Gr 0 p → G p v1 v2 → ZJ 0 47 0 [zR 3 1, zI v1, zI v2, zJ, zJ, zJ, zJ, zJ, zJ, zJ, zJ] [] p (hwI (F p v1 v2))) : CalOK 0 (CC47 F G) := cal_ok (m := 11) (by unfold mL; rw [mX_47]) (fun as p hg H => h p (ai as 1) (ai as 2) hg H)
theorem ok47 : CalOK 0 (CC47 v3_makePair g3_makePair) := okr47 v3_makePair g3_makePair t3_makePair
noncomputable def bv3_makeChain_78 (p : PM) : Int32 × PM :=
  ((cn 0), p)
noncomputable def v3_makeChain_78 (p : PM) : Int32 × PM := bv3_makeChain_78 p
noncomputable def bg3_makeChain_78 (p : PM) : Prop :=
  True
noncomputable def g3_makeChain_78 (p : PM) : Prop := bg3_makeChain_78 p
noncomputable def bv3_makeChain_167 (p : PM) : Int32 × PM :=
  ((cn 0), p)
noncomputable def v3_makeChain_167 (p : PM) : Int32 × PM := bv3_makeChain_167 p
noncomputable def bg3_makeChain_167 (p : PM) : Prop :=
  True
noncomputable def g3_makeChain_167 (p : PM) : Prop := bg3_makeChain_167 p
noncomputable def bv3_makeChain_218 (F49 : PM → Nat → Int32 → Nat → Nat → Int32) (F50 : PM → Nat → Int32 → Nat → Nat → Int32 → Int32 → PM) (F51 : PM → Nat → Nat → Nat → Nat → Int32 → PM) (F377 : PM → Int32 → Int32 → Int32) (p : PM) (v1 : Int32) (v2 : Nat) (v3 : Nat) (v4 : Nat) (v5 : Nat) (v6 : Nat) (v7 : Nat) (v8 : Nat) : Int32 × PM :=
  let x1 : Int32 := ((p.1 10 v6 7) + (p.1 10 v8 7))
  if (F49 p v2 (p.1 10 v7 7) v5 v7) = 0 then (
    if (F49 p v3 x1 v5 v6) = 0 then (
      if (F49 p v4 (p.1 10 v8 7) v6 v8) = 0 then (
        let x2 : Int32 := (F377 p (F377 p (p.1 10 v5 11) (p.1 10 v6 11)) (F377 p (p.1 10 v7 11) (p.1 10 v8 11)))
        let p3 : PM := F50 p v2 v1 v5 v7 (p.1 10 v7 7) x2
        let p4 : PM := F50 p3 v3 v1 v6 v5 x1 x2
        if v1 = 0 then (
          let p7 : PM := F50 p4 v4 (cn 1) v6 v8 (p4.1 10 v8 7) x2
          let p8 : PM := F51 p7 v5 v6 v7 v8 x2
          ((cn 1), p8))
        else (
          let p5 : PM := F50 p4 v4 (cn 0) v6 v8 (p4.1 10 v8 7) x2
          let p6 : PM := F51 p5 v5 v6 v7 v8 x2
          ((cn 1), p6)))
      else (
        ((cn 0), p)))
    else (
      ((cn 0), p)))
  else (
    ((cn 0), p))
noncomputable def v3_makeChain_218 (p : PM) (v1 : Int32) (v2 : Nat) (v3 : Nat) (v4 : Nat) (v5 : Nat) (v6 : Nat) (v7 : Nat) (v8 : Nat) : Int32 × PM := bv3_makeChain_218 v3_isBarred v3_record v3_fallTogether v14_min_7cf53 p v1 v2 v3 v4 v5 v6 v7 v8
noncomputable def bg3_makeChain_218 (F49 : PM → Nat → Int32 → Nat → Nat → Int32) (G49 : PM → Nat → Int32 → Nat → Nat → Prop) (F50 : PM → Nat → Int32 → Nat → Nat → Int32 → Int32 → PM) (G50 : PM → Nat → Int32 → Nat → Nat → Int32 → Int32 → Prop) (F51 : PM → Nat → Nat → Nat → Nat → Int32 → PM) (G51 : PM → Nat → Nat → Nat → Nat → Int32 → Prop) (F377 : PM → Int32 → Int32 → Int32) (G377 : PM → Int32 → Int32 → Prop) (p : PM) (v1 : Int32) (v2 : Nat) (v3 : Nat) (v4 : Nat) (v5 : Nat) (v6 : Nat) (v7 : Nat) (v8 : Nat) : Prop :=
  (¬ v6 = 0) ∧ (
  (¬ v8 = 0) ∧ (
  let x1 : Int32 := ((p.1 10 v6 7) + (p.1 10 v8 7))
  (¬ v7 = 0) ∧ (
  (G49 p v2 (p.1 10 v7 7) v5 v7) ∧ (
  if (F49 p v2 (p.1 10 v7 7) v5 v7) = 0 then (
    (G49 p v3 x1 v5 v6) ∧ (
    if (F49 p v3 x1 v5 v6) = 0 then (
      (¬ v8 = 0) ∧ (
      (G49 p v4 (p.1 10 v8 7) v6 v8) ∧ (
      if (F49 p v4 (p.1 10 v8 7) v6 v8) = 0 then (
        (¬ v5 = 0) ∧ (
        (¬ v6 = 0) ∧ (
        (G377 p (p.1 10 v5 11) (p.1 10 v6 11)) ∧ (
        (¬ v7 = 0) ∧ (
        (¬ v8 = 0) ∧ (
        (G377 p (p.1 10 v7 11) (p.1 10 v8 11)) ∧ (
        (G377 p (F377 p (p.1 10 v5 11) (p.1 10 v6 11)) (F377 p (p.1 10 v7 11) (p.1 10 v8 11))) ∧ (
        let x2 : Int32 := (F377 p (F377 p (p.1 10 v5 11) (p.1 10 v6 11)) (F377 p (p.1 10 v7 11) (p.1 10 v8 11)))
        (¬ v7 = 0) ∧ (
        (G50 p v2 v1 v5 v7 (p.1 10 v7 7) x2) ∧ (
        let p3 : PM := F50 p v2 v1 v5 v7 (p.1 10 v7 7) x2
        (G50 p3 v3 v1 v6 v5 x1 x2) ∧ (
        let p4 : PM := F50 p3 v3 v1 v6 v5 x1 x2
        if v1 = 0 then (
          (¬ v8 = 0) ∧ (
          (G50 p4 v4 (cn 1) v6 v8 (p4.1 10 v8 7) x2) ∧ (
          let p7 : PM := F50 p4 v4 (cn 1) v6 v8 (p4.1 10 v8 7) x2
          (G51 p7 v5 v6 v7 v8 x2) ∧ (
          let p8 : PM := F51 p7 v5 v6 v7 v8 x2
          True))))
        else (
          (¬ v8 = 0) ∧ (
          (G50 p4 v4 (cn 0) v6 v8 (p4.1 10 v8 7) x2) ∧ (
          let p5 : PM := F50 p4 v4 (cn 0) v6 v8 (p4.1 10 v8 7) x2
          (G51 p5 v5 v6 v7 v8 x2) ∧ (
          let p6 : PM := F51 p5 v5 v6 v7 v8 x2
          True)))))))))))))))
      else (
        True))))
    else (
      True)))
  else (
    True)))))
noncomputable def g3_makeChain_218 (p : PM) (v1 : Int32) (v2 : Nat) (v3 : Nat) (v4 : Nat) (v5 : Nat) (v6 : Nat) (v7 : Nat) (v8 : Nat) : Prop := bg3_makeChain_218 v3_isBarred g3_isBarred v3_record g3_record v3_fallTogether g3_fallTogether v14_min_7cf53 g14_min_7cf53 p v1 v2 v3 v4 v5 v6 v7 v8
noncomputable def bv3_makeChain_130 (F82 : PM → Nat → Int32 → Nat) (kv167 : PM → Int32 × PM) (kv218 : PM → Int32 → Nat → Nat → Nat → Nat → Nat → Nat → Nat → Int32 × PM) (p : PM) (v1 : Int32) (v2 : Nat) (v3 : Nat) (v4 : Nat) (v5 : Nat) (v6 : Nat) (s0 : Int32) (s1 : Nat) : Int32 × PM :=
  if v5 = 0 then (
    kv167 p)
  else (
    if v6 = 0 then (
      kv167 p)
    else (
      if (F82 p s1 s0) = 0 then (
        kv167 p)
      else (
        if (F82 p v4 v1) = 0 then (
          kv167 p)
        else (
          let x1 : Int32 := ((p.1 10 v5 7) + (p.1 10 v6 7))
          let x2 : Int32 := ((p.1 10 (F82 p s1 s0) 7) - (p.1 10 (F82 p v4 v1) 7))
          if v1 = 0 then (
            if x2 < x1 then (
              ((cn 0), p))
            else (
              kv218 p v1 v2 v3 v4 v5 v6 (F82 p s1 s0) (F82 p v4 v1)))
          else (
            if x1 < x2 then (
              ((cn 0), p))
            else (
              kv218 p v1 v2 v3 v4 v5 v6 (F82 p s1 s0) (F82 p v4 v1)))))))
noncomputable def v3_makeChain_130 (p : PM) (v1 : Int32) (v2 : Nat) (v3 : Nat) (v4 : Nat) (v5 : Nat) (v6 : Nat) (s0 : Int32) (s1 : Nat) : Int32 × PM := bv3_makeChain_130 v6_firstOf v3_makeChain_167 v3_makeChain_218 p v1 v2 v3 v4 v5 v6 s0 s1
noncomputable def bg3_makeChain_130 (F82 : PM → Nat → Int32 → Nat) (G82 : PM → Nat → Int32 → Prop) (kg167 : PM → Prop) (kg218 : PM → Int32 → Nat → Nat → Nat → Nat → Nat → Nat → Nat → Prop) (p : PM) (v1 : Int32) (v2 : Nat) (v3 : Nat) (v4 : Nat) (v5 : Nat) (v6 : Nat) (s0 : Int32) (s1 : Nat) : Prop :=
  (G82 p s1 s0) ∧ (
  (G82 p v4 v1) ∧ (
  if v5 = 0 then (
    kg167 p)
  else (
    if v6 = 0 then (
      kg167 p)
    else (
      if (F82 p s1 s0) = 0 then (
        kg167 p)
      else (
        if (F82 p v4 v1) = 0 then (
          kg167 p)
        else (
          (¬ v5 = 0) ∧ (
          (¬ v6 = 0) ∧ (
          let x1 : Int32 := ((p.1 10 v5 7) + (p.1 10 v6 7))
          (¬ (F82 p s1 s0) = 0) ∧ (
          (¬ (F82 p v4 v1) = 0) ∧ (
          let x2 : Int32 := ((p.1 10 (F82 p s1 s0) 7) - (p.1 10 (F82 p v4 v1) 7))
          if v1 = 0 then (
            if x2 < x1 then (
              True)
            else (
              kg218 p v1 v2 v3 v4 v5 v6 (F82 p s1 s0) (F82 p v4 v1)))
          else (
            if x1 < x2 then (
              True)
            else (
              kg218 p v1 v2 v3 v4 v5 v6 (F82 p s1 s0) (F82 p v4 v1)))))))))))))
noncomputable def g3_makeChain_130 (p : PM) (v1 : Int32) (v2 : Nat) (v3 : Nat) (v4 : Nat) (v5 : Nat) (v6 : Nat) (s0 : Int32) (s1 : Nat) : Prop := bg3_makeChain_130 v6_firstOf g6_firstOf g3_makeChain_167 g3_makeChain_218 p v1 v2 v3 v4 v5 v6 s0 s1
noncomputable def bv3_makeChain (F74 : PM → Int32 → Nat) (F82 : PM → Nat → Int32 → Nat) (kv78 : PM → Int32 × PM) (kv130 : PM → Int32 → Nat → Nat → Nat → Nat → Nat → Int32 → Nat → Int32 × PM) (p : PM) (v1 : Int32) : Int32 × PM :=
  if (p.1 1 (F74 p (cn 4)) 5) = 0 then (
    if (p.1 1 (F74 p (cn 5)) 5) = 0 then (
      if (p.1 1 (F74 p (cn 0)) 5) = 0 then (
        if (p.1 1 (F74 p (cn 1)) 5) = 0 then (
          if (p.1 1 (F74 p (cn 2)) 5) = 0 then (
            let x1 : Nat := (F82 p (F74 p (cn 4)) v1)
            let x2 : Nat := (F82 p (F74 p (cn 5)) v1)
            if v1 = 0 then (
              kv130 p v1 (F74 p (cn 0)) (F74 p (cn 1)) (F74 p (cn 2)) x1 x2 (cn 1) (F74 p (cn 0)))
            else (
              kv130 p v1 (F74 p (cn 0)) (F74 p (cn 1)) (F74 p (cn 2)) x1 x2 (cn 0) (F74 p (cn 0))))
          else (
            kv78 p))
        else (
          kv78 p))
      else (
        kv78 p))
    else (
      kv78 p))
  else (
    kv78 p)
noncomputable def v3_makeChain (p : PM) (v1 : Int32) : Int32 × PM := bv3_makeChain v6_bookAt v6_firstOf v3_makeChain_78 v3_makeChain_130 p v1
noncomputable def bg3_makeChain (F74 : PM → Int32 → Nat) (G74 : PM → Int32 → Prop) (F82 : PM → Nat → Int32 → Nat) (G82 : PM → Nat → Int32 → Prop) (kg78 : PM → Prop) (kg130 : PM → Int32 → Nat → Nat → Nat → Nat → Nat → Int32 → Nat → Prop) (p : PM) (v1 : Int32) : Prop :=
  (G74 p (cn 0)) ∧ (
  (G74 p (cn 1)) ∧ (
  (G74 p (cn 2)) ∧ (
  (G74 p (cn 4)) ∧ (
  (¬ (F74 p (cn 4)) = 0) ∧ (
  if (p.1 1 (F74 p (cn 4)) 5) = 0 then (
    (G74 p (cn 5)) ∧ (
    (¬ (F74 p (cn 5)) = 0) ∧ (
    if (p.1 1 (F74 p (cn 5)) 5) = 0 then (
      (¬ (F74 p (cn 0)) = 0) ∧ (
      if (p.1 1 (F74 p (cn 0)) 5) = 0 then (
        (¬ (F74 p (cn 1)) = 0) ∧ (
        if (p.1 1 (F74 p (cn 1)) 5) = 0 then (
          (¬ (F74 p (cn 2)) = 0) ∧ (
          if (p.1 1 (F74 p (cn 2)) 5) = 0 then (
            (G74 p (cn 4)) ∧ (
            (G82 p (F74 p (cn 4)) v1) ∧ (
            let x1 : Nat := (F82 p (F74 p (cn 4)) v1)
            (G74 p (cn 5)) ∧ (
            (G82 p (F74 p (cn 5)) v1) ∧ (
            let x2 : Nat := (F82 p (F74 p (cn 5)) v1)
            if v1 = 0 then (
              kg130 p v1 (F74 p (cn 0)) (F74 p (cn 1)) (F74 p (cn 2)) x1 x2 (cn 1) (F74 p (cn 0)))
            else (
              kg130 p v1 (F74 p (cn 0)) (F74 p (cn 1)) (F74 p (cn 2)) x1 x2 (cn 0) (F74 p (cn 0))))))))
          else (
            kg78 p)))
        else (
          kg78 p)))
      else (
        kg78 p)))
    else (
      kg78 p))))
  else (
    kg78 p))))))
noncomputable def g3_makeChain (p : PM) (v1 : Int32) : Prop := bg3_makeChain v6_bookAt g6_bookAt v6_firstOf g6_firstOf g3_makeChain_78 g3_makeChain_130 p v1
def R48 : List Row := [(0, .aload_n 0, 1, 0, (0, 0, 0, 0, 0, 0)), (1, .getfield 7, 3, 0, (3, 0, 9, 2, 1, 0)), (4, .iconst 0, 1, 0, (0, 0, 0, 0, 0, 0)), (5, .invokevirtual 17, 3, 0, (0, 2, 0, 0, 1, 0)), (8, .astore_n 2, 1, 0, (0, 0, 0, 0, 0, 0)), (9, .aload_n 0, 1, 0, (0, 0, 0, 0, 0, 0)), (10, .getfield 7, 3, 0, (3, 0, 9, 2, 1, 0)), (13, .iconst 1, 1, 0, (0, 0, 0, 0, 0, 1)), (14, .invokevirtual 17, 3, 0, (0, 2, 0, 0, 1, 0)), (17, .astore_n 3, 1, 0, (0, 0, 0, 0, 0, 0)), (18, .aload_n 0, 1, 0, (0, 0, 0, 0, 0, 0)), (19, .getfield 7, 3, 0, (3, 0, 9, 2, 1, 0)), (22, .iconst 2, 1, 0, (0, 0, 0, 0, 0, 2)), (23, .invokevirtual 17, 3, 0, (0, 2, 0, 0, 1, 0)), (26, .astore 4, 2, 0, (0, 0, 0, 0, 0, 0)), (28, .aload_n 0, 1, 0, (0, 0, 0, 0, 0, 0)), (29, .getfield 7, 3, 0, (3, 0, 9, 2, 1, 0)), (32, .iconst 4, 1, 0, (0, 0, 0, 0, 0, 4)), (33, .invokevirtual 17, 3, 0, (0, 2, 0, 0, 1, 0)), (36, .getfield 32, 3, 0, (1, 5, 1, 0, 0, 0)), (39, .ifCond .ne 39, 3, 0, (0, 0, 0, 0, 0, 0)), (42, .aload_n 0, 1, 0, (0, 0, 0, 0, 0, 0)), (43, .getfield 7, 3, 0, (3, 0, 9, 2, 1, 0)), (46, .iconst 5, 1, 0, (0, 0, 0, 0, 0, 5)), (47, .invokevirtual 17, 3, 0, (0, 2, 0, 0, 1, 0)), (50, .getfield 32, 3, 0, (1, 5, 1, 0, 0, 0)), (53, .ifCond .ne 25, 3, 0, (0, 0, 0, 0, 0, 0)), (56, .aload_n 2, 1, 0, (0, 0, 0, 0, 0, 0)), (57, .getfield 32, 3, 0, (1, 5, 1, 0, 0, 0)), (60, .ifCond .ne 18, 3, 0, (0, 0, 0, 0, 0, 0)), (63, .aload_n 3, 1, 0, (0, 0, 0, 0, 0, 0)), (64, .getfield 32, 3, 0, (1, 5, 1, 0, 0, 0)), (67, .ifCond .ne 11, 3, 0, (0, 0, 0, 0, 0, 0)), (70, .aload 4, 2, 0, (0, 0, 0, 0, 0, 0)), (72, .getfield 32, 3, 0, (1, 5, 1, 0, 0, 0)), (75, .ifCond .eq 5, 3, 0, (0, 0, 0, 0, 0, 0)), (78, .iconst 0, 1, 1, (0, 0, 0, 0, 0, 0)), (79, .ireturn, 1, 0, (1, 0, 0, 0, 0, 0)), (80, .aload_n 0, 1, 0, (0, 0, 0, 0, 0, 0)), (81, .getfield 7, 3, 0, (3, 0, 9, 2, 1, 0)), (84, .aload_n 0, 1, 0, (0, 0, 0, 0, 0, 0)), (85, .getfield 7, 3, 0, (3, 0, 9, 2, 1, 0)), (88, .iconst 4, 1, 0, (0, 0, 0, 0, 0, 4)), (89, .invokevirtual 17, 3, 0, (0, 2, 0, 0, 1, 0)), (92, .iload_n 1, 1, 0, (0, 0, 0, 0, 0, 0)), (93, .invokevirtual 36, 3, 0, (1, 3, 0, 0, 1, 0)), (96, .astore 5, 2, 0, (0, 0, 0, 0, 0, 0)), (98, .aload_n 0, 1, 0, (0, 0, 0, 0, 0, 0)), (99, .getfield 7, 3, 0, (3, 0, 9, 2, 1, 0)), (102, .aload_n 0, 1, 0, (0, 0, 0, 0, 0, 0)), (103, .getfield 7, 3, 0, (3, 0, 9, 2, 1, 0)), (106, .iconst 5, 1, 0, (0, 0, 0, 0, 0, 5)), (107, .invokevirtual 17, 3, 0, (0, 2, 0, 0, 1, 0)), (110, .iload_n 1, 1, 0, (0, 0, 0, 0, 0, 0)), (111, .invokevirtual 36, 3, 0, (1, 3, 0, 0, 1, 0)), (114, .astore 6, 2, 0, (0, 0, 0, 0, 0, 0)), (116, .aload_n 0, 1, 0, (0, 0, 0, 0, 0, 0)), (117, .getfield 7, 3, 0, (3, 0, 9, 2, 1, 0)), (120, .aload_n 2, 1, 0, (0, 0, 0, 0, 0, 0)), (121, .iload_n 1, 1, 0, (0, 0, 0, 0, 0, 0)), (122, .ifCond .ne 7, 3, 0, (0, 0, 0, 0, 0, 0)), (125, .iconst 1, 1, 0, (0, 0, 0, 0, 0, 1)), (126, .goto 4, 3, 0, (0, 0, 0, 0, 0, 0)), (129, .iconst 0, 1, 0, (0, 0, 0, 0, 0, 0)), (130, .invokevirtual 36, 3, 2, (1, 3, 0, 0, 1, 0)), (133, .astore 7, 2, 0, (0, 0, 0, 0, 0, 0)), (135, .aload_n 0, 1, 0, (0, 0, 0, 0, 0, 0)), (136, .getfield 7, 3, 0, (3, 0, 9, 2, 1, 0)), (139, .aload 4, 2, 0, (0, 0, 0, 0, 0, 0)), (141, .iload_n 1, 1, 0, (0, 0, 0, 0, 0, 0)), (142, .invokevirtual 36, 3, 0, (1, 3, 0, 0, 1, 0)), (145, .astore 8, 2, 0, (0, 0, 0, 0, 0, 0)), (147, .aload 5, 2, 0, (0, 0, 0, 0, 0, 0)), (149, .ifnull 18, 3, 0, (0, 0, 0, 0, 0, 0)), (152, .aload 6, 2, 0, (0, 0, 0, 0, 0, 0)), (154, .ifnull 13, 3, 0, (0, 0, 0, 0, 0, 0)), (157, .aload 7, 2, 0, (0, 0, 0, 0, 0, 0)), (159, .ifnull 8, 3, 0, (0, 0, 0, 0, 0, 0)), (162, .aload 8, 2, 0, (0, 0, 0, 0, 0, 0)), (164, .ifnonnull 5, 3, 0, (0, 0, 0, 0, 0, 0)), (167, .iconst 0, 1, 3, (0, 0, 0, 0, 0, 0)), (168, .ireturn, 1, 0, (1, 0, 0, 0, 0, 0)), (169, .aload 5, 2, 0, (0, 0, 0, 0, 0, 0)), (171, .getfield 40, 3, 0, (10, 7, 0, 0, 0, 0)), (174, .aload 6, 2, 0, (0, 0, 0, 0, 0, 0)), (176, .getfield 40, 3, 0, (10, 7, 0, 0, 0, 0)), (179, .iadd, 1, 0, (0, 0, 0, 0, 0, 0)), (180, .istore 9, 2, 0, (0, 0, 0, 0, 0, 0)), (182, .aload 7, 2, 0, (0, 0, 0, 0, 0, 0)), (184, .getfield 40, 3, 0, (10, 7, 0, 0, 0, 0)), (187, .aload 8, 2, 0, (0, 0, 0, 0, 0, 0)), (189, .getfield 40, 3, 0, (10, 7, 0, 0, 0, 0)), (192, .isub, 1, 0, (0, 0, 0, 0, 0, 0)), (193, .istore 10, 2, 0, (0, 0, 0, 0, 0, 0)), (195, .iload_n 1, 1, 0, (0, 0, 0, 0, 0, 0)), (196, .ifCond .eq 13, 3, 0, (0, 0, 0, 0, 0, 0)), (199, .iload 9, 2, 0, (0, 0, 0, 0, 0, 0)), (201, .iload 10, 2, 0, (0, 0, 0, 0, 0, 0)), (203, .if_icmp .ge 15, 3, 0, (0, 0, 0, 0, 0, 0)), (206, .goto 10, 3, 0, (0, 0, 0, 0, 0, 0)), (209, .iload 9, 2, 0, (0, 0, 0, 0, 0, 0)), (211, .iload 10, 2, 0, (0, 0, 0, 0, 0, 0)), (213, .if_icmp .le 5, 3, 0, (0, 0, 0, 0, 0, 0)), (216, .iconst 0, 1, 0, (0, 0, 0, 0, 0, 0)), (217, .ireturn, 1, 0, (1, 0, 0, 0, 0, 0)), (218, .aload 6, 2, 4, (0, 0, 0, 0, 0, 0)), (220, .getfield 40, 3, 0, (10, 7, 0, 0, 0, 0)), (223, .aload 8, 2, 0, (0, 0, 0, 0, 0, 0)), (225, .getfield 40, 3, 0, (10, 7, 0, 0, 0, 0)), (228, .iadd, 1, 0, (0, 0, 0, 0, 0, 0)), (229, .istore 11, 2, 0, (0, 0, 0, 0, 0, 0)), (231, .aload_n 2, 1, 0, (0, 0, 0, 0, 0, 0)), (232, .aload 7, 2, 0, (0, 0, 0, 0, 0, 0)), (234, .getfield 40, 3, 0, (10, 7, 0, 0, 0, 0)), (237, .aload 5, 2, 0, (0, 0, 0, 0, 0, 0)), (239, .aload 7, 2, 0, (0, 0, 0, 0, 0, 0)), (241, .invokestatic 45, 3, 0, (2, 4, 0, 0, 0, 0)), (244, .ifCond .ne 33, 3, 0, (0, 0, 0, 0, 0, 0)), (247, .aload_n 3, 1, 0, (0, 0, 0, 0, 0, 0)), (248, .iload 11, 2, 0, (0, 0, 0, 0, 0, 0)), (250, .aload 5, 2, 0, (0, 0, 0, 0, 0, 0)), (252, .aload 6, 2, 0, (0, 0, 0, 0, 0, 0)), (254, .invokestatic 45, 3, 0, (2, 4, 0, 0, 0, 0)), (257, .ifCond .ne 20, 3, 0, (0, 0, 0, 0, 0, 0)), (260, .aload 4, 2, 0, (0, 0, 0, 0, 0, 0)), (262, .aload 8, 2, 0, (0, 0, 0, 0, 0, 0)), (264, .getfield 40, 3, 0, (10, 7, 0, 0, 0, 0)), (267, .aload 6, 2, 0, (0, 0, 0, 0, 0, 0)), (269, .aload 8, 2, 0, (0, 0, 0, 0, 0, 0)), (271, .invokestatic 45, 3, 0, (2, 4, 0, 0, 0, 0)), (274, .ifCond .eq 5, 3, 0, (0, 0, 0, 0, 0, 0)), (277, .iconst 0, 1, 0, (0, 0, 0, 0, 0, 0)), (278, .ireturn, 1, 0, (1, 0, 0, 0, 0, 0)), (279, .aload 5, 2, 0, (0, 0, 0, 0, 0, 0)), (281, .getfield 49, 3, 0, (10, 11, 0, 0, 0, 0)), (284, .aload 6, 2, 0, (0, 0, 0, 0, 0, 0)), (286, .getfield 49, 3, 0, (10, 11, 0, 0, 0, 0)), (289, .invokestatic 52, 3, 0, (3, 2, 0, 0, 0, 0)), (292, .aload 7, 2, 0, (0, 0, 0, 0, 0, 0)), (294, .getfield 49, 3, 0, (10, 11, 0, 0, 0, 0)), (297, .aload 8, 2, 0, (0, 0, 0, 0, 0, 0)), (299, .getfield 49, 3, 0, (10, 11, 0, 0, 0, 0)), (302, .invokestatic 52, 3, 0, (3, 2, 0, 0, 0, 0)), (305, .invokestatic 52, 3, 0, (3, 2, 0, 0, 0, 0)), (308, .istore 12, 2, 0, (0, 0, 0, 0, 0, 0)), (310, .aload_n 0, 1, 0, (0, 0, 0, 0, 0, 0)), (311, .aload_n 2, 1, 0, (0, 0, 0, 0, 0, 0)), (312, .iload_n 1, 1, 0, (0, 0, 0, 0, 0, 0)), (313, .aload 5, 2, 0, (0, 0, 0, 0, 0, 0)), (315, .aload 7, 2, 0, (0, 0, 0, 0, 0, 0)), (317, .aload 7, 2, 0, (0, 0, 0, 0, 0, 0)), (319, .getfield 40, 3, 0, (10, 7, 0, 0, 0, 0)), (322, .iload 12, 2, 0, (0, 0, 0, 0, 0, 0)), (324, .invokevirtual 58, 3, 0, (4, 7, 0, 0, 1, 0)), (327, .aload_n 0, 1, 0, (0, 0, 0, 0, 0, 0)), (328, .aload_n 3, 1, 0, (0, 0, 0, 0, 0, 0)), (329, .iload_n 1, 1, 0, (0, 0, 0, 0, 0, 0)), (330, .aload 6, 2, 0, (0, 0, 0, 0, 0, 0)), (332, .aload 5, 2, 0, (0, 0, 0, 0, 0, 0)), (334, .iload 11, 2, 0, (0, 0, 0, 0, 0, 0)), (336, .iload 12, 2, 0, (0, 0, 0, 0, 0, 0)), (338, .invokevirtual 58, 3, 0, (4, 7, 0, 0, 1, 0)), (341, .aload_n 0, 1, 0, (0, 0, 0, 0, 0, 0)), (342, .aload 4, 2, 0, (0, 0, 0, 0, 0, 0)), (344, .iload_n 1, 1, 0, (0, 0, 0, 0, 0, 0)), (345, .ifCond .ne 7, 3, 0, (0, 0, 0, 0, 0, 0)), (348, .iconst 1, 1, 0, (0, 0, 0, 0, 0, 1)), (349, .goto 4, 3, 0, (0, 0, 0, 0, 0, 0)), (352, .iconst 0, 1, 0, (0, 0, 0, 0, 0, 0)), (353, .aload 6, 2, 0, (0, 0, 0, 0, 0, 0)), (355, .aload 8, 2, 0, (0, 0, 0, 0, 0, 0)), (357, .aload 8, 2, 0, (0, 0, 0, 0, 0, 0)), (359, .getfield 40, 3, 0, (10, 7, 0, 0, 0, 0)), (362, .iload 12, 2, 0, (0, 0, 0, 0, 0, 0)), (364, .invokevirtual 58, 3, 0, (4, 7, 0, 0, 1, 0)), (367, .aload_n 0, 1, 0, (0, 0, 0, 0, 0, 0)), (368, .aload 5, 2, 0, (0, 0, 0, 0, 0, 0)), (370, .aload 6, 2, 0, (0, 0, 0, 0, 0, 0)), (372, .aload 7, 2, 0, (0, 0, 0, 0, 0, 0)), (374, .aload 8, 2, 0, (0, 0, 0, 0, 0, 0)), (376, .iload 12, 2, 0, (0, 0, 0, 0, 0, 0)), (378, .invokevirtual 62, 3, 0, (5, 6, 0, 0, 1, 0)), (381, .iconst 1, 1, 0, (0, 0, 0, 0, 0, 1)), (382, .ireturn, 1, 0, (1, 0, 0, 0, 0, 0))]
set_option maxRecDepth 100000 in
theorem rk48 : R48.all (rok 0 48 1 [(74, [9, 0]), (82, [9, 4, 0]), (49, [4, 0, 13, 13]), (377, [0, 0]), (50, [6, 4, 0, 13, 13, 0, 0]), (51, [6, 13, 13, 13, 13, 0])]) = true := by decide +kernel
set_option maxRecDepth 100000 in
theorem tab48 {F74 : PM → Int32 → Nat} {G74 : PM → Int32 → Prop} {F82 : PM → Nat → Int32 → Nat} {G82 : PM → Nat → Int32 → Prop} {F49 : PM → Nat → Int32 → Nat → Nat → Int32} {G49 : PM → Nat → Int32 → Nat → Nat → Prop} {F377 : PM → Int32 → Int32 → Int32} {G377 : PM → Int32 → Int32 → Prop} {F50 : PM → Nat → Int32 → Nat → Nat → Int32 → Int32 → PM} {G50 : PM → Nat → Int32 → Nat → Nat → Int32 → Int32 → Prop} {F51 : PM → Nat → Nat → Nat → Nat → Int32 → PM} {G51 : PM → Nat → Nat → Nat → Nat → Int32 → Prop} : TabOK 0 48 1 [CC74 F74 G74, CC82 F82 G82, CC49 F49 G49, CC377 F377 G377, CC50 F50 G50, CC51 F51 G51] R48 := tab_ok (K := K48) rfl rfl (fun h => d48 h) rk48 (by decide +kernel)
set_option maxRecDepth 100000 in
theorem pc48 : cutpc [78, 130, 167, 218] R48 = true := by decide +kernel
set_option maxRecDepth 100000 in
theorem r3_makeChain_78 (F74 : PM → Int32 → Nat) (G74 : PM → Int32 → Prop) (o74 : CalOK 0 (CC74 F74 G74)) (F82 : PM → Nat → Int32 → Nat) (G82 : PM → Nat → Int32 → Prop) (o82 : CalOK 0 (CC82 F82 G82)) (F49 : PM → Nat → Int32 → Nat → Nat → Int32) (G49 : PM → Nat → Int32 → Nat → Nat → Prop) (o49 : CalOK 0 (CC49 F49 G49)) (F377 : PM → Int32 → Int32 → Int32) (G377 : PM → Int32 → Int32 → Prop) (o377 : CalOK 0 (CC377 F377 G377)) (F50 : PM → Nat → Int32 → Nat → Nat → Int32 → Int32 → PM) (G50 : PM → Nat → Int32 → Nat → Nat → Int32 → Int32 → Prop) (o50 : CalOK 0 (CC50 F50 G50)) (F51 : PM → Nat → Nat → Nat → Nat → Int32 → PM) (G51 : PM → Nat → Nat → Nat → Nat → Int32 → Prop) (o51 : CalOK 0 (CC51 F51 G51)) : ∀ (p : PM) (d0 d1 d2 d3 d4 d5 d6 d7 d8 d9 d10 d11 d12 : ZV), Gr 0 p → bg3_makeChain_78 p → ZJ 0 48 78 [d0, d1, d2, d3, d4, d5, d6, d7, d8, d9, d10, d11, d12] [] p (hwI (bv3_makeChain_78 p)) := by
  intro p  d0 d1 d2 d3 d4 d5 d6 d7 d8 d9 d10 d11 d12 hg H
  exact rwI (n := 3000) (q := 78) (la := [d0, d1, d2, d3, d4, d5, d6, d7, d8, d9, d10, d11, d12]) (sa := []) (ks := [fun _ _ s => (0, s), fun _ _ s => (0, s), fun _ _ s => (0, s), fun _ _ s => (0, s)]) (gs := [fun _ _ _ => False, fun _ _ _ => False, fun _ _ _ => False, fun _ _ _ => False]) (fcons o74 (fcons o82 (fcons o49 (fcons o377 (fcons o50 (fcons o51 (fnil))))))) tab48 pc48 ⟨fun _ _ _ _ H => H.elim, fun _ _ _ _ H => H.elim, fun _ _ _ _ H => H.elim, fun _ _ _ _ H => H.elim, trivial⟩ hg H
theorem t3_makeChain_78 : ∀ (p : PM) (d0 d1 d2 d3 d4 d5 d6 d7 d8 d9 d10 d11 d12 : ZV), Gr 0 p → g3_makeChain_78 p → ZJ 0 48 78 [d0, d1, d2, d3, d4, d5, d6, d7, d8, d9, d10, d11, d12] [] p (hwI (v3_makeChain_78 p)) := r3_makeChain_78 v6_bookAt g6_bookAt ok74 v6_firstOf g6_firstOf ok82 v3_isBarred g3_isBarred ok49 v14_min_7cf53 g14_min_7cf53 ok377 v3_record g3_record ok50 v3_fallTogether g3_fallTogether ok51
set_option maxRecDepth 100000 in
theorem r3_makeChain_167 (F74 : PM → Int32 → Nat) (G74 : PM → Int32 → Prop) (o74 : CalOK 0 (CC74 F74 G74)) (F82 : PM → Nat → Int32 → Nat) (G82 : PM → Nat → Int32 → Prop) (o82 : CalOK 0 (CC82 F82 G82)) (F49 : PM → Nat → Int32 → Nat → Nat → Int32) (G49 : PM → Nat → Int32 → Nat → Nat → Prop) (o49 : CalOK 0 (CC49 F49 G49)) (F377 : PM → Int32 → Int32 → Int32) (G377 : PM → Int32 → Int32 → Prop) (o377 : CalOK 0 (CC377 F377 G377)) (F50 : PM → Nat → Int32 → Nat → Nat → Int32 → Int32 → PM) (G50 : PM → Nat → Int32 → Nat → Nat → Int32 → Int32 → Prop) (o50 : CalOK 0 (CC50 F50 G50)) (F51 : PM → Nat → Nat → Nat → Nat → Int32 → PM) (G51 : PM → Nat → Nat → Nat → Nat → Int32 → Prop) (o51 : CalOK 0 (CC51 F51 G51)) : ∀ (p : PM) (d0 d1 d2 d3 d4 d5 d6 d7 d8 d9 d10 d11 d12 : ZV), Gr 0 p → bg3_makeChain_167 p → ZJ 0 48 167 [d0, d1, d2, d3, d4, d5, d6, d7, d8, d9, d10, d11, d12] [] p (hwI (bv3_makeChain_167 p)) := by
  intro p  d0 d1 d2 d3 d4 d5 d6 d7 d8 d9 d10 d11 d12 hg H
  exact rwI (n := 3000) (q := 167) (la := [d0, d1, d2, d3, d4, d5, d6, d7, d8, d9, d10, d11, d12]) (sa := []) (ks := [fun _ _ s => (0, s), fun _ _ s => (0, s), fun _ _ s => (0, s), fun _ _ s => (0, s)]) (gs := [fun _ _ _ => False, fun _ _ _ => False, fun _ _ _ => False, fun _ _ _ => False]) (fcons o74 (fcons o82 (fcons o49 (fcons o377 (fcons o50 (fcons o51 (fnil))))))) tab48 pc48 ⟨fun _ _ _ _ H => H.elim, fun _ _ _ _ H => H.elim, fun _ _ _ _ H => H.elim, fun _ _ _ _ H => H.elim, trivial⟩ hg H
theorem t3_makeChain_167 : ∀ (p : PM) (d0 d1 d2 d3 d4 d5 d6 d7 d8 d9 d10 d11 d12 : ZV), Gr 0 p → g3_makeChain_167 p → ZJ 0 48 167 [d0, d1, d2, d3, d4, d5, d6, d7, d8, d9, d10, d11, d12] [] p (hwI (v3_makeChain_167 p)) := r3_makeChain_167 v6_bookAt g6_bookAt ok74 v6_firstOf g6_firstOf ok82 v3_isBarred g3_isBarred ok49 v14_min_7cf53 g14_min_7cf53 ok377 v3_record g3_record ok50 v3_fallTogether g3_fallTogether ok51
set_option maxRecDepth 100000 in
theorem r3_makeChain_218 (F74 : PM → Int32 → Nat) (G74 : PM → Int32 → Prop) (o74 : CalOK 0 (CC74 F74 G74)) (F82 : PM → Nat → Int32 → Nat) (G82 : PM → Nat → Int32 → Prop) (o82 : CalOK 0 (CC82 F82 G82)) (F49 : PM → Nat → Int32 → Nat → Nat → Int32) (G49 : PM → Nat → Int32 → Nat → Nat → Prop) (o49 : CalOK 0 (CC49 F49 G49)) (F377 : PM → Int32 → Int32 → Int32) (G377 : PM → Int32 → Int32 → Prop) (o377 : CalOK 0 (CC377 F377 G377)) (F50 : PM → Nat → Int32 → Nat → Nat → Int32 → Int32 → PM) (G50 : PM → Nat → Int32 → Nat → Nat → Int32 → Int32 → Prop) (o50 : CalOK 0 (CC50 F50 G50)) (F51 : PM → Nat → Nat → Nat → Nat → Int32 → PM) (G51 : PM → Nat → Nat → Nat → Nat → Int32 → Prop) (o51 : CalOK 0 (CC51 F51 G51)) : ∀ (p : PM) (v1 : Int32) (v2 : Nat) (v3 : Nat) (v4 : Nat) (v5 : Nat) (v6 : Nat) (v7 : Nat) (v8 : Nat) (d9 d10 d11 d12 : ZV), Gr 0 p → bg3_makeChain_218 F49 G49 F50 G50 F51 G51 F377 G377 p v1 v2 v3 v4 v5 v6 v7 v8 → ZJ 0 48 218 [zR 3 1, zI v1, zR 1 v2, zR 1 v3, zR 1 v4, zR 10 v5, zR 10 v6, zR 10 v7, zR 10 v8, d9, d10, d11, d12] [] p (hwI (bv3_makeChain_218 F49 F50 F51 F377 p v1 v2 v3 v4 v5 v6 v7 v8)) := by
  intro p v1 v2 v3 v4 v5 v6 v7 v8 d9 d10 d11 d12 hg H
  exact rwI (n := 3000) (q := 218) (la := [zR 3 1, zI v1, zR 1 v2, zR 1 v3, zR 1 v4, zR 10 v5, zR 10 v6, zR 10 v7, zR 10 v8, d9, d10, d11, d12]) (sa := []) (ks := [fun _ _ s => (0, s), fun _ _ s => (0, s), fun _ _ s => (0, s), fun _ _ s => (0, s)]) (gs := [fun _ _ _ => False, fun _ _ _ => False, fun _ _ _ => False, fun _ _ _ => False]) (fcons o74 (fcons o82 (fcons o49 (fcons o377 (fcons o50 (fcons o51 (fnil))))))) tab48 pc48 ⟨fun _ _ _ _ H => H.elim, fun _ _ _ _ H => H.elim, fun _ _ _ _ H => H.elim, fun _ _ _ _ H => H.elim, trivial⟩ hg H
theorem t3_makeChain_218 : ∀ (p : PM) (v1 : Int32) (v2 : Nat) (v3 : Nat) (v4 : Nat) (v5 : Nat) (v6 : Nat) (v7 : Nat) (v8 : Nat) (d9 d10 d11 d12 : ZV), Gr 0 p → g3_makeChain_218 p v1 v2 v3 v4 v5 v6 v7 v8 → ZJ 0 48 218 [zR 3 1, zI v1, zR 1 v2, zR 1 v3, zR 1 v4, zR 10 v5, zR 10 v6, zR 10 v7, zR 10 v8, d9, d10, d11, d12] [] p (hwI (v3_makeChain_218 p v1 v2 v3 v4 v5 v6 v7 v8)) := r3_makeChain_218 v6_bookAt g6_bookAt ok74 v6_firstOf g6_firstOf ok82 v3_isBarred g3_isBarred ok49 v14_min_7cf53 g14_min_7cf53 ok377 v3_record g3_record ok50 v3_fallTogether g3_fallTogether ok51
set_option maxRecDepth 100000 in
theorem r3_makeChain_130 (F74 : PM → Int32 → Nat) (G74 : PM → Int32 → Prop) (o74 : CalOK 0 (CC74 F74 G74)) (F82 : PM → Nat → Int32 → Nat) (G82 : PM → Nat → Int32 → Prop) (o82 : CalOK 0 (CC82 F82 G82)) (F49 : PM → Nat → Int32 → Nat → Nat → Int32) (G49 : PM → Nat → Int32 → Nat → Nat → Prop) (o49 : CalOK 0 (CC49 F49 G49)) (F377 : PM → Int32 → Int32 → Int32) (G377 : PM → Int32 → Int32 → Prop) (o377 : CalOK 0 (CC377 F377 G377)) (F50 : PM → Nat → Int32 → Nat → Nat → Int32 → Int32 → PM) (G50 : PM → Nat → Int32 → Nat → Nat → Int32 → Int32 → Prop) (o50 : CalOK 0 (CC50 F50 G50)) (F51 : PM → Nat → Nat → Nat → Nat → Int32 → PM) (G51 : PM → Nat → Nat → Nat → Nat → Int32 → Prop) (o51 : CalOK 0 (CC51 F51 G51)) (kv167 : PM → Int32 × PM) (kg167 : PM → Prop) (hk167 : ∀ (p : PM) (d0 d1 d2 d3 d4 d5 d6 d7 d8 d9 d10 d11 d12 : ZV), Gr 0 p → kg167 p  → ZJ 0 48 167 [d0, d1, d2, d3, d4, d5, d6, d7, d8, d9, d10, d11, d12] [] p (hwI (kv167 p ))) (kv218 : PM → Int32 → Nat → Nat → Nat → Nat → Nat → Nat → Nat → Int32 × PM) (kg218 : PM → Int32 → Nat → Nat → Nat → Nat → Nat → Nat → Nat → Prop) (hk218 : ∀ (p : PM) (v1 : Int32) (v2 : Nat) (v3 : Nat) (v4 : Nat) (v5 : Nat) (v6 : Nat) (v7 : Nat) (v8 : Nat) (d9 d10 d11 d12 : ZV), Gr 0 p → kg218 p v1 v2 v3 v4 v5 v6 v7 v8 → ZJ 0 48 218 [zR 3 1, zI v1, zR 1 v2, zR 1 v3, zR 1 v4, zR 10 v5, zR 10 v6, zR 10 v7, zR 10 v8, d9, d10, d11, d12] [] p (hwI (kv218 p v1 v2 v3 v4 v5 v6 v7 v8))) : ∀ (p : PM) (v1 : Int32) (v2 : Nat) (v3 : Nat) (v4 : Nat) (v5 : Nat) (v6 : Nat) (s0 : Int32) (s1 : Nat) (d7 d8 d9 d10 d11 d12 : ZV), Gr 0 p → bg3_makeChain_130 F82 G82 kg167 kg218 p v1 v2 v3 v4 v5 v6 s0 s1 → ZJ 0 48 130 [zR 3 1, zI v1, zR 1 v2, zR 1 v3, zR 1 v4, zR 10 v5, zR 10 v6, d7, d8, d9, d10, d11, d12] [zI s0, zR 1 s1, zR 6 1] p (hwI (bv3_makeChain_130 F82 kv167 kv218 p v1 v2 v3 v4 v5 v6 s0 s1)) := by
  intro p v1 v2 v3 v4 v5 v6 s0 s1 d7 d8 d9 d10 d11 d12 hg H
  exact rwI (n := 3000) (q := 130) (la := [zR 3 1, zI v1, zR 1 v2, zR 1 v3, zR 1 v4, zR 10 v5, zR 10 v6, d7, d8, d9, d10, d11, d12]) (sa := [zI s0, zR 1 s1, zR 6 1]) (ks := [fun _ _ s => (0, s), fun _ _ s => (0, s), fun la sa s => kv167 s, fun la sa s => kv218 s (ai la 1) (ar la 2) (ar la 3) (ar la 4) (ar la 5) (ar la 6) (ar la 7) (ar la 8)]) (gs := [fun _ _ _ => False, fun _ _ _ => False, fun la sa s => zsw (tc2 la [(2, 0), (2, 0), (2, 0), (2, 0), (2, 0), (2, 0), (2, 0), (2, 0), (2, 0), (2, 0), (2, 0), (2, 0), (2, 0)] && tc2 sa []) False (kg167 s ), fun la sa s => zsw (tc2 la [(103, 1), (0, 0), (5, 0), (5, 0), (5, 0), (14, 0), (14, 0), (14, 0), (14, 0), (2, 0), (2, 0), (2, 0), (2, 0)] && tc2 sa []) False (kg218 s (ai la 1) (ar la 2) (ar la 3) (ar la 4) (ar la 5) (ar la 6) (ar la 7) (ar la 8))]) (fcons o74 (fcons o82 (fcons o49 (fcons o377 (fcons o50 (fcons o51 (fnil))))))) tab48 pc48 ⟨fun _ _ _ _ H => H.elim, fun _ _ _ _ H => H.elim, fun la sa s hg H => zcut H fun H => hk167 s (zld la 0) (zld la 1) (zld la 2) (zld la 3) (zld la 4) (zld la 5) (zld la 6) (zld la 7) (zld la 8) (zld la 9) (zld la 10) (zld la 11) (zld la 12) hg H, fun la sa s hg H => zcut H fun H => hk218 s (ai la 1) (ar la 2) (ar la 3) (ar la 4) (ar la 5) (ar la 6) (ar la 7) (ar la 8) (zld la 9) (zld la 10) (zld la 11) (zld la 12) hg H, trivial⟩ hg H
theorem t3_makeChain_130 : ∀ (p : PM) (v1 : Int32) (v2 : Nat) (v3 : Nat) (v4 : Nat) (v5 : Nat) (v6 : Nat) (s0 : Int32) (s1 : Nat) (d7 d8 d9 d10 d11 d12 : ZV), Gr 0 p → g3_makeChain_130 p v1 v2 v3 v4 v5 v6 s0 s1 → ZJ 0 48 130 [zR 3 1, zI v1, zR 1 v2, zR 1 v3, zR 1 v4, zR 10 v5, zR 10 v6, d7, d8, d9, d10, d11, d12] [zI s0, zR 1 s1, zR 6 1] p (hwI (v3_makeChain_130 p v1 v2 v3 v4 v5 v6 s0 s1)) := r3_makeChain_130 v6_bookAt g6_bookAt ok74 v6_firstOf g6_firstOf ok82 v3_isBarred g3_isBarred ok49 v14_min_7cf53 g14_min_7cf53 ok377 v3_record g3_record ok50 v3_fallTogether g3_fallTogether ok51 (v3_makeChain_167) (g3_makeChain_167) (t3_makeChain_167) (v3_makeChain_218) (g3_makeChain_218) (t3_makeChain_218)
set_option maxRecDepth 100000 in
theorem r3_makeChain (F74 : PM → Int32 → Nat) (G74 : PM → Int32 → Prop) (o74 : CalOK 0 (CC74 F74 G74)) (F82 : PM → Nat → Int32 → Nat) (G82 : PM → Nat → Int32 → Prop) (o82 : CalOK 0 (CC82 F82 G82)) (F49 : PM → Nat → Int32 → Nat → Nat → Int32) (G49 : PM → Nat → Int32 → Nat → Nat → Prop) (o49 : CalOK 0 (CC49 F49 G49)) (F377 : PM → Int32 → Int32 → Int32) (G377 : PM → Int32 → Int32 → Prop) (o377 : CalOK 0 (CC377 F377 G377)) (F50 : PM → Nat → Int32 → Nat → Nat → Int32 → Int32 → PM) (G50 : PM → Nat → Int32 → Nat → Nat → Int32 → Int32 → Prop) (o50 : CalOK 0 (CC50 F50 G50)) (F51 : PM → Nat → Nat → Nat → Nat → Int32 → PM) (G51 : PM → Nat → Nat → Nat → Nat → Int32 → Prop) (o51 : CalOK 0 (CC51 F51 G51)) (kv78 : PM → Int32 × PM) (kg78 : PM → Prop) (hk78 : ∀ (p : PM) (d0 d1 d2 d3 d4 d5 d6 d7 d8 d9 d10 d11 d12 : ZV), Gr 0 p → kg78 p  → ZJ 0 48 78 [d0, d1, d2, d3, d4, d5, d6, d7, d8, d9, d10, d11, d12] [] p (hwI (kv78 p ))) (kv130 : PM → Int32 → Nat → Nat → Nat → Nat → Nat → Int32 → Nat → Int32 × PM) (kg130 : PM → Int32 → Nat → Nat → Nat → Nat → Nat → Int32 → Nat → Prop) (hk130 : ∀ (p : PM) (v1 : Int32) (v2 : Nat) (v3 : Nat) (v4 : Nat) (v5 : Nat) (v6 : Nat) (s0 : Int32) (s1 : Nat) (d7 d8 d9 d10 d11 d12 : ZV), Gr 0 p → kg130 p v1 v2 v3 v4 v5 v6 s0 s1 → ZJ 0 48 130 [zR 3 1, zI v1, zR 1 v2, zR 1 v3, zR 1 v4, zR 10 v5, zR 10 v6, d7, d8, d9, d10, d11, d12] [zI s0, zR 1 s1, zR 6 1] p (hwI (kv130 p v1 v2 v3 v4 v5 v6 s0 s1))) : ∀ (p : PM) (v1 : Int32), Gr 0 p → bg3_makeChain F74 G74 F82 G82 kg78 kg130 p v1 → ZJ 0 48 0 [zR 3 1, zI v1, zJ, zJ, zJ, zJ, zJ, zJ, zJ, zJ, zJ, zJ, zJ] [] p (hwI (bv3_makeChain F74 F82 kv78 kv130 p v1)) := by
  intro p v1  hg H
  exact rwI (n := 3000) (q := 0) (la := [zR 3 1, zI v1, zJ, zJ, zJ, zJ, zJ, zJ, zJ, zJ, zJ, zJ, zJ]) (sa := []) (ks := [fun la sa s => kv78 s, fun la sa s => kv130 s (ai la 1) (ar la 2) (ar la 3) (ar la 4) (ar la 5) (ar la 6) (ai sa 0) (ar sa 1), fun _ _ s => (0, s), fun _ _ s => (0, s)]) (gs := [fun la sa s => zsw (tc2 la [(2, 0), (2, 0), (2, 0), (2, 0), (2, 0), (2, 0), (2, 0), (2, 0), (2, 0), (2, 0), (2, 0), (2, 0), (2, 0)] && tc2 sa []) False (kg78 s ), fun la sa s => zsw (tc2 la [(103, 1), (0, 0), (5, 0), (5, 0), (5, 0), (14, 0), (14, 0), (2, 0), (2, 0), (2, 0), (2, 0), (2, 0), (2, 0)] && tc2 sa [(0, 0), (5, 0), (106, 1)]) False (kg130 s (ai la 1) (ar la 2) (ar la 3) (ar la 4) (ar la 5) (ar la 6) (ai sa 0) (ar sa 1)), fun _ _ _ => False, fun _ _ _ => False]) (fcons o74 (fcons o82 (fcons o49 (fcons o377 (fcons o50 (fcons o51 (fnil))))))) tab48 pc48 ⟨fun la sa s hg H => zcut H fun H => hk78 s (zld la 0) (zld la 1) (zld la 2) (zld la 3) (zld la 4) (zld la 5) (zld la 6) (zld la 7) (zld la 8) (zld la 9) (zld la 10) (zld la 11) (zld la 12) hg H, fun la sa s hg H => zcut H fun H => hk130 s (ai la 1) (ar la 2) (ar la 3) (ar la 4) (ar la 5) (ar la 6) (ai sa 0) (ar sa 1) (zld la 7) (zld la 8) (zld la 9) (zld la 10) (zld la 11) (zld la 12) hg H, fun _ _ _ _ H => H.elim, fun _ _ _ _ H => H.elim, trivial⟩ hg H
theorem t3_makeChain : ∀ (p : PM) (v1 : Int32), Gr 0 p → g3_makeChain p v1 → ZJ 0 48 0 [zR 3 1, zI v1, zJ, zJ, zJ, zJ, zJ, zJ, zJ, zJ, zJ, zJ, zJ] [] p (hwI (v3_makeChain p v1)) := r3_makeChain v6_bookAt g6_bookAt ok74 v6_firstOf g6_firstOf ok82 v3_isBarred g3_isBarred ok49 v14_min_7cf53 g14_min_7cf53 ok377 v3_record g3_record ok50 v3_fallTogether g3_fallTogether ok51 (v3_makeChain_78) (g3_makeChain_78) (t3_makeChain_78) (v3_makeChain_130) (g3_makeChain_130) (t3_makeChain_130)
def CC48 (F : PM → Int32 → Int32 × PM) (G : PM → Int32 → Prop) : Cal := (48, [6, 0], 1, false, fun as p => (zI (F p (ai as 1)).1, (F p (ai as 1)).2), fun as p => zsw (tc2 as [(103, 1), (0, 0)]) False (G p (ai as 1)))
set_option maxRecDepth 100000 in
theorem okr48 (F : PM → Int32 → Int32 × PM) (G : PM → Int32 → Prop) (h : ∀ (p : PM) (v1 : Int32), Gr 0 p → G p v1 → ZJ 0 48 0 [zR 3 1, zI v1, zJ, zJ, zJ, zJ, zJ, zJ, zJ, zJ, zJ, zJ, zJ] [] p (hwI (F p v1))) : CalOK 0 (CC48 F G) := cal_ok (m := 13) (by unfold mL; rw [mX_48]) (fun as p hg H => h p (ai as 1) hg H)
theorem ok48 : CalOK 0 (CC48 v3_makeChain g3_makeChain) := okr48 v3_makeChain g3_makeChain t3_makeChain
noncomputable def bv4_counts (p : PM) (v0 : Nat) : Int32 :=
  if (p.1 4 v0 6) = 0 then (
    (cn 0))
  else (
    if (p.1 4 v0 5) = 0 then (
      (cn 1))
    else (
      (cn 0)))
noncomputable def v4_counts (p : PM) (v0 : Nat) : Int32 := bv4_counts p v0
noncomputable def bg4_counts (p : PM) (v0 : Nat) : Prop :=
  (¬ v0 = 0) ∧ (
  if (p.1 4 v0 6) = 0 then (
    True)
  else (
    (¬ v0 = 0) ∧ (
    if (p.1 4 v0 5) = 0 then (
      True)
    else (
      True))))
noncomputable def g4_counts (p : PM) (v0 : Nat) : Prop := bg4_counts p v0
def R54 : List Row := [(0, .aload_n 0, 1, 0, (0, 0, 0, 0, 0, 0)), (1, .getfield 31, 3, 0, (4, 6, 1, 0, 0, 0)), (4, .ifCond .eq 14, 3, 0, (0, 0, 0, 0, 0, 0)), (7, .aload_n 0, 1, 0, (0, 0, 0, 0, 0, 0)), (8, .getfield 27, 3, 0, (4, 5, 1, 0, 0, 0)), (11, .ifCond .ne 7, 3, 0, (0, 0, 0, 0, 0, 0)), (14, .iconst 1, 1, 0, (0, 0, 0, 0, 0, 1)), (15, .goto 4, 3, 0, (0, 0, 0, 0, 0, 0)), (18, .iconst 0, 1, 0, (0, 0, 0, 0, 0, 0)), (19, .ireturn, 1, 0, (1, 0, 0, 0, 0, 0))]
set_option maxRecDepth 100000 in
theorem rk54 : R54.all (rok 0 54 1 []) = true := by decide +kernel
set_option maxRecDepth 100000 in
theorem tab54 : TabOK 0 54 1 [] R54 := tab_ok (K := K54) rfl rfl (fun h => d54 h) rk54 (by decide +kernel)
set_option maxRecDepth 100000 in
theorem pc54 : cutpc [] R54 = true := by decide +kernel
set_option maxRecDepth 100000 in
theorem r4_counts (p : PM) (hg : Gr 0 p) : ∀ (v0 : Nat), bg4_counts p v0 → ZJ 0 54 0 [zR 4 v0] [] p (hoI p (bv4_counts p v0)) := by
  intro v0  H
  exact roI (n := 3000) (q := 0) (la := [zR 4 v0]) (sa := []) (ks := []) (gs := []) (fnil) tab54 pc54 trivial hg H
theorem t4_counts (p : PM) (hg : Gr 0 p) : ∀ (v0 : Nat), g4_counts p v0 → ZJ 0 54 0 [zR 4 v0] [] p (hoI p (v4_counts p v0)) := r4_counts p hg
def CC54 (F : PM → Nat → Int32) (G : PM → Nat → Prop) : Cal := (54, [7], 1, true, fun as p => (zI (F p (ar as 0)), p), fun as p => zsw (tc2 as [(8, 0)]) False (G p (ar as 0)))
set_option maxRecDepth 100000 in
theorem okr54 (F : PM → Nat → Int32) (G : PM → Nat → Prop) (h : ∀ (p : PM) (v0 : Nat), Gr 0 p → G p v0 → ZJ 0 54 0 [zR 4 v0] [] p (hoI p (F p v0))) : CalOK 0 (CC54 F G) := cal_ok (m := 1) (by unfold mL; rw [mX_54]) (fun as p hg H => h p (ar as 0) hg H)
theorem ok54 : CalOK 0 (CC54 v4_counts g4_counts) := okr54 v4_counts g4_counts (fun p v0 hg H => t4_counts p hg v0 H)
noncomputable def bv4_tell (p : PM) (v0 : Nat) (v1 : Int32) : Int32 :=
  if v1 = (cn 0) then (
    (p.1 1 (p.2.2 4 v0 0) 0))
  else (
    if v1 = (cn 1) then (
      (p.1 0 (p.2.2 4 v0 1) 0))
    else (
      if v1 = (cn 2) then (
        (p.1 0 (p.2.2 4 v0 2) 0))
      else (
        if v1 = (cn 3) then (
          (p.1 4 v0 3))
        else (
          if v1 = (cn 4) then (
            (p.1 4 v0 4))
          else (
            if (p.1 4 v0 5) = 0 then (
              (cn 0))
            else (
              (cn 1)))))))
noncomputable def v4_tell (p : PM) (v0 : Nat) (v1 : Int32) : Int32 := bv4_tell p v0 v1
noncomputable def bg4_tell (p : PM) (v0 : Nat) (v1 : Int32) : Prop :=
  if v1 = (cn 0) then (
    (¬ v0 = 0) ∧ (
    (¬ (p.2.2 4 v0 0) = 0) ∧ (
    True)))
  else (
    if v1 = (cn 1) then (
      (¬ v0 = 0) ∧ (
      (¬ (p.2.2 4 v0 1) = 0) ∧ (
      True)))
    else (
      if v1 = (cn 2) then (
        (¬ v0 = 0) ∧ (
        (¬ (p.2.2 4 v0 2) = 0) ∧ (
        True)))
      else (
        if v1 = (cn 3) then (
          (¬ v0 = 0) ∧ (
          True))
        else (
          if v1 = (cn 4) then (
            (¬ v0 = 0) ∧ (
            True))
          else (
            (¬ v0 = 0) ∧ (
            if (p.1 4 v0 5) = 0 then (
              True)
            else (
              True)))))))
noncomputable def g4_tell (p : PM) (v0 : Nat) (v1 : Int32) : Prop := bg4_tell p v0 v1
def R55 : List Row := [(0, .iload_n 1, 1, 0, (0, 0, 0, 0, 0, 0)), (1, .tableswitch 69 0 4 #[35, 43, 51, 59, 64], 35, 0, (0, 0, 0, 0, 0, 0)), (36, .aload_n 0, 1, 0, (0, 0, 0, 0, 0, 0)), (37, .getfield 7, 3, 0, (4, 0, 4, 0, 0, 0)), (40, .getfield 34, 3, 0, (1, 0, 0, 0, 0, 0)), (43, .ireturn, 1, 0, (0, 0, 0, 0, 0, 0)), (44, .aload_n 0, 1, 0, (0, 0, 0, 0, 0, 0)), (45, .getfield 13, 3, 0, (4, 1, 3, 0, 0, 0)), (48, .getfield 39, 3, 0, (0, 0, 0, 0, 0, 0)), (51, .ireturn, 1, 0, (0, 0, 0, 0, 0, 0)), (52, .aload_n 0, 1, 0, (0, 0, 0, 0, 0, 0)), (53, .getfield 17, 3, 0, (4, 2, 3, 0, 0, 0)), (56, .getfield 39, 3, 0, (0, 0, 0, 0, 0, 0)), (59, .ireturn, 1, 0, (0, 0, 0, 0, 0, 0)), (60, .aload_n 0, 1, 0, (0, 0, 0, 0, 0, 0)), (61, .getfield 20, 3, 0, (4, 3, 0, 0, 0, 0)), (64, .ireturn, 1, 0, (0, 0, 0, 0, 0, 0)), (65, .aload_n 0, 1, 0, (0, 0, 0, 0, 0, 0)), (66, .getfield 24, 3, 0, (4, 4, 0, 0, 0, 0)), (69, .ireturn, 1, 0, (0, 0, 0, 0, 0, 0)), (70, .aload_n 0, 1, 0, (0, 0, 0, 0, 0, 0)), (71, .getfield 27, 3, 0, (4, 5, 1, 0, 0, 0)), (74, .ifCond .eq 7, 3, 0, (0, 0, 0, 0, 0, 0)), (77, .iconst 1, 1, 0, (0, 0, 0, 0, 0, 1)), (78, .goto 4, 3, 0, (0, 0, 0, 0, 0, 0)), (81, .iconst 0, 1, 0, (0, 0, 0, 0, 0, 0)), (82, .ireturn, 1, 0, (0, 0, 0, 0, 0, 0))]
set_option maxRecDepth 100000 in
theorem rk55 : R55.all (rok 0 55 1 []) = true := by decide +kernel
set_option maxRecDepth 100000 in
theorem tab55 : TabOK 0 55 1 [] R55 := tab_ok (K := K55) rfl rfl (fun h => d55 h) rk55 (by decide +kernel)
set_option maxRecDepth 100000 in
theorem pc55 : cutpc [] R55 = true := by decide +kernel
set_option maxRecDepth 100000 in
theorem r4_tell (p : PM) (hg : Gr 0 p) : ∀ (v0 : Nat) (v1 : Int32), bg4_tell p v0 v1 → ZJ 0 55 0 [zR 4 v0, zI v1] [] p (hoI p (bv4_tell p v0 v1)) := by
  intro v0 v1  H
  exact roI (n := 3000) (q := 0) (la := [zR 4 v0, zI v1]) (sa := []) (ks := []) (gs := []) (fnil) tab55 pc55 trivial hg H
theorem t4_tell (p : PM) (hg : Gr 0 p) : ∀ (v0 : Nat) (v1 : Int32), g4_tell p v0 v1 → ZJ 0 55 0 [zR 4 v0, zI v1] [] p (hoI p (v4_tell p v0 v1)) := r4_tell p hg
def CC55 (F : PM → Nat → Int32 → Int32) (G : PM → Nat → Int32 → Prop) : Cal := (55, [7, 0], 1, true, fun as p => (zI (F p (ar as 0) (ai as 1)), p), fun as p => zsw (tc2 as [(8, 0), (0, 0)]) False (G p (ar as 0) (ai as 1)))
set_option maxRecDepth 100000 in
theorem okr55 (F : PM → Nat → Int32 → Int32) (G : PM → Nat → Int32 → Prop) (h : ∀ (p : PM) (v0 : Nat) (v1 : Int32), Gr 0 p → G p v0 v1 → ZJ 0 55 0 [zR 4 v0, zI v1] [] p (hoI p (F p v0 v1))) : CalOK 0 (CC55 F G) := cal_ok (m := 2) (by unfold mL; rw [mX_55]) (fun as p hg H => h p (ar as 0) (ai as 1) hg H)
theorem ok55 : CalOK 0 (CC55 v4_tell g4_tell) := okr55 v4_tell g4_tell (fun p v0 v1 hg H => t4_tell p hg v0 v1 H)
noncomputable def bv6_restore_41 (kv41 : PM → Int32 → PM) (p : PM) (v3 : Int32) : PM :=
  if v3 < (cn 40) then (
    let p5 : PM := pI p 10 ((v3).toNatClampNeg + 1) 2 (cn 0)
    kv41 p5 (v3 + (cn 1)))
  else (
    let p1 : PM := pI p 6 1 2 (cn 0)
    let p2 : PM := pI p1 6 1 3 (cn 0)
    let p3 : PM := pI p2 6 1 4 (cn 0)
    let p4 : PM := pI p3 6 1 5 (cn 0)
    p4)
noncomputable def v6_restore_41 (n : Nat) : PM → Int32 → PM := Nat.rec (motive := fun _ => PM → Int32 → PM) (fun p _ => p) (fun _ ih => bv6_restore_41 ih) n
theorem ev6_restore_41 (n : Nat) (p : PM) (v3 : Int32) : v6_restore_41 (n + 1) p v3 = bv6_restore_41 (v6_restore_41 n) p v3 := rfl
noncomputable def bg6_restore_41 (kg41 : PM → Int32 → Prop) (p : PM) (v3 : Int32) : Prop :=
  if v3 < (cn 40) then (
    (inb v3 40) ∧ (
    let p5 : PM := pI p 10 ((v3).toNatClampNeg + 1) 2 (cn 0)
    kg41 p5 (v3 + (cn 1))))
  else (
    let p1 : PM := pI p 6 1 2 (cn 0)
    let p2 : PM := pI p1 6 1 3 (cn 0)
    let p3 : PM := pI p2 6 1 4 (cn 0)
    let p4 : PM := pI p3 6 1 5 (cn 0)
    True)
noncomputable def g6_restore_41 (n : Nat) : PM → Int32 → Prop := Nat.rec (motive := fun _ => PM → Int32 → Prop) (fun _ _ => False) (fun _ ih => bg6_restore_41 ih) n
theorem eg6_restore_41 (n : Nat) (p : PM) (v3 : Int32) : g6_restore_41 (n + 1) p v3 = bg6_restore_41 (g6_restore_41 n) p v3 := rfl
noncomputable def bv6_restore_10 (F9 : PM → Nat → PM) (kv10 : PM → Int32 → PM) (kv41 : PM → Int32 → PM) (p : PM) (v3 : Int32) : PM :=
  if v3 < (cn 6) then (
    let p1 : PM := F9 p ((v3).toNatClampNeg + 1)
    kv10 p1 (v3 + (cn 1)))
  else (
    kv41 p (cn 0))
noncomputable def v6_restore_10 (n : Nat) : PM → Int32 → PM := Nat.rec (motive := fun _ => PM → Int32 → PM) (fun p _ => p) (fun _ ih => bv6_restore_10 v1_restore ih (v6_restore_41 FU)) n
theorem ev6_restore_10 (n : Nat) (p : PM) (v3 : Int32) : v6_restore_10 (n + 1) p v3 = bv6_restore_10 v1_restore (v6_restore_10 n) (v6_restore_41 FU) p v3 := rfl
noncomputable def bg6_restore_10 (F9 : PM → Nat → PM) (G9 : PM → Nat → Prop) (kg10 : PM → Int32 → Prop) (kg41 : PM → Int32 → Prop) (p : PM) (v3 : Int32) : Prop :=
  if v3 < (cn 6) then (
    (inb v3 6) ∧ (
    (G9 p ((v3).toNatClampNeg + 1)) ∧ (
    let p1 : PM := F9 p ((v3).toNatClampNeg + 1)
    kg10 p1 (v3 + (cn 1)))))
  else (
    kg41 p (cn 0))
noncomputable def g6_restore_10 (n : Nat) : PM → Int32 → Prop := Nat.rec (motive := fun _ => PM → Int32 → Prop) (fun _ _ => False) (fun _ ih => bg6_restore_10 v1_restore g1_restore ih (g6_restore_41 FU)) n
theorem eg6_restore_10 (n : Nat) (p : PM) (v3 : Int32) : g6_restore_10 (n + 1) p v3 = bg6_restore_10 v1_restore g1_restore (g6_restore_10 n) (g6_restore_41 FU) p v3 := rfl
noncomputable def bv6_restore (kv10 : PM → Int32 → PM) (p : PM) : PM :=
  kv10 p (cn 0)
noncomputable def v6_restore (p : PM) : PM := bv6_restore (v6_restore_10 FU) p
noncomputable def bg6_restore (kg10 : PM → Int32 → Prop) (p : PM) : Prop :=
  kg10 p (cn 0)
noncomputable def g6_restore (p : PM) : Prop := bg6_restore (g6_restore_10 FU) p
def R73 : List Row := [(0, .aload_n 0, 1, 0, (0, 0, 0, 0, 0, 0)), (1, .getfield 17, 3, 0, (6, 0, 20, 2, 1, 0)), (4, .astore_n 1, 1, 0, (0, 0, 0, 0, 0, 0)), (5, .aload_n 1, 1, 0, (0, 0, 0, 0, 0, 0)), (6, .arraylength, 1, 0, (17, 6, 0, 0, 0, 6)), (7, .istore_n 2, 1, 0, (0, 0, 0, 0, 0, 0)), (8, .iconst 0, 1, 0, (0, 0, 0, 0, 0, 0)), (9, .istore_n 3, 1, 0, (0, 0, 0, 0, 0, 0)), (10, .iload_n 3, 1, 1, (0, 0, 0, 0, 0, 0)), (11, .iload_n 2, 1, 0, (0, 0, 0, 0, 0, 0)), (12, .if_icmp .ge 19, 3, 0, (0, 0, 0, 0, 0, 0)), (15, .aload_n 1, 1, 0, (0, 0, 0, 0, 0, 0)), (16, .iload_n 3, 1, 0, (0, 0, 0, 0, 0, 0)), (17, .aaload, 1, 0, (17, 6, 0, 1, 1, 0)), (18, .astore 4, 2, 0, (0, 0, 0, 0, 0, 0)), (20, .aload 4, 2, 0, (0, 0, 0, 0, 0, 0)), (22, .invokevirtual 24, 3, 0, (0, 1, 0, 0, 1, 0)), (25, .iinc 3 1, 3, 0, (0, 0, 0, 0, 0, 1)), (28, .goto (-18), 3, 0, (0, 0, 0, 0, 0, 0)), (31, .aload_n 0, 1, 0, (0, 0, 0, 0, 0, 0)), (32, .getfield 11, 3, 0, (6, 1, 23, 2, 1, 0)), (35, .astore_n 1, 1, 0, (0, 0, 0, 0, 0, 0)), (36, .aload_n 1, 1, 0, (0, 0, 0, 0, 0, 0)), (37, .arraylength, 1, 0, (20, 40, 0, 0, 0, 40)), (38, .istore_n 2, 1, 0, (0, 0, 0, 0, 0, 0)), (39, .iconst 0, 1, 0, (0, 0, 0, 0, 0, 0)), (40, .istore_n 3, 1, 0, (0, 0, 0, 0, 0, 0)), (41, .iload_n 3, 1, 2, (0, 0, 0, 0, 0, 0)), (42, .iload_n 2, 1, 0, (0, 0, 0, 0, 0, 0)), (43, .if_icmp .ge 20, 3, 0, (0, 0, 0, 0, 0, 0)), (46, .aload_n 1, 1, 0, (0, 0, 0, 0, 0, 0)), (47, .iload_n 3, 1, 0, (0, 0, 0, 0, 0, 0)), (48, .aaload, 1, 0, (20, 40, 0, 1, 1, 0)), (49, .astore 4, 2, 0, (0, 0, 0, 0, 0, 0)), (51, .aload 4, 2, 0, (0, 0, 0, 0, 0, 0)), (53, .iconst 0, 1, 0, (0, 0, 0, 0, 0, 0)), (54, .putfield 29, 3, 0, (10, 2, 0, 1, 0, 0)), (57, .iinc 3 1, 3, 0, (0, 0, 0, 0, 0, 1)), (60, .goto (-19), 3, 0, (0, 0, 0, 0, 0, 0)), (63, .aload_n 0, 1, 0, (0, 0, 0, 0, 0, 0)), (64, .iconst 0, 1, 0, (0, 0, 0, 0, 0, 0)), (65, .putfield 33, 3, 0, (6, 2, 0, 1, 0, 0)), (68, .aload_n 0, 1, 0, (0, 0, 0, 0, 0, 0)), (69, .iconst 0, 1, 0, (0, 0, 0, 0, 0, 0)), (70, .putfield 36, 3, 0, (6, 3, 0, 1, 0, 0)), (73, .aload_n 0, 1, 0, (0, 0, 0, 0, 0, 0)), (74, .iconst 0, 1, 0, (0, 0, 0, 0, 0, 0)), (75, .putfield 39, 3, 0, (6, 4, 0, 1, 0, 0)), (78, .aload_n 0, 1, 0, (0, 0, 0, 0, 0, 0)), (79, .iconst 0, 1, 0, (0, 0, 0, 0, 0, 0)), (80, .putfield 42, 3, 0, (6, 5, 0, 1, 0, 0)), (83, .return_, 1, 0, (0, 0, 0, 0, 0, 0))]
set_option maxRecDepth 100000 in
theorem rk73 : R73.all (rok 0 73 0 [(9, [4])]) = true := by decide +kernel
set_option maxRecDepth 100000 in
theorem tab73 {F9 : PM → Nat → PM} {G9 : PM → Nat → Prop} : TabOK 0 73 0 [CC9 F9 G9] R73 := tab_ok (K := K73) rfl rfl (fun h => d73 h) rk73 (by decide +kernel)
set_option maxRecDepth 100000 in
theorem pc73 : cutpc [10, 41] R73 = true := by decide +kernel
set_option maxRecDepth 100000 in
theorem r6_restore_41 (F9 : PM → Nat → PM) (G9 : PM → Nat → Prop) (o9 : CalOK 0 (CC9 F9 G9)) (kv41 : PM → Int32 → PM) (kg41 : PM → Int32 → Prop) (hk41 : ∀ (p : PM) (v3 : Int32) (d4 : ZV), Gr 0 p → kg41 p v3 → ZJ 0 73 41 [zR 6 1, zR 20 1, zC 40, zI v3, d4] [] p (hwV (kv41 p v3))) : ∀ (p : PM) (v3 : Int32) (d4 : ZV), Gr 0 p → bg6_restore_41 kg41 p v3 → ZJ 0 73 41 [zR 6 1, zR 20 1, zC 40, zI v3, d4] [] p (hwV (bv6_restore_41 kv41 p v3)) := by
  intro p v3 d4 hg H
  exact rwV (n := 3000) (q := 41) (la := [zR 6 1, zR 20 1, zC 40, zI v3, d4]) (sa := []) (ks := [fun _ _ s => s, fun la sa s => kv41 s (ai la 3)]) (gs := [fun _ _ _ => False, fun la sa s => zsw (tc2 la [(106, 1), (120, 1), (3, 40), (0, 0), (2, 0)] && tc2 sa []) False (kg41 s (ai la 3))]) (fcons o9 (fnil)) tab73 pc73 ⟨fun _ _ _ _ H => H.elim, fun la sa s hg H => zcut H fun H => hk41 s (ai la 3) (zld la 4) hg H, trivial⟩ hg H
theorem t6_restore_41 : ∀ (n : Nat), ∀ (p : PM) (v3 : Int32) (d4 : ZV), Gr 0 p → g6_restore_41 n p v3 → ZJ 0 73 41 [zR 6 1, zR 20 1, zC 40, zI v3, d4] [] p (hwV (v6_restore_41 n p v3)) := by
  intro n
  induction n with
  | zero =>
    intro p v3 d4 hg H
    exact H.elim
  | succ n ih => exact r6_restore_41 v1_restore g1_restore ok9 (v6_restore_41 n) (g6_restore_41 n) ih
set_option maxRecDepth 100000 in
theorem r6_restore_10 (F9 : PM → Nat → PM) (G9 : PM → Nat → Prop) (o9 : CalOK 0 (CC9 F9 G9)) (kv10 : PM → Int32 → PM) (kg10 : PM → Int32 → Prop) (hk10 : ∀ (p : PM) (v3 : Int32) (d4 : ZV), Gr 0 p → kg10 p v3 → ZJ 0 73 10 [zR 6 1, zR 17 1, zC 6, zI v3, d4] [] p (hwV (kv10 p v3))) (kv41 : PM → Int32 → PM) (kg41 : PM → Int32 → Prop) (hk41 : ∀ (p : PM) (v3 : Int32) (d4 : ZV), Gr 0 p → kg41 p v3 → ZJ 0 73 41 [zR 6 1, zR 20 1, zC 40, zI v3, d4] [] p (hwV (kv41 p v3))) : ∀ (p : PM) (v3 : Int32) (d4 : ZV), Gr 0 p → bg6_restore_10 F9 G9 kg10 kg41 p v3 → ZJ 0 73 10 [zR 6 1, zR 17 1, zC 6, zI v3, d4] [] p (hwV (bv6_restore_10 F9 kv10 kv41 p v3)) := by
  intro p v3 d4 hg H
  exact rwV (n := 3000) (q := 10) (la := [zR 6 1, zR 17 1, zC 6, zI v3, d4]) (sa := []) (ks := [fun la sa s => kv10 s (ai la 3), fun la sa s => kv41 s (ai la 3)]) (gs := [fun la sa s => zsw (tc2 la [(106, 1), (117, 1), (3, 6), (0, 0), (2, 0)] && tc2 sa []) False (kg10 s (ai la 3)), fun la sa s => zsw (tc2 la [(106, 1), (120, 1), (3, 40), (0, 0), (2, 0)] && tc2 sa []) False (kg41 s (ai la 3))]) (fcons o9 (fnil)) tab73 pc73 ⟨fun la sa s hg H => zcut H fun H => hk10 s (ai la 3) (zld la 4) hg H, fun la sa s hg H => zcut H fun H => hk41 s (ai la 3) (zld la 4) hg H, trivial⟩ hg H
theorem t6_restore_10 : ∀ (n : Nat), ∀ (p : PM) (v3 : Int32) (d4 : ZV), Gr 0 p → g6_restore_10 n p v3 → ZJ 0 73 10 [zR 6 1, zR 17 1, zC 6, zI v3, d4] [] p (hwV (v6_restore_10 n p v3)) := by
  intro n
  induction n with
  | zero =>
    intro p v3 d4 hg H
    exact H.elim
  | succ n ih => exact r6_restore_10 v1_restore g1_restore ok9 (v6_restore_10 n) (g6_restore_10 n) ih (v6_restore_41 FU) (g6_restore_41 FU) (t6_restore_41 FU)
set_option maxRecDepth 100000 in
theorem r6_restore (F9 : PM → Nat → PM) (G9 : PM → Nat → Prop) (o9 : CalOK 0 (CC9 F9 G9)) (kv10 : PM → Int32 → PM) (kg10 : PM → Int32 → Prop) (hk10 : ∀ (p : PM) (v3 : Int32) (d4 : ZV), Gr 0 p → kg10 p v3 → ZJ 0 73 10 [zR 6 1, zR 17 1, zC 6, zI v3, d4] [] p (hwV (kv10 p v3))) : ∀ (p : PM), Gr 0 p → bg6_restore kg10 p → ZJ 0 73 0 [zR 6 1, zJ, zJ, zJ, zJ] [] p (hwV (bv6_restore kv10 p)) := by
  intro p   hg H
  exact rwV (n := 3000) (q := 0) (la := [zR 6 1, zJ, zJ, zJ, zJ]) (sa := []) (ks := [fun la sa s => kv10 s (ai la 3), fun _ _ s => s]) (gs := [fun la sa s => zsw (tc2 la [(106, 1), (117, 1), (3, 6), (0, 0), (2, 0)] && tc2 sa []) False (kg10 s (ai la 3)), fun _ _ _ => False]) (fcons o9 (fnil)) tab73 pc73 ⟨fun la sa s hg H => zcut H fun H => hk10 s (ai la 3) (zld la 4) hg H, fun _ _ _ _ H => H.elim, trivial⟩ hg H
theorem t6_restore : ∀ (p : PM), Gr 0 p → g6_restore p → ZJ 0 73 0 [zR 6 1, zJ, zJ, zJ, zJ] [] p (hwV (v6_restore p)) := r6_restore v1_restore g1_restore ok9 (v6_restore_10 FU) (g6_restore_10 FU) (t6_restore_10 FU)
def CC73 (F : PM → PM) (G : PM → Prop) : Cal := (73, [9], 0, false, fun as p => (zJ, (F p )), fun as p => zsw (tc2 as [(106, 1)]) False (G p ))
set_option maxRecDepth 100000 in
theorem okr73 (F : PM → PM) (G : PM → Prop) (h : ∀ (p : PM), Gr 0 p → G p  → ZJ 0 73 0 [zR 6 1, zJ, zJ, zJ, zJ] [] p (hwV (F p ))) : CalOK 0 (CC73 F G) := cal_ok (m := 5) (by unfold mL; rw [mX_73]) (fun as p hg H => h p  hg H)
theorem ok73 : CalOK 0 (CC73 v6_restore g6_restore) := okr73 v6_restore g6_restore t6_restore
noncomputable def bv7_restore_41 (kv41 : PM → Int32 → PM) (p : PM) (v3 : Int32) : PM :=
  if v3 < (cn 60) then (
    let p2 : PM := pI p 4 ((v3).toNatClampNeg + 1) 6 (cn 0)
    kv41 p2 (v3 + (cn 1)))
  else (
    let p1 : PM := pI p 7 1 2 (cn 0)
    p1)
noncomputable def v7_restore_41 (n : Nat) : PM → Int32 → PM := Nat.rec (motive := fun _ => PM → Int32 → PM) (fun p _ => p) (fun _ ih => bv7_restore_41 ih) n
theorem ev7_restore_41 (n : Nat) (p : PM) (v3 : Int32) : v7_restore_41 (n + 1) p v3 = bv7_restore_41 (v7_restore_41 n) p v3 := rfl
noncomputable def bg7_restore_41 (kg41 : PM → Int32 → Prop) (p : PM) (v3 : Int32) : Prop :=
  if v3 < (cn 60) then (
    (inb v3 60) ∧ (
    let p2 : PM := pI p 4 ((v3).toNatClampNeg + 1) 6 (cn 0)
    kg41 p2 (v3 + (cn 1))))
  else (
    let p1 : PM := pI p 7 1 2 (cn 0)
    True)
noncomputable def g7_restore_41 (n : Nat) : PM → Int32 → Prop := Nat.rec (motive := fun _ => PM → Int32 → Prop) (fun _ _ => False) (fun _ ih => bg7_restore_41 ih) n
theorem eg7_restore_41 (n : Nat) (p : PM) (v3 : Int32) : g7_restore_41 (n + 1) p v3 = bg7_restore_41 (g7_restore_41 n) p v3 := rfl
noncomputable def bv7_restore_10 (F1 : PM → Nat → PM) (kv10 : PM → Int32 → PM) (kv41 : PM → Int32 → PM) (p : PM) (v3 : Int32) : PM :=
  if v3 < (cn 9) then (
    let p1 : PM := F1 p ((v3).toNatClampNeg + 1)
    kv10 p1 (v3 + (cn 1)))
  else (
    kv41 p (cn 0))
noncomputable def v7_restore_10 (n : Nat) : PM → Int32 → PM := Nat.rec (motive := fun _ => PM → Int32 → PM) (fun p _ => p) (fun _ ih => bv7_restore_10 v0_restore ih (v7_restore_41 FU)) n
theorem ev7_restore_10 (n : Nat) (p : PM) (v3 : Int32) : v7_restore_10 (n + 1) p v3 = bv7_restore_10 v0_restore (v7_restore_10 n) (v7_restore_41 FU) p v3 := rfl
noncomputable def bg7_restore_10 (F1 : PM → Nat → PM) (G1 : PM → Nat → Prop) (kg10 : PM → Int32 → Prop) (kg41 : PM → Int32 → Prop) (p : PM) (v3 : Int32) : Prop :=
  if v3 < (cn 9) then (
    (inb v3 9) ∧ (
    (G1 p ((v3).toNatClampNeg + 1)) ∧ (
    let p1 : PM := F1 p ((v3).toNatClampNeg + 1)
    kg10 p1 (v3 + (cn 1)))))
  else (
    kg41 p (cn 0))
noncomputable def g7_restore_10 (n : Nat) : PM → Int32 → Prop := Nat.rec (motive := fun _ => PM → Int32 → Prop) (fun _ _ => False) (fun _ ih => bg7_restore_10 v0_restore g0_restore ih (g7_restore_41 FU)) n
theorem eg7_restore_10 (n : Nat) (p : PM) (v3 : Int32) : g7_restore_10 (n + 1) p v3 = bg7_restore_10 v0_restore g0_restore (g7_restore_10 n) (g7_restore_41 FU) p v3 := rfl
noncomputable def bv7_restore (kv10 : PM → Int32 → PM) (p : PM) : PM :=
  kv10 p (cn 0)
noncomputable def v7_restore (p : PM) : PM := bv7_restore (v7_restore_10 FU) p
noncomputable def bg7_restore (kg10 : PM → Int32 → Prop) (p : PM) : Prop :=
  kg10 p (cn 0)
noncomputable def g7_restore (p : PM) : Prop := bg7_restore (g7_restore_10 FU) p
def R104 : List Row := [(0, .aload_n 0, 1, 0, (0, 0, 0, 0, 0, 0)), (1, .getfield 11, 3, 0, (7, 0, 19, 2, 1, 0)), (4, .astore_n 1, 1, 0, (0, 0, 0, 0, 0, 0)), (5, .aload_n 1, 1, 0, (0, 0, 0, 0, 0, 0)), (6, .arraylength, 1, 0, (16, 9, 0, 0, 0, 9)), (7, .istore_n 2, 1, 0, (0, 0, 0, 0, 0, 0)), (8, .iconst 0, 1, 0, (0, 0, 0, 0, 0, 0)), (9, .istore_n 3, 1, 0, (0, 0, 0, 0, 0, 0)), (10, .iload_n 3, 1, 1, (0, 0, 0, 0, 0, 0)), (11, .iload_n 2, 1, 0, (0, 0, 0, 0, 0, 0)), (12, .if_icmp .ge 19, 3, 0, (0, 0, 0, 0, 0, 0)), (15, .aload_n 1, 1, 0, (0, 0, 0, 0, 0, 0)), (16, .iload_n 3, 1, 0, (0, 0, 0, 0, 0, 0)), (17, .aaload, 1, 0, (16, 9, 0, 1, 1, 0)), (18, .astore 4, 2, 0, (0, 0, 0, 0, 0, 0)), (20, .aload 4, 2, 0, (0, 0, 0, 0, 0, 0)), (22, .invokevirtual 29, 3, 0, (0, 1, 0, 0, 1, 0)), (25, .iinc 3 1, 3, 0, (0, 0, 0, 0, 0, 1)), (28, .goto (-18), 3, 0, (0, 0, 0, 0, 0, 0)), (31, .aload_n 0, 1, 0, (0, 0, 0, 0, 0, 0)), (32, .getfield 19, 3, 0, (7, 1, 21, 2, 1, 0)), (35, .astore_n 1, 1, 0, (0, 0, 0, 0, 0, 0)), (36, .aload_n 1, 1, 0, (0, 0, 0, 0, 0, 0)), (37, .arraylength, 1, 0, (18, 60, 0, 0, 0, 60)), (38, .istore_n 2, 1, 0, (0, 0, 0, 0, 0, 0)), (39, .iconst 0, 1, 0, (0, 0, 0, 0, 0, 0)), (40, .istore_n 3, 1, 0, (0, 0, 0, 0, 0, 0)), (41, .iload_n 3, 1, 2, (0, 0, 0, 0, 0, 0)), (42, .iload_n 2, 1, 0, (0, 0, 0, 0, 0, 0)), (43, .if_icmp .ge 20, 3, 0, (0, 0, 0, 0, 0, 0)), (46, .aload_n 1, 1, 0, (0, 0, 0, 0, 0, 0)), (47, .iload_n 3, 1, 0, (0, 0, 0, 0, 0, 0)), (48, .aaload, 1, 0, (18, 60, 0, 1, 1, 0)), (49, .astore 4, 2, 0, (0, 0, 0, 0, 0, 0)), (51, .aload 4, 2, 0, (0, 0, 0, 0, 0, 0)), (53, .iconst 0, 1, 0, (0, 0, 0, 0, 0, 0)), (54, .putfield 32, 3, 0, (4, 6, 1, 1, 0, 0)), (57, .iinc 3 1, 3, 0, (0, 0, 0, 0, 0, 1)), (60, .goto (-19), 3, 0, (0, 0, 0, 0, 0, 0)), (63, .aload_n 0, 1, 0, (0, 0, 0, 0, 0, 0)), (64, .iconst 0, 1, 0, (0, 0, 0, 0, 0, 0)), (65, .putfield 36, 3, 0, (7, 2, 0, 1, 0, 0)), (68, .return_, 1, 0, (0, 0, 0, 0, 0, 0))]
set_option maxRecDepth 100000 in
theorem rk104 : R104.all (rok 0 104 0 [(1, [3])]) = true := by decide +kernel
set_option maxRecDepth 100000 in
theorem tab104 {F1 : PM → Nat → PM} {G1 : PM → Nat → Prop} : TabOK 0 104 0 [CC1 F1 G1] R104 := tab_ok (K := K104) rfl rfl (fun h => d104 h) rk104 (by decide +kernel)
set_option maxRecDepth 100000 in
theorem pc104 : cutpc [10, 41] R104 = true := by decide +kernel
set_option maxRecDepth 100000 in
theorem r7_restore_41 (F1 : PM → Nat → PM) (G1 : PM → Nat → Prop) (o1 : CalOK 0 (CC1 F1 G1)) (kv41 : PM → Int32 → PM) (kg41 : PM → Int32 → Prop) (hk41 : ∀ (p : PM) (v3 : Int32) (d4 : ZV), Gr 0 p → kg41 p v3 → ZJ 0 104 41 [zR 7 1, zR 18 1, zC 60, zI v3, d4] [] p (hwV (kv41 p v3))) : ∀ (p : PM) (v3 : Int32) (d4 : ZV), Gr 0 p → bg7_restore_41 kg41 p v3 → ZJ 0 104 41 [zR 7 1, zR 18 1, zC 60, zI v3, d4] [] p (hwV (bv7_restore_41 kv41 p v3)) := by
  intro p v3 d4 hg H
  exact rwV (n := 3000) (q := 41) (la := [zR 7 1, zR 18 1, zC 60, zI v3, d4]) (sa := []) (ks := [fun _ _ s => s, fun la sa s => kv41 s (ai la 3)]) (gs := [fun _ _ _ => False, fun la sa s => zsw (tc2 la [(107, 1), (118, 1), (3, 60), (0, 0), (2, 0)] && tc2 sa []) False (kg41 s (ai la 3))]) (fcons o1 (fnil)) tab104 pc104 ⟨fun _ _ _ _ H => H.elim, fun la sa s hg H => zcut H fun H => hk41 s (ai la 3) (zld la 4) hg H, trivial⟩ hg H
theorem t7_restore_41 : ∀ (n : Nat), ∀ (p : PM) (v3 : Int32) (d4 : ZV), Gr 0 p → g7_restore_41 n p v3 → ZJ 0 104 41 [zR 7 1, zR 18 1, zC 60, zI v3, d4] [] p (hwV (v7_restore_41 n p v3)) := by
  intro n
  induction n with
  | zero =>
    intro p v3 d4 hg H
    exact H.elim
  | succ n ih => exact r7_restore_41 v0_restore g0_restore ok1 (v7_restore_41 n) (g7_restore_41 n) ih
set_option maxRecDepth 100000 in
theorem r7_restore_10 (F1 : PM → Nat → PM) (G1 : PM → Nat → Prop) (o1 : CalOK 0 (CC1 F1 G1)) (kv10 : PM → Int32 → PM) (kg10 : PM → Int32 → Prop) (hk10 : ∀ (p : PM) (v3 : Int32) (d4 : ZV), Gr 0 p → kg10 p v3 → ZJ 0 104 10 [zR 7 1, zR 16 1, zC 9, zI v3, d4] [] p (hwV (kv10 p v3))) (kv41 : PM → Int32 → PM) (kg41 : PM → Int32 → Prop) (hk41 : ∀ (p : PM) (v3 : Int32) (d4 : ZV), Gr 0 p → kg41 p v3 → ZJ 0 104 41 [zR 7 1, zR 18 1, zC 60, zI v3, d4] [] p (hwV (kv41 p v3))) : ∀ (p : PM) (v3 : Int32) (d4 : ZV), Gr 0 p → bg7_restore_10 F1 G1 kg10 kg41 p v3 → ZJ 0 104 10 [zR 7 1, zR 16 1, zC 9, zI v3, d4] [] p (hwV (bv7_restore_10 F1 kv10 kv41 p v3)) := by
  intro p v3 d4 hg H
  exact rwV (n := 3000) (q := 10) (la := [zR 7 1, zR 16 1, zC 9, zI v3, d4]) (sa := []) (ks := [fun la sa s => kv10 s (ai la 3), fun la sa s => kv41 s (ai la 3)]) (gs := [fun la sa s => zsw (tc2 la [(107, 1), (116, 1), (3, 9), (0, 0), (2, 0)] && tc2 sa []) False (kg10 s (ai la 3)), fun la sa s => zsw (tc2 la [(107, 1), (118, 1), (3, 60), (0, 0), (2, 0)] && tc2 sa []) False (kg41 s (ai la 3))]) (fcons o1 (fnil)) tab104 pc104 ⟨fun la sa s hg H => zcut H fun H => hk10 s (ai la 3) (zld la 4) hg H, fun la sa s hg H => zcut H fun H => hk41 s (ai la 3) (zld la 4) hg H, trivial⟩ hg H
theorem t7_restore_10 : ∀ (n : Nat), ∀ (p : PM) (v3 : Int32) (d4 : ZV), Gr 0 p → g7_restore_10 n p v3 → ZJ 0 104 10 [zR 7 1, zR 16 1, zC 9, zI v3, d4] [] p (hwV (v7_restore_10 n p v3)) := by
  intro n
  induction n with
  | zero =>
    intro p v3 d4 hg H
    exact H.elim
  | succ n ih => exact r7_restore_10 v0_restore g0_restore ok1 (v7_restore_10 n) (g7_restore_10 n) ih (v7_restore_41 FU) (g7_restore_41 FU) (t7_restore_41 FU)
set_option maxRecDepth 100000 in
theorem r7_restore (F1 : PM → Nat → PM) (G1 : PM → Nat → Prop) (o1 : CalOK 0 (CC1 F1 G1)) (kv10 : PM → Int32 → PM) (kg10 : PM → Int32 → Prop) (hk10 : ∀ (p : PM) (v3 : Int32) (d4 : ZV), Gr 0 p → kg10 p v3 → ZJ 0 104 10 [zR 7 1, zR 16 1, zC 9, zI v3, d4] [] p (hwV (kv10 p v3))) : ∀ (p : PM), Gr 0 p → bg7_restore kg10 p → ZJ 0 104 0 [zR 7 1, zJ, zJ, zJ, zJ] [] p (hwV (bv7_restore kv10 p)) := by
  intro p   hg H
  exact rwV (n := 3000) (q := 0) (la := [zR 7 1, zJ, zJ, zJ, zJ]) (sa := []) (ks := [fun la sa s => kv10 s (ai la 3), fun _ _ s => s]) (gs := [fun la sa s => zsw (tc2 la [(107, 1), (116, 1), (3, 9), (0, 0), (2, 0)] && tc2 sa []) False (kg10 s (ai la 3)), fun _ _ _ => False]) (fcons o1 (fnil)) tab104 pc104 ⟨fun la sa s hg H => zcut H fun H => hk10 s (ai la 3) (zld la 4) hg H, fun _ _ _ _ H => H.elim, trivial⟩ hg H
theorem t7_restore : ∀ (p : PM), Gr 0 p → g7_restore p → ZJ 0 104 0 [zR 7 1, zJ, zJ, zJ, zJ] [] p (hwV (v7_restore p)) := r7_restore v0_restore g0_restore ok1 (v7_restore_10 FU) (g7_restore_10 FU) (t7_restore_10 FU)
def CC104 (F : PM → PM) (G : PM → Prop) : Cal := (104, [10], 0, false, fun as p => (zJ, (F p )), fun as p => zsw (tc2 as [(107, 1)]) False (G p ))
set_option maxRecDepth 100000 in
theorem okr104 (F : PM → PM) (G : PM → Prop) (h : ∀ (p : PM), Gr 0 p → G p  → ZJ 0 104 0 [zR 7 1, zJ, zJ, zJ, zJ] [] p (hwV (F p ))) : CalOK 0 (CC104 F G) := cal_ok (m := 5) (by unfold mL; rw [mX_104]) (fun as p hg H => h p  hg H)
theorem ok104 : CalOK 0 (CC104 v7_restore g7_restore) := okr104 v7_restore g7_restore t7_restore
noncomputable def bv5_restore (F18 : PM → PM) (F73 : PM → PM) (F104 : PM → PM) (p : PM) : PM :=
  let p1 : PM := F73 p
  let p2 : PM := F104 p1
  let p3 : PM := F18 p2
  p3
noncomputable def v5_restore (p : PM) : PM := bv5_restore v2_restore v6_restore v7_restore p
noncomputable def bg5_restore (F18 : PM → PM) (G18 : PM → Prop) (F73 : PM → PM) (G73 : PM → Prop) (F104 : PM → PM) (G104 : PM → Prop) (p : PM) : Prop :=
  (G73 p) ∧ (
  let p1 : PM := F73 p
  (G104 p1) ∧ (
  let p2 : PM := F104 p1
  (G18 p2) ∧ (
  let p3 : PM := F18 p2
  True)))
noncomputable def g5_restore (p : PM) : Prop := bg5_restore v2_restore g2_restore v6_restore g6_restore v7_restore g7_restore p
def R57 : List Row := [(0, .aload_n 0, 1, 0, (0, 0, 0, 0, 0, 0)), (1, .getfield 34, 3, 0, (5, 0, 9, 2, 1, 0)), (4, .invokevirtual 64, 3, 0, (0, 1, 0, 0, 1, 0)), (7, .aload_n 0, 1, 0, (0, 0, 0, 0, 0, 0)), (8, .getfield 19, 3, 0, (5, 1, 10, 2, 1, 0)), (11, .invokevirtual 65, 3, 0, (1, 1, 0, 0, 1, 0)), (14, .aload_n 0, 1, 0, (0, 0, 0, 0, 0, 0)), (15, .getfield 57, 3, 0, (5, 4, 5, 2, 1, 0)), (18, .invokevirtual 66, 3, 0, (2, 1, 0, 0, 1, 0)), (21, .return_, 1, 0, (0, 0, 0, 0, 0, 0))]
set_option maxRecDepth 100000 in
theorem rk57 : R57.all (rok 0 57 0 [(73, [9]), (104, [10]), (18, [5])]) = true := by decide +kernel
set_option maxRecDepth 100000 in
theorem tab57 {F73 : PM → PM} {G73 : PM → Prop} {F104 : PM → PM} {G104 : PM → Prop} {F18 : PM → PM} {G18 : PM → Prop} : TabOK 0 57 0 [CC73 F73 G73, CC104 F104 G104, CC18 F18 G18] R57 := tab_ok (K := K57) rfl rfl (fun h => d57 h) rk57 (by decide +kernel)
set_option maxRecDepth 100000 in
theorem pc57 : cutpc [] R57 = true := by decide +kernel
set_option maxRecDepth 100000 in
theorem r5_restore (F73 : PM → PM) (G73 : PM → Prop) (o73 : CalOK 0 (CC73 F73 G73)) (F104 : PM → PM) (G104 : PM → Prop) (o104 : CalOK 0 (CC104 F104 G104)) (F18 : PM → PM) (G18 : PM → Prop) (o18 : CalOK 0 (CC18 F18 G18)) : ∀ (p : PM), Gr 0 p → bg5_restore F18 G18 F73 G73 F104 G104 p → ZJ 0 57 0 [zR 5 1] [] p (hwV (bv5_restore F18 F73 F104 p)) := by
  intro p   hg H
  exact rwV (n := 3000) (q := 0) (la := [zR 5 1]) (sa := []) (ks := []) (gs := []) (fcons o73 (fcons o104 (fcons o18 (fnil)))) tab57 pc57 trivial hg H
theorem t5_restore : ∀ (p : PM), Gr 0 p → g5_restore p → ZJ 0 57 0 [zR 5 1] [] p (hwV (v5_restore p)) := r5_restore v6_restore g6_restore ok73 v7_restore g7_restore ok104 v2_restore g2_restore ok18
def CC57 (F : PM → PM) (G : PM → Prop) : Cal := (57, [8], 0, false, fun as p => (zJ, (F p )), fun as p => zsw (tc2 as [(105, 1)]) False (G p ))
set_option maxRecDepth 100000 in
theorem okr57 (F : PM → PM) (G : PM → Prop) (h : ∀ (p : PM), Gr 0 p → G p  → ZJ 0 57 0 [zR 5 1] [] p (hwV (F p ))) : CalOK 0 (CC57 F G) := cal_ok (m := 1) (by unfold mL; rw [mX_57]) (fun as p hg H => h p  hg H)
theorem ok57 : CalOK 0 (CC57 v5_restore g5_restore) := okr57 v5_restore g5_restore t5_restore
noncomputable def bv6_countLive_13 (p : PM) (kv13 : Int32 → Int32 → Int32) (v1 : Int32) (v4 : Int32) : Int32 :=
  if v4 < (cn 40) then (
    if (p.1 10 ((v4).toNatClampNeg + 1) 2) = 0 then (
      kv13 v1 (v4 + (cn 1)))
    else (
      kv13 (v1 + (cn 1)) (v4 + (cn 1))))
  else (
    v1)
noncomputable def v6_countLive_13 (p : PM) (n : Nat) : Int32 → Int32 → Int32 := Nat.rec (motive := fun _ => Int32 → Int32 → Int32) (fun _ _ => 0) (fun _ ih => bv6_countLive_13 p ih) n
theorem ev6_countLive_13 (p : PM) (n : Nat) (v1 : Int32) (v4 : Int32) : v6_countLive_13 p (n + 1) v1 v4 = bv6_countLive_13 p (v6_countLive_13 p n) v1 v4 := rfl
noncomputable def bg6_countLive_13 (p : PM) (kg13 : Int32 → Int32 → Prop) (v1 : Int32) (v4 : Int32) : Prop :=
  if v4 < (cn 40) then (
    (inb v4 40) ∧ (
    if (p.1 10 ((v4).toNatClampNeg + 1) 2) = 0 then (
      kg13 v1 (v4 + (cn 1)))
    else (
      kg13 (v1 + (cn 1)) (v4 + (cn 1)))))
  else (
    True)
noncomputable def g6_countLive_13 (p : PM) (n : Nat) : Int32 → Int32 → Prop := Nat.rec (motive := fun _ => Int32 → Int32 → Prop) (fun _ _ => False) (fun _ ih => bg6_countLive_13 p ih) n
theorem eg6_countLive_13 (p : PM) (n : Nat) (v1 : Int32) (v4 : Int32) : g6_countLive_13 p (n + 1) v1 v4 = bg6_countLive_13 p (g6_countLive_13 p n) v1 v4 := rfl
noncomputable def bv6_countLive (p : PM) (kv13 : Int32 → Int32 → Int32) : Int32 :=
  kv13 (cn 0) (cn 0)
noncomputable def v6_countLive (p : PM) : Int32 := bv6_countLive p (v6_countLive_13 p FU)
noncomputable def bg6_countLive (p : PM) (kg13 : Int32 → Int32 → Prop) : Prop :=
  kg13 (cn 0) (cn 0)
noncomputable def g6_countLive (p : PM) : Prop := bg6_countLive p (g6_countLive_13 p FU)
def R76 : List Row := [(0, .iconst 0, 1, 0, (0, 0, 0, 0, 0, 0)), (1, .istore_n 1, 1, 0, (0, 0, 0, 0, 0, 0)), (2, .aload_n 0, 1, 0, (0, 0, 0, 0, 0, 0)), (3, .getfield 11, 3, 0, (6, 1, 23, 2, 1, 0)), (6, .astore_n 2, 1, 0, (0, 0, 0, 0, 0, 0)), (7, .aload_n 2, 1, 0, (0, 0, 0, 0, 0, 0)), (8, .arraylength, 1, 0, (20, 40, 0, 0, 0, 40)), (9, .istore_n 3, 1, 0, (0, 0, 0, 0, 0, 0)), (10, .iconst 0, 1, 0, (0, 0, 0, 0, 0, 0)), (11, .istore 4, 2, 0, (0, 0, 0, 0, 0, 0)), (13, .iload 4, 2, 1, (0, 0, 0, 0, 0, 0)), (15, .iload_n 3, 1, 0, (0, 0, 0, 0, 0, 0)), (16, .if_icmp .ge 26, 3, 0, (0, 0, 0, 0, 0, 0)), (19, .aload_n 2, 1, 0, (0, 0, 0, 0, 0, 0)), (20, .iload 4, 2, 0, (0, 0, 0, 0, 0, 0)), (22, .aaload, 1, 0, (20, 40, 0, 1, 1, 0)), (23, .astore 5, 2, 0, (0, 0, 0, 0, 0, 0)), (25, .aload 5, 2, 0, (0, 0, 0, 0, 0, 0)), (27, .getfield 29, 3, 0, (10, 2, 0, 1, 0, 0)), (30, .ifCond .eq 6, 3, 0, (0, 0, 0, 0, 0, 0)), (33, .iinc 1 1, 3, 0, (0, 0, 0, 0, 0, 1)), (36, .iinc 4 1, 3, 0, (0, 0, 0, 0, 0, 1)), (39, .goto (-26), 3, 0, (0, 0, 0, 0, 0, 0)), (42, .iload_n 1, 1, 0, (0, 0, 0, 0, 0, 0)), (43, .ireturn, 1, 0, (0, 0, 0, 0, 0, 0))]
set_option maxRecDepth 100000 in
theorem rk76 : R76.all (rok 0 76 1 []) = true := by decide +kernel
set_option maxRecDepth 100000 in
theorem tab76 : TabOK 0 76 1 [] R76 := tab_ok (K := K76) rfl rfl (fun h => d76 h) rk76 (by decide +kernel)
set_option maxRecDepth 100000 in
theorem pc76 : cutpc [13] R76 = true := by decide +kernel
set_option maxRecDepth 100000 in
theorem r6_countLive_13 (p : PM) (hg : Gr 0 p) (kv13 : Int32 → Int32 → Int32) (kg13 : Int32 → Int32 → Prop) (hk13 : ∀ (v1 : Int32) (v4 : Int32) (d0 d5 : ZV), kg13 v1 v4 → ZJ 0 76 13 [d0, zI v1, zR 20 1, zC 40, zI v4, d5] [] p (hoI p (kv13 v1 v4))) : ∀ (v1 : Int32) (v4 : Int32) (d0 d5 : ZV), bg6_countLive_13 p kg13 v1 v4 → ZJ 0 76 13 [d0, zI v1, zR 20 1, zC 40, zI v4, d5] [] p (hoI p (bv6_countLive_13 p kv13 v1 v4)) := by
  intro v1 v4 d0 d5 H
  exact roI (n := 3000) (q := 13) (la := [d0, zI v1, zR 20 1, zC 40, zI v4, d5]) (sa := []) (ks := [fun la sa _ => kv13 (ai la 1) (ai la 4)]) (gs := [fun la sa _ => zsw (tc2 la [(2, 0), (0, 0), (120, 1), (3, 40), (0, 0), (2, 0)] && tc2 sa []) False (kg13 (ai la 1) (ai la 4))]) (fnil) tab76 pc76 ⟨fun la sa s hg H => zcut H fun H => hk13 (ai la 1) (ai la 4) (zld la 0) (zld la 5) H, trivial⟩ hg H
theorem t6_countLive_13 (p : PM) (hg : Gr 0 p) : ∀ (n : Nat), ∀ (v1 : Int32) (v4 : Int32) (d0 d5 : ZV), g6_countLive_13 p n v1 v4 → ZJ 0 76 13 [d0, zI v1, zR 20 1, zC 40, zI v4, d5] [] p (hoI p (v6_countLive_13 p n v1 v4)) := by
  intro n
  induction n with
  | zero =>
    intro v1 v4 d0 d5 H
    exact H.elim
  | succ n ih => exact r6_countLive_13 p hg (v6_countLive_13 p n) (g6_countLive_13 p n) ih
set_option maxRecDepth 100000 in
theorem r6_countLive (p : PM) (hg : Gr 0 p) (kv13 : Int32 → Int32 → Int32) (kg13 : Int32 → Int32 → Prop) (hk13 : ∀ (v1 : Int32) (v4 : Int32) (d0 d5 : ZV), kg13 v1 v4 → ZJ 0 76 13 [d0, zI v1, zR 20 1, zC 40, zI v4, d5] [] p (hoI p (kv13 v1 v4))) : bg6_countLive p kg13 → ZJ 0 76 0 [zR 6 1, zJ, zJ, zJ, zJ, zJ] [] p (hoI p (bv6_countLive p kv13)) := by
  intro   H
  exact roI (n := 3000) (q := 0) (la := [zR 6 1, zJ, zJ, zJ, zJ, zJ]) (sa := []) (ks := [fun la sa _ => kv13 (ai la 1) (ai la 4)]) (gs := [fun la sa _ => zsw (tc2 la [(2, 0), (0, 0), (120, 1), (3, 40), (0, 0), (2, 0)] && tc2 sa []) False (kg13 (ai la 1) (ai la 4))]) (fnil) tab76 pc76 ⟨fun la sa s hg H => zcut H fun H => hk13 (ai la 1) (ai la 4) (zld la 0) (zld la 5) H, trivial⟩ hg H
theorem t6_countLive (p : PM) (hg : Gr 0 p) : g6_countLive p → ZJ 0 76 0 [zR 6 1, zJ, zJ, zJ, zJ, zJ] [] p (hoI p (v6_countLive p)) := r6_countLive p hg (v6_countLive_13 p FU) (g6_countLive_13 p FU) (t6_countLive_13 p hg FU)
def CC76 (F : PM → Int32) (G : PM → Prop) : Cal := (76, [9], 1, true, fun as p => (zI (F p ), p), fun as p => zsw (tc2 as [(106, 1)]) False (G p ))
set_option maxRecDepth 100000 in
theorem okr76 (F : PM → Int32) (G : PM → Prop) (h : ∀ (p : PM), Gr 0 p → G p  → ZJ 0 76 0 [zR 6 1, zJ, zJ, zJ, zJ, zJ] [] p (hoI p (F p ))) : CalOK 0 (CC76 F G) := cal_ok (m := 6) (by unfold mL; rw [mX_76]) (fun as p hg H => h p  hg H)
theorem ok76 : CalOK 0 (CC76 v6_countLive g6_countLive) := okr76 v6_countLive g6_countLive (fun p  hg H => t6_countLive p hg  H)
noncomputable def bv10_addsTo (p : PM) (v0 : Nat) (v1 : Int32) (v2 : Int32) : Int32 :=
  if (p.1 1 (p.2.2 10 v0 4) 1) = v1 then (
    if (p.1 10 v0 5) = v2 then (
      (cn 1))
    else (
      if (p.1 1 (p.2.2 10 v0 4) 2) = v1 then (
        if (p.1 10 v0 5) = v2 then (
          (cn 0))
        else (
          (cn 1)))
      else (
        (cn 0))))
  else (
    if (p.1 1 (p.2.2 10 v0 4) 2) = v1 then (
      if (p.1 10 v0 5) = v2 then (
        (cn 0))
      else (
        (cn 1)))
    else (
      (cn 0)))
noncomputable def v10_addsTo (p : PM) (v0 : Nat) (v1 : Int32) (v2 : Int32) : Int32 := bv10_addsTo p v0 v1 v2
noncomputable def bg10_addsTo (p : PM) (v0 : Nat) (v1 : Int32) (v2 : Int32) : Prop :=
  (¬ v0 = 0) ∧ (
  (¬ (p.2.2 10 v0 4) = 0) ∧ (
  if (p.1 1 (p.2.2 10 v0 4) 1) = v1 then (
    (¬ v0 = 0) ∧ (
    if (p.1 10 v0 5) = v2 then (
      True)
    else (
      (¬ v0 = 0) ∧ (
      (¬ (p.2.2 10 v0 4) = 0) ∧ (
      if (p.1 1 (p.2.2 10 v0 4) 2) = v1 then (
        (¬ v0 = 0) ∧ (
        if (p.1 10 v0 5) = v2 then (
          True)
        else (
          True)))
      else (
        True))))))
  else (
    (¬ v0 = 0) ∧ (
    (¬ (p.2.2 10 v0 4) = 0) ∧ (
    if (p.1 1 (p.2.2 10 v0 4) 2) = v1 then (
      (¬ v0 = 0) ∧ (
      if (p.1 10 v0 5) = v2 then (
        True)
      else (
        True)))
    else (
      True))))))
noncomputable def g10_addsTo (p : PM) (v0 : Nat) (v1 : Int32) (v2 : Int32) : Prop := bg10_addsTo p v0 v1 v2
def R147 : List Row := [(0, .aload_n 0, 1, 0, (0, 0, 0, 0, 0, 0)), (1, .getfield 15, 3, 0, (10, 4, 4, 0, 0, 0)), (4, .getfield 73, 3, 0, (1, 1, 0, 0, 0, 0)), (7, .iload_n 1, 1, 0, (0, 0, 0, 0, 0, 0)), (8, .if_icmp .ne 11, 3, 0, (0, 0, 0, 0, 0, 0)), (11, .aload_n 0, 1, 0, (0, 0, 0, 0, 0, 0)), (12, .getfield 29, 3, 0, (10, 5, 1, 0, 0, 0)), (15, .iload_n 2, 1, 0, (0, 0, 0, 0, 0, 0)), (16, .if_icmp .eq 22, 3, 0, (0, 0, 0, 0, 0, 0)), (19, .aload_n 0, 1, 0, (0, 0, 0, 0, 0, 0)), (20, .getfield 15, 3, 0, (10, 4, 4, 0, 0, 0)), (23, .getfield 78, 3, 0, (1, 2, 0, 0, 0, 0)), (26, .iload_n 1, 1, 0, (0, 0, 0, 0, 0, 0)), (27, .if_icmp .ne 15, 3, 0, (0, 0, 0, 0, 0, 0)), (30, .aload_n 0, 1, 0, (0, 0, 0, 0, 0, 0)), (31, .getfield 29, 3, 0, (10, 5, 1, 0, 0, 0)), (34, .iload_n 2, 1, 0, (0, 0, 0, 0, 0, 0)), (35, .if_icmp .eq 7, 3, 0, (0, 0, 0, 0, 0, 0)), (38, .iconst 1, 1, 0, (0, 0, 0, 0, 0, 1)), (39, .goto 4, 3, 0, (0, 0, 0, 0, 0, 0)), (42, .iconst 0, 1, 0, (0, 0, 0, 0, 0, 0)), (43, .ireturn, 1, 0, (1, 0, 0, 0, 0, 0))]
set_option maxRecDepth 100000 in
theorem rk147 : R147.all (rok 0 147 1 []) = true := by decide +kernel
set_option maxRecDepth 100000 in
theorem tab147 : TabOK 0 147 1 [] R147 := tab_ok (K := K147) rfl rfl (fun h => d147 h) rk147 (by decide +kernel)
set_option maxRecDepth 100000 in
theorem pc147 : cutpc [] R147 = true := by decide +kernel
set_option maxRecDepth 100000 in
theorem r10_addsTo (p : PM) (hg : Gr 0 p) : ∀ (v0 : Nat) (v1 : Int32) (v2 : Int32), bg10_addsTo p v0 v1 v2 → ZJ 0 147 0 [zR 10 v0, zI v1, zI v2] [] p (hoI p (bv10_addsTo p v0 v1 v2)) := by
  intro v0 v1 v2  H
  exact roI (n := 3000) (q := 0) (la := [zR 10 v0, zI v1, zI v2]) (sa := []) (ks := []) (gs := []) (fnil) tab147 pc147 trivial hg H
theorem t10_addsTo (p : PM) (hg : Gr 0 p) : ∀ (v0 : Nat) (v1 : Int32) (v2 : Int32), g10_addsTo p v0 v1 v2 → ZJ 0 147 0 [zR 10 v0, zI v1, zI v2] [] p (hoI p (v10_addsTo p v0 v1 v2)) := r10_addsTo p hg
def CC147 (F : PM → Nat → Int32 → Int32 → Int32) (G : PM → Nat → Int32 → Int32 → Prop) : Cal := (147, [13, 0, 0], 1, true, fun as p => (zI (F p (ar as 0) (ai as 1) (ai as 2)), p), fun as p => zsw (tc2 as [(14, 0), (0, 0), (0, 0)]) False (G p (ar as 0) (ai as 1) (ai as 2)))
set_option maxRecDepth 100000 in
theorem okr147 (F : PM → Nat → Int32 → Int32 → Int32) (G : PM → Nat → Int32 → Int32 → Prop) (h : ∀ (p : PM) (v0 : Nat) (v1 : Int32) (v2 : Int32), Gr 0 p → G p v0 v1 v2 → ZJ 0 147 0 [zR 10 v0, zI v1, zI v2] [] p (hoI p (F p v0 v1 v2))) : CalOK 0 (CC147 F G) := cal_ok (m := 3) (by unfold mL; rw [mX_147]) (fun as p hg H => h p (ar as 0) (ai as 1) (ai as 2) hg H)
theorem ok147 : CalOK 0 (CC147 v10_addsTo g10_addsTo) := okr147 v10_addsTo g10_addsTo (fun p v0 v1 v2 hg H => t10_addsTo p hg v0 v1 v2 H)
noncomputable def bv6_reach_36 (p : PM) (F147 : PM → Nat → Int32 → Int32 → Int32) (kv36 : Nat → Int32 → Int32 → Int64 → Int32 → Int64) (v1 : Nat) (v2 : Int32) (v3 : Int32) (v4 : Int64) (v8 : Int32) : Int64 :=
  if v8 < (cn 40) then (
    if (p.1 10 ((v8).toNatClampNeg + 1) 2) = 0 then (
      kv36 v1 v2 v3 v4 (v8 + (cn 1)))
    else (
      if (p.2.2 10 ((v8).toNatClampNeg + 1) 3) = v1 then (
        if (F147 p ((v8).toNatClampNeg + 1) v2 v3) = 0 then (
          kv36 v1 v2 v3 v4 (v8 + (cn 1)))
        else (
          let x1 : Int64 := (v4 + ((p.1 10 ((v8).toNatClampNeg + 1) 9)).toInt64)
          kv36 v1 v2 v3 x1 (v8 + (cn 1))))
      else (
        kv36 v1 v2 v3 v4 (v8 + (cn 1)))))
  else (
    v4)
noncomputable def v6_reach_36 (p : PM) (n : Nat) : Nat → Int32 → Int32 → Int64 → Int32 → Int64 := Nat.rec (motive := fun _ => Nat → Int32 → Int32 → Int64 → Int32 → Int64) (fun _ _ _ _ _ => 0) (fun _ ih => bv6_reach_36 p v10_addsTo ih) n
theorem ev6_reach_36 (p : PM) (n : Nat) (v1 : Nat) (v2 : Int32) (v3 : Int32) (v4 : Int64) (v8 : Int32) : v6_reach_36 p (n + 1) v1 v2 v3 v4 v8 = bv6_reach_36 p v10_addsTo (v6_reach_36 p n) v1 v2 v3 v4 v8 := rfl
noncomputable def bg6_reach_36 (p : PM) (F147 : PM → Nat → Int32 → Int32 → Int32) (G147 : PM → Nat → Int32 → Int32 → Prop) (kg36 : Nat → Int32 → Int32 → Int64 → Int32 → Prop) (v1 : Nat) (v2 : Int32) (v3 : Int32) (v4 : Int64) (v8 : Int32) : Prop :=
  if v8 < (cn 40) then (
    (inb v8 40) ∧ (
    if (p.1 10 ((v8).toNatClampNeg + 1) 2) = 0 then (
      kg36 v1 v2 v3 v4 (v8 + (cn 1)))
    else (
      if (p.2.2 10 ((v8).toNatClampNeg + 1) 3) = v1 then (
        (G147 p ((v8).toNatClampNeg + 1) v2 v3) ∧ (
        if (F147 p ((v8).toNatClampNeg + 1) v2 v3) = 0 then (
          kg36 v1 v2 v3 v4 (v8 + (cn 1)))
        else (
          let x1 : Int64 := (v4 + ((p.1 10 ((v8).toNatClampNeg + 1) 9)).toInt64)
          kg36 v1 v2 v3 x1 (v8 + (cn 1)))))
      else (
        kg36 v1 v2 v3 v4 (v8 + (cn 1))))))
  else (
    True)
noncomputable def g6_reach_36 (p : PM) (n : Nat) : Nat → Int32 → Int32 → Int64 → Int32 → Prop := Nat.rec (motive := fun _ => Nat → Int32 → Int32 → Int64 → Int32 → Prop) (fun _ _ _ _ _ => False) (fun _ ih => bg6_reach_36 p v10_addsTo g10_addsTo ih) n
theorem eg6_reach_36 (p : PM) (n : Nat) (v1 : Nat) (v2 : Int32) (v3 : Int32) (v4 : Int64) (v8 : Int32) : g6_reach_36 p (n + 1) v1 v2 v3 v4 v8 = bg6_reach_36 p v10_addsTo g10_addsTo (g6_reach_36 p n) v1 v2 v3 v4 v8 := rfl
noncomputable def bv6_reach (p : PM) (F2 : PM → Nat → Int32 → Int32) (kv36 : Nat → Int32 → Int32 → Int64 → Int32 → Int64) (v1 : Nat) (v2 : Int32) (v3 : Int32) : Int64 :=
  if v3 = 0 then (
    let x1 : Int64 := ((-(F2 p v1 v2))).toInt64
    kv36 v1 v2 v3 x1 (cn 0))
  else (
    let x2 : Int64 := ((F2 p v1 v2)).toInt64
    kv36 v1 v2 v3 x2 (cn 0))
noncomputable def v6_reach (p : PM) (v1 : Nat) (v2 : Int32) (v3 : Int32) : Int64 := bv6_reach p v0_holds (v6_reach_36 p FU) v1 v2 v3
noncomputable def bg6_reach (p : PM) (F2 : PM → Nat → Int32 → Int32) (G2 : PM → Nat → Int32 → Prop) (kg36 : Nat → Int32 → Int32 → Int64 → Int32 → Prop) (v1 : Nat) (v2 : Int32) (v3 : Int32) : Prop :=
  if v3 = 0 then (
    (¬ v1 = 0) ∧ (
    (G2 p v1 v2) ∧ (
    let x1 : Int64 := ((-(F2 p v1 v2))).toInt64
    kg36 v1 v2 v3 x1 (cn 0))))
  else (
    (¬ v1 = 0) ∧ (
    (G2 p v1 v2) ∧ (
    let x2 : Int64 := ((F2 p v1 v2)).toInt64
    kg36 v1 v2 v3 x2 (cn 0))))
noncomputable def g6_reach (p : PM) (v1 : Nat) (v2 : Int32) (v3 : Int32) : Prop := bg6_reach p v0_holds g0_holds (g6_reach_36 p FU) v1 v2 v3
def R85 : List Row := [(0, .iload_n 3, 1, 0, (0, 0, 0, 0, 0, 0)), (1, .ifCond .eq 12, 3, 0, (0, 0, 0, 0, 0, 0)), (4, .aload_n 1, 1, 0, (0, 0, 0, 0, 0, 0)), (5, .iload_n 2, 1, 0, (0, 0, 0, 0, 0, 0)), (6, .invokevirtual 112, 3, 0, (0, 2, 0, 0, 2, 0)), (9, .i2l, 1, 0, (0, 0, 0, 0, 0, 0)), (10, .goto 10, 3, 0, (0, 0, 0, 0, 0, 0)), (13, .aload_n 1, 1, 0, (0, 0, 0, 0, 0, 0)), (14, .iload_n 2, 1, 0, (0, 0, 0, 0, 0, 0)), (15, .invokevirtual 112, 3, 0, (0, 2, 0, 0, 2, 0)), (18, .ineg, 1, 0, (0, 0, 0, 0, 0, 0)), (19, .i2l, 1, 0, (0, 0, 0, 0, 0, 0)), (20, .lstore 4, 2, 0, (0, 0, 0, 0, 0, 0)), (22, .aload_n 0, 1, 0, (0, 0, 0, 0, 0, 0)), (23, .getfield 11, 3, 0, (6, 1, 23, 2, 1, 0)), (26, .astore 6, 2, 0, (0, 0, 0, 0, 0, 0)), (28, .aload 6, 2, 0, (0, 0, 0, 0, 0, 0)), (30, .arraylength, 1, 0, (20, 40, 0, 0, 0, 40)), (31, .istore 7, 2, 0, (0, 0, 0, 0, 0, 0)), (33, .iconst 0, 1, 0, (0, 0, 0, 0, 0, 0)), (34, .istore 8, 2, 0, (0, 0, 0, 0, 0, 0)), (36, .iload 8, 2, 1, (0, 0, 0, 0, 0, 0)), (38, .iload 7, 2, 0, (0, 0, 0, 0, 0, 0)), (40, .if_icmp .ge 54, 3, 0, (0, 0, 0, 0, 0, 0)), (43, .aload 6, 2, 0, (0, 0, 0, 0, 0, 0)), (45, .iload 8, 2, 0, (0, 0, 0, 0, 0, 0)), (47, .aaload, 1, 0, (20, 40, 0, 1, 1, 0)), (48, .astore 9, 2, 0, (0, 0, 0, 0, 0, 0)), (50, .aload 9, 2, 0, (0, 0, 0, 0, 0, 0)), (52, .getfield 29, 3, 0, (10, 2, 0, 1, 0, 0)), (55, .ifCond .eq 33, 3, 0, (0, 0, 0, 0, 0, 0)), (58, .aload 9, 2, 0, (0, 0, 0, 0, 0, 0)), (60, .getfield 115, 3, 0, (10, 3, 3, 1, 0, 0)), (63, .aload_n 1, 1, 0, (0, 0, 0, 0, 0, 0)), (64, .if_acmp .ne 24, 3, 0, (0, 0, 0, 0, 0, 0)), (67, .aload 9, 2, 0, (0, 0, 0, 0, 0, 0)), (69, .iload_n 2, 1, 0, (0, 0, 0, 0, 0, 0)), (70, .iload_n 3, 1, 0, (0, 0, 0, 0, 0, 0)), (71, .invokevirtual 119, 3, 0, (1, 3, 0, 0, 1, 0)), (74, .ifCond .eq 14, 3, 0, (0, 0, 0, 0, 0, 0)), (77, .lload 4, 2, 0, (0, 0, 0, 0, 0, 0)), (79, .aload 9, 2, 0, (0, 0, 0, 0, 0, 0)), (81, .getfield 123, 3, 0, (10, 9, 0, 1, 0, 0)), (84, .i2l, 1, 0, (0, 0, 0, 0, 0, 0)), (85, .ladd, 1, 0, (0, 0, 0, 0, 0, 0)), (86, .lstore 4, 2, 0, (0, 0, 0, 0, 0, 0)), (88, .iinc 8 1, 3, 0, (0, 0, 0, 0, 0, 1)), (91, .goto (-55), 3, 0, (0, 0, 0, 0, 0, 0)), (94, .lload 4, 2, 0, (0, 0, 0, 0, 0, 0)), (96, .lreturn, 1, 0, (0, 0, 0, 0, 0, 0))]
set_option maxRecDepth 100000 in
theorem rk85 : R85.all (rok 0 85 2 [(2, [3, 0]), (147, [13, 0, 0])]) = true := by decide +kernel
set_option maxRecDepth 100000 in
theorem tab85 {F2 : PM → Nat → Int32 → Int32} {G2 : PM → Nat → Int32 → Prop} {F147 : PM → Nat → Int32 → Int32 → Int32} {G147 : PM → Nat → Int32 → Int32 → Prop} : TabOK 0 85 2 [CC2 F2 G2, CC147 F147 G147] R85 := tab_ok (K := K85) rfl rfl (fun h => d85 h) rk85 (by decide +kernel)
set_option maxRecDepth 100000 in
theorem pc85 : cutpc [36] R85 = true := by decide +kernel
set_option maxRecDepth 100000 in
theorem r6_reach_36 (p : PM) (hg : Gr 0 p) (F2 : PM → Nat → Int32 → Int32) (G2 : PM → Nat → Int32 → Prop) (o2 : CalOK 0 (CC2 F2 G2)) (F147 : PM → Nat → Int32 → Int32 → Int32) (G147 : PM → Nat → Int32 → Int32 → Prop) (o147 : CalOK 0 (CC147 F147 G147)) (kv36 : Nat → Int32 → Int32 → Int64 → Int32 → Int64) (kg36 : Nat → Int32 → Int32 → Int64 → Int32 → Prop) (hk36 : ∀ (v1 : Nat) (v2 : Int32) (v3 : Int32) (v4 : Int64) (v8 : Int32) (d0 d5 d9 : ZV), kg36 v1 v2 v3 v4 v8 → ZJ 0 85 36 [d0, zR 0 v1, zI v2, zI v3, zL v4, d5, zR 20 1, zC 40, zI v8, d9] [] p (hoL p (kv36 v1 v2 v3 v4 v8))) : ∀ (v1 : Nat) (v2 : Int32) (v3 : Int32) (v4 : Int64) (v8 : Int32) (d0 d5 d9 : ZV), bg6_reach_36 p F147 G147 kg36 v1 v2 v3 v4 v8 → ZJ 0 85 36 [d0, zR 0 v1, zI v2, zI v3, zL v4, d5, zR 20 1, zC 40, zI v8, d9] [] p (hoL p (bv6_reach_36 p F147 kv36 v1 v2 v3 v4 v8)) := by
  intro v1 v2 v3 v4 v8 d0 d5 d9 H
  exact roL (n := 3000) (q := 36) (la := [d0, zR 0 v1, zI v2, zI v3, zL v4, d5, zR 20 1, zC 40, zI v8, d9]) (sa := []) (ks := [fun la sa _ => kv36 (ar la 1) (ai la 2) (ai la 3) (al la 4) (ai la 8)]) (gs := [fun la sa _ => zsw (tc2 la [(2, 0), (4, 0), (0, 0), (0, 0), (1, 0), (2, 0), (120, 1), (3, 40), (0, 0), (2, 0)] && tc2 sa []) False (kg36 (ar la 1) (ai la 2) (ai la 3) (al la 4) (ai la 8))]) (fcons o2 (fcons o147 (fnil))) tab85 pc85 ⟨fun la sa s hg H => zcut H fun H => hk36 (ar la 1) (ai la 2) (ai la 3) (al la 4) (ai la 8) (zld la 0) (zld la 5) (zld la 9) H, trivial⟩ hg H
theorem t6_reach_36 (p : PM) (hg : Gr 0 p) : ∀ (n : Nat), ∀ (v1 : Nat) (v2 : Int32) (v3 : Int32) (v4 : Int64) (v8 : Int32) (d0 d5 d9 : ZV), g6_reach_36 p n v1 v2 v3 v4 v8 → ZJ 0 85 36 [d0, zR 0 v1, zI v2, zI v3, zL v4, d5, zR 20 1, zC 40, zI v8, d9] [] p (hoL p (v6_reach_36 p n v1 v2 v3 v4 v8)) := by
  intro n
  induction n with
  | zero =>
    intro v1 v2 v3 v4 v8 d0 d5 d9 H
    exact H.elim
  | succ n ih => exact r6_reach_36 p hg v0_holds g0_holds ok2 v10_addsTo g10_addsTo ok147 (v6_reach_36 p n) (g6_reach_36 p n) ih
set_option maxRecDepth 100000 in
theorem r6_reach (p : PM) (hg : Gr 0 p) (F2 : PM → Nat → Int32 → Int32) (G2 : PM → Nat → Int32 → Prop) (o2 : CalOK 0 (CC2 F2 G2)) (F147 : PM → Nat → Int32 → Int32 → Int32) (G147 : PM → Nat → Int32 → Int32 → Prop) (o147 : CalOK 0 (CC147 F147 G147)) (kv36 : Nat → Int32 → Int32 → Int64 → Int32 → Int64) (kg36 : Nat → Int32 → Int32 → Int64 → Int32 → Prop) (hk36 : ∀ (v1 : Nat) (v2 : Int32) (v3 : Int32) (v4 : Int64) (v8 : Int32) (d0 d5 d9 : ZV), kg36 v1 v2 v3 v4 v8 → ZJ 0 85 36 [d0, zR 0 v1, zI v2, zI v3, zL v4, d5, zR 20 1, zC 40, zI v8, d9] [] p (hoL p (kv36 v1 v2 v3 v4 v8))) : ∀ (v1 : Nat) (v2 : Int32) (v3 : Int32), bg6_reach p F2 G2 kg36 v1 v2 v3 → ZJ 0 85 0 [zR 6 1, zR 0 v1, zI v2, zI v3, zJ, zJ, zJ, zJ, zJ, zJ] [] p (hoL p (bv6_reach p F2 kv36 v1 v2 v3)) := by
  intro v1 v2 v3  H
  exact roL (n := 3000) (q := 0) (la := [zR 6 1, zR 0 v1, zI v2, zI v3, zJ, zJ, zJ, zJ, zJ, zJ]) (sa := []) (ks := [fun la sa _ => kv36 (ar la 1) (ai la 2) (ai la 3) (al la 4) (ai la 8)]) (gs := [fun la sa _ => zsw (tc2 la [(2, 0), (4, 0), (0, 0), (0, 0), (1, 0), (2, 0), (120, 1), (3, 40), (0, 0), (2, 0)] && tc2 sa []) False (kg36 (ar la 1) (ai la 2) (ai la 3) (al la 4) (ai la 8))]) (fcons o2 (fcons o147 (fnil))) tab85 pc85 ⟨fun la sa s hg H => zcut H fun H => hk36 (ar la 1) (ai la 2) (ai la 3) (al la 4) (ai la 8) (zld la 0) (zld la 5) (zld la 9) H, trivial⟩ hg H
theorem t6_reach (p : PM) (hg : Gr 0 p) : ∀ (v1 : Nat) (v2 : Int32) (v3 : Int32), g6_reach p v1 v2 v3 → ZJ 0 85 0 [zR 6 1, zR 0 v1, zI v2, zI v3, zJ, zJ, zJ, zJ, zJ, zJ] [] p (hoL p (v6_reach p v1 v2 v3)) := r6_reach p hg v0_holds g0_holds ok2 v10_addsTo g10_addsTo ok147 (v6_reach_36 p FU) (g6_reach_36 p FU) (t6_reach_36 p hg FU)
def CC85 (F : PM → Nat → Int32 → Int32 → Int64) (G : PM → Nat → Int32 → Int32 → Prop) : Cal := (85, [9, 3, 0, 0], 2, true, fun as p => (zL (F p (ar as 1) (ai as 2) (ai as 3)), p), fun as p => zsw (tc2 as [(106, 1), (4, 0), (0, 0), (0, 0)]) False (G p (ar as 1) (ai as 2) (ai as 3)))
set_option maxRecDepth 100000 in
theorem okr85 (F : PM → Nat → Int32 → Int32 → Int64) (G : PM → Nat → Int32 → Int32 → Prop) (h : ∀ (p : PM) (v1 : Nat) (v2 : Int32) (v3 : Int32), Gr 0 p → G p v1 v2 v3 → ZJ 0 85 0 [zR 6 1, zR 0 v1, zI v2, zI v3, zJ, zJ, zJ, zJ, zJ, zJ] [] p (hoL p (F p v1 v2 v3))) : CalOK 0 (CC85 F G) := cal_ok (m := 10) (by unfold mL; rw [mX_85]) (fun as p hg H => h p (ar as 1) (ai as 2) (ai as 3) hg H)
theorem ok85 : CalOK 0 (CC85 v6_reach g6_reach) := okr85 v6_reach g6_reach (fun p v1 v2 v3 hg H => t6_reach p hg v1 v2 v3 H)
noncomputable def bv6_refuses (p : PM) (F3 : PM → Nat → Int32 → Int32) (F10 : PM → Nat → Int32) (F85 : PM → Nat → Int32 → Int32 → Int64) (F373 : PM → Int32 → Int32) (v1 : Nat) (v2 : Nat) (v3 : Int32) : Int32 :=
  if 0 < v3 then (
    if 0 < (lg_cmp ((F85 p v1 (p.1 1 v2 1) (cn 1)) + ((F373 p v3)).toInt64) ((F3 p v1 (p.1 1 v2 1))).toInt64) then (
      (cn 1))
    else (
      if (F10 p v2) = 0 then (
        (cn 0))
      else (
        if 0 < (lg_cmp ((F85 p v1 (p.1 1 v2 2) (cn 0)) + ((F373 p v3)).toInt64) ((F3 p v1 (p.1 1 v2 2))).toInt64) then (
          (cn 1))
        else (
          (cn 0)))))
  else (
    if 0 < (lg_cmp ((F85 p v1 (p.1 1 v2 1) (cn 0)) + ((F373 p v3)).toInt64) ((F3 p v1 (p.1 1 v2 1))).toInt64) then (
      (cn 1))
    else (
      if (F10 p v2) = 0 then (
        (cn 0))
      else (
        if 0 < (lg_cmp ((F85 p v1 (p.1 1 v2 2) (cn 1)) + ((F373 p v3)).toInt64) ((F3 p v1 (p.1 1 v2 2))).toInt64) then (
          (cn 1))
        else (
          (cn 0)))))
noncomputable def v6_refuses (p : PM) (v1 : Nat) (v2 : Nat) (v3 : Int32) : Int32 := bv6_refuses p v0_limitOf v1_isSpread v6_reach v14_abs_0f7a4 v1 v2 v3
noncomputable def bg6_refuses (p : PM) (F3 : PM → Nat → Int32 → Int32) (G3 : PM → Nat → Int32 → Prop) (F10 : PM → Nat → Int32) (G10 : PM → Nat → Prop) (F85 : PM → Nat → Int32 → Int32 → Int64) (G85 : PM → Nat → Int32 → Int32 → Prop) (F373 : PM → Int32 → Int32) (G373 : PM → Int32 → Prop) (v1 : Nat) (v2 : Nat) (v3 : Int32) : Prop :=
  if 0 < v3 then (
    (G373 p v3) ∧ (
    (¬ v2 = 0) ∧ (
    (G85 p v1 (p.1 1 v2 1) (cn 1)) ∧ (
    (¬ v2 = 0) ∧ (
    (¬ v1 = 0) ∧ (
    (G3 p v1 (p.1 1 v2 1)) ∧ (
    if 0 < (lg_cmp ((F85 p v1 (p.1 1 v2 1) (cn 1)) + ((F373 p v3)).toInt64) ((F3 p v1 (p.1 1 v2 1))).toInt64) then (
      True)
    else (
      (¬ v2 = 0) ∧ (
      (G10 p v2) ∧ (
      if (F10 p v2) = 0 then (
        True)
      else (
        (¬ v2 = 0) ∧ (
        (G85 p v1 (p.1 1 v2 2) (cn 0)) ∧ (
        (¬ v2 = 0) ∧ (
        (¬ v1 = 0) ∧ (
        (G3 p v1 (p.1 1 v2 2)) ∧ (
        if 0 < (lg_cmp ((F85 p v1 (p.1 1 v2 2) (cn 0)) + ((F373 p v3)).toInt64) ((F3 p v1 (p.1 1 v2 2))).toInt64) then (
          True)
        else (
          True)))))))))))))))))
  else (
    (G373 p v3) ∧ (
    (¬ v2 = 0) ∧ (
    (G85 p v1 (p.1 1 v2 1) (cn 0)) ∧ (
    (¬ v2 = 0) ∧ (
    (¬ v1 = 0) ∧ (
    (G3 p v1 (p.1 1 v2 1)) ∧ (
    if 0 < (lg_cmp ((F85 p v1 (p.1 1 v2 1) (cn 0)) + ((F373 p v3)).toInt64) ((F3 p v1 (p.1 1 v2 1))).toInt64) then (
      True)
    else (
      (¬ v2 = 0) ∧ (
      (G10 p v2) ∧ (
      if (F10 p v2) = 0 then (
        True)
      else (
        (¬ v2 = 0) ∧ (
        (G85 p v1 (p.1 1 v2 2) (cn 1)) ∧ (
        (¬ v2 = 0) ∧ (
        (¬ v1 = 0) ∧ (
        (G3 p v1 (p.1 1 v2 2)) ∧ (
        if 0 < (lg_cmp ((F85 p v1 (p.1 1 v2 2) (cn 1)) + ((F373 p v3)).toInt64) ((F3 p v1 (p.1 1 v2 2))).toInt64) then (
          True)
        else (
          True)))))))))))))))))
noncomputable def g6_refuses (p : PM) (v1 : Nat) (v2 : Nat) (v3 : Int32) : Prop := bg6_refuses p v0_limitOf g0_limitOf v1_isSpread g1_isSpread v6_reach g6_reach v14_abs_0f7a4 g14_abs_0f7a4 v1 v2 v3
def R84 : List Row := [(0, .iload_n 3, 1, 0, (0, 0, 0, 0, 0, 0)), (1, .ifCond .le 7, 3, 0, (0, 0, 0, 0, 0, 0)), (4, .iconst 1, 1, 0, (0, 0, 0, 0, 0, 1)), (5, .goto 4, 3, 0, (0, 0, 0, 0, 0, 0)), (8, .iconst 0, 1, 0, (0, 0, 0, 0, 0, 0)), (9, .istore 4, 2, 0, (0, 0, 0, 0, 0, 0)), (11, .iload_n 3, 1, 0, (0, 0, 0, 0, 0, 0)), (12, .invokestatic 87, 3, 0, (0, 1, 0, 0, 0, 0)), (15, .istore 5, 2, 0, (0, 0, 0, 0, 0, 0)), (17, .aload_n 0, 1, 0, (0, 0, 0, 0, 0, 0)), (18, .aload_n 1, 1, 0, (0, 0, 0, 0, 0, 0)), (19, .aload_n 2, 1, 0, (0, 0, 0, 0, 0, 0)), (20, .getfield 93, 3, 0, (1, 1, 0, 0, 0, 0)), (23, .iload 4, 2, 0, (0, 0, 0, 0, 0, 0)), (25, .invokevirtual 96, 3, 0, (1, 4, 0, 0, 1, 0)), (28, .iload 5, 2, 0, (0, 0, 0, 0, 0, 0)), (30, .i2l, 1, 0, (0, 0, 0, 0, 0, 0)), (31, .ladd, 1, 0, (0, 0, 0, 0, 0, 0)), (32, .aload_n 1, 1, 0, (0, 0, 0, 0, 0, 0)), (33, .aload_n 2, 1, 0, (0, 0, 0, 0, 0, 0)), (34, .getfield 93, 3, 0, (1, 1, 0, 0, 0, 0)), (37, .invokevirtual 100, 3, 0, (2, 2, 0, 0, 2, 0)), (40, .i2l, 1, 0, (0, 0, 0, 0, 0, 0)), (41, .lcmp, 1, 0, (0, 0, 0, 0, 0, 0)), (42, .ifCond .le 5, 3, 0, (0, 0, 0, 0, 0, 0)), (45, .iconst 1, 1, 0, (0, 0, 0, 0, 0, 1)), (46, .ireturn, 1, 0, (1, 0, 0, 0, 0, 0)), (47, .aload_n 2, 1, 0, (0, 0, 0, 0, 0, 0)), (48, .invokevirtual 105, 3, 0, (3, 1, 0, 0, 2, 0)), (51, .ifCond .eq 43, 3, 0, (0, 0, 0, 0, 0, 0)), (54, .aload_n 0, 1, 0, (0, 0, 0, 0, 0, 0)), (55, .aload_n 1, 1, 0, (0, 0, 0, 0, 0, 0)), (56, .aload_n 2, 1, 0, (0, 0, 0, 0, 0, 0)), (57, .getfield 109, 3, 0, (1, 2, 0, 0, 0, 0)), (60, .iload 4, 2, 0, (0, 0, 0, 0, 0, 0)), (62, .ifCond .ne 7, 3, 0, (0, 0, 0, 0, 0, 0)), (65, .iconst 1, 1, 0, (0, 0, 0, 0, 0, 1)), (66, .goto 4, 3, 0, (0, 0, 0, 0, 0, 0)), (69, .iconst 0, 1, 0, (0, 0, 0, 0, 0, 0)), (70, .invokevirtual 96, 3, 0, (1, 4, 0, 0, 1, 0)), (73, .iload 5, 2, 0, (0, 0, 0, 0, 0, 0)), (75, .i2l, 1, 0, (0, 0, 0, 0, 0, 0)), (76, .ladd, 1, 0, (0, 0, 0, 0, 0, 0)), (77, .aload_n 1, 1, 0, (0, 0, 0, 0, 0, 0)), (78, .aload_n 2, 1, 0, (0, 0, 0, 0, 0, 0)), (79, .getfield 109, 3, 0, (1, 2, 0, 0, 0, 0)), (82, .invokevirtual 100, 3, 0, (2, 2, 0, 0, 2, 0)), (85, .i2l, 1, 0, (0, 0, 0, 0, 0, 0)), (86, .lcmp, 1, 0, (0, 0, 0, 0, 0, 0)), (87, .ifCond .le 7, 3, 0, (0, 0, 0, 0, 0, 0)), (90, .iconst 1, 1, 0, (0, 0, 0, 0, 0, 1)), (91, .goto 4, 3, 0, (0, 0, 0, 0, 0, 0)), (94, .iconst 0, 1, 0, (0, 0, 0, 0, 0, 0)), (95, .ireturn, 1, 0, (1, 0, 0, 0, 0, 0))]
set_option maxRecDepth 100000 in
theorem rk84 : R84.all (rok 0 84 1 [(373, [0]), (85, [9, 3, 0, 0]), (3, [3, 0]), (10, [4])]) = true := by decide +kernel
set_option maxRecDepth 100000 in
theorem tab84 {F373 : PM → Int32 → Int32} {G373 : PM → Int32 → Prop} {F85 : PM → Nat → Int32 → Int32 → Int64} {G85 : PM → Nat → Int32 → Int32 → Prop} {F3 : PM → Nat → Int32 → Int32} {G3 : PM → Nat → Int32 → Prop} {F10 : PM → Nat → Int32} {G10 : PM → Nat → Prop} : TabOK 0 84 1 [CC373 F373 G373, CC85 F85 G85, CC3 F3 G3, CC10 F10 G10] R84 := tab_ok (K := K84) rfl rfl (fun h => d84 h) rk84 (by decide +kernel)
set_option maxRecDepth 100000 in
theorem pc84 : cutpc [] R84 = true := by decide +kernel
set_option maxRecDepth 100000 in
theorem r6_refuses (p : PM) (hg : Gr 0 p) (F373 : PM → Int32 → Int32) (G373 : PM → Int32 → Prop) (o373 : CalOK 0 (CC373 F373 G373)) (F85 : PM → Nat → Int32 → Int32 → Int64) (G85 : PM → Nat → Int32 → Int32 → Prop) (o85 : CalOK 0 (CC85 F85 G85)) (F3 : PM → Nat → Int32 → Int32) (G3 : PM → Nat → Int32 → Prop) (o3 : CalOK 0 (CC3 F3 G3)) (F10 : PM → Nat → Int32) (G10 : PM → Nat → Prop) (o10 : CalOK 0 (CC10 F10 G10)) : ∀ (v1 : Nat) (v2 : Nat) (v3 : Int32), bg6_refuses p F3 G3 F10 G10 F85 G85 F373 G373 v1 v2 v3 → ZJ 0 84 0 [zR 6 1, zR 0 v1, zR 1 v2, zI v3, zJ, zJ] [] p (hoI p (bv6_refuses p F3 F10 F85 F373 v1 v2 v3)) := by
  intro v1 v2 v3  H
  exact roI (n := 3000) (q := 0) (la := [zR 6 1, zR 0 v1, zR 1 v2, zI v3, zJ, zJ]) (sa := []) (ks := []) (gs := []) (fcons o373 (fcons o85 (fcons o3 (fcons o10 (fnil))))) tab84 pc84 trivial hg H
theorem t6_refuses (p : PM) (hg : Gr 0 p) : ∀ (v1 : Nat) (v2 : Nat) (v3 : Int32), g6_refuses p v1 v2 v3 → ZJ 0 84 0 [zR 6 1, zR 0 v1, zR 1 v2, zI v3, zJ, zJ] [] p (hoI p (v6_refuses p v1 v2 v3)) := r6_refuses p hg v14_abs_0f7a4 g14_abs_0f7a4 ok373 v6_reach g6_reach ok85 v0_limitOf g0_limitOf ok3 v1_isSpread g1_isSpread ok10
def CC84 (F : PM → Nat → Nat → Int32 → Int32) (G : PM → Nat → Nat → Int32 → Prop) : Cal := (84, [9, 3, 4, 0], 1, true, fun as p => (zI (F p (ar as 1) (ar as 2) (ai as 3)), p), fun as p => zsw (tc2 as [(106, 1), (4, 0), (5, 0), (0, 0)]) False (G p (ar as 1) (ar as 2) (ai as 3)))
set_option maxRecDepth 100000 in
theorem okr84 (F : PM → Nat → Nat → Int32 → Int32) (G : PM → Nat → Nat → Int32 → Prop) (h : ∀ (p : PM) (v1 : Nat) (v2 : Nat) (v3 : Int32), Gr 0 p → G p v1 v2 v3 → ZJ 0 84 0 [zR 6 1, zR 0 v1, zR 1 v2, zI v3, zJ, zJ] [] p (hoI p (F p v1 v2 v3))) : CalOK 0 (CC84 F G) := cal_ok (m := 6) (by unfold mL; rw [mX_84]) (fun as p hg H => h p (ar as 1) (ar as 2) (ai as 3) hg H)
theorem ok84 : CalOK 0 (CC84 v6_refuses g6_refuses) := okr84 v6_refuses g6_refuses (fun p v1 v2 v3 hg H => t6_refuses p hg v1 v2 v3 H)
noncomputable def bv5_admits (p : PM) (F19 : PM → Int32 → Nat) (F74 : PM → Int32 → Nat) (F76 : PM → Int32) (F84 : PM → Nat → Nat → Int32 → Int32) (F105 : PM → Int32 → Nat) (v1 : Int32) (v2 : Int32) (v3 : Int32) : Int32 :=
  if (p.1 9 (F19 p (p.1 0 (F105 p v1) 1)) 3) = 0 then (
    if (F76 p) < (cn 40) then (
      if (F84 p (F105 p v1) (F74 p v2) v3) = 0 then (
        (cn 1))
      else (
        (cn 0)))
    else (
      (cn 0)))
  else (
    (cn 0))
noncomputable def v5_admits (p : PM) (v1 : Int32) (v2 : Int32) (v3 : Int32) : Int32 := bv5_admits p v2_memberAt v6_bookAt v6_countLive v6_refuses v7_accountAt v1 v2 v3
noncomputable def bg5_admits (p : PM) (F19 : PM → Int32 → Nat) (G19 : PM → Int32 → Prop) (F74 : PM → Int32 → Nat) (G74 : PM → Int32 → Prop) (F76 : PM → Int32) (G76 : PM → Prop) (F84 : PM → Nat → Nat → Int32 → Int32) (G84 : PM → Nat → Nat → Int32 → Prop) (F105 : PM → Int32 → Nat) (G105 : PM → Int32 → Prop) (v1 : Int32) (v2 : Int32) (v3 : Int32) : Prop :=
  (G105 p v1) ∧ (
  (¬ (F105 p v1) = 0) ∧ (
  (G19 p (p.1 0 (F105 p v1) 1)) ∧ (
  (¬ (F19 p (p.1 0 (F105 p v1) 1)) = 0) ∧ (
  if (p.1 9 (F19 p (p.1 0 (F105 p v1) 1)) 3) = 0 then (
    (G76 p) ∧ (
    if (F76 p) < (cn 40) then (
      (G74 p v2) ∧ (
      (G84 p (F105 p v1) (F74 p v2) v3) ∧ (
      if (F84 p (F105 p v1) (F74 p v2) v3) = 0 then (
        True)
      else (
        True))))
    else (
      True)))
  else (
    True)))))
noncomputable def g5_admits (p : PM) (v1 : Int32) (v2 : Int32) (v3 : Int32) : Prop := bg5_admits p v2_memberAt g2_memberAt v6_bookAt g6_bookAt v6_countLive g6_countLive v6_refuses g6_refuses v7_accountAt g7_accountAt v1 v2 v3
def R58 : List Row := [(0, .aload_n 0, 1, 0, (0, 0, 0, 0, 0, 0)), (1, .getfield 19, 3, 0, (5, 1, 10, 2, 1, 0)), (4, .iload_n 1, 1, 0, (0, 0, 0, 0, 0, 0)), (5, .invokevirtual 27, 3, 0, (0, 2, 0, 0, 1, 0)), (8, .astore 4, 2, 0, (0, 0, 0, 0, 0, 0)), (10, .aload_n 0, 1, 0, (0, 0, 0, 0, 0, 0)), (11, .getfield 57, 3, 0, (5, 4, 5, 2, 1, 0)), (14, .aload 4, 2, 0, (0, 0, 0, 0, 0, 0)), (16, .getfield 67, 3, 0, (0, 1, 0, 0, 0, 0)), (19, .invokevirtual 73, 3, 0, (1, 2, 0, 0, 1, 0)), (22, .getfield 77, 3, 0, (9, 3, 1, 0, 0, 0)), (25, .ifCond .ne 40, 3, 0, (0, 0, 0, 0, 0, 0)), (28, .aload_n 0, 1, 0, (0, 0, 0, 0, 0, 0)), (29, .getfield 34, 3, 0, (5, 0, 9, 2, 1, 0)), (32, .invokevirtual 83, 3, 0, (2, 1, 0, 0, 1, 0)), (35, .bipush 40, 2, 0, (0, 0, 0, 0, 0, 40)), (37, .if_icmp .ge 28, 3, 0, (0, 0, 0, 0, 0, 0)), (40, .aload_n 0, 1, 0, (0, 0, 0, 0, 0, 0)), (41, .getfield 34, 3, 0, (5, 0, 9, 2, 1, 0)), (44, .aload 4, 2, 0, (0, 0, 0, 0, 0, 0)), (46, .aload_n 0, 1, 0, (0, 0, 0, 0, 0, 0)), (47, .getfield 34, 3, 0, (5, 0, 9, 2, 1, 0)), (50, .iload_n 2, 1, 0, (0, 0, 0, 0, 0, 0)), (51, .invokevirtual 87, 3, 0, (3, 2, 0, 0, 1, 0)), (54, .iload_n 3, 1, 0, (0, 0, 0, 0, 0, 0)), (55, .invokevirtual 91, 3, 0, (4, 4, 0, 0, 1, 0)), (58, .ifCond .ne 7, 3, 0, (0, 0, 0, 0, 0, 0)), (61, .iconst 1, 1, 0, (0, 0, 0, 0, 0, 1)), (62, .goto 4, 3, 0, (0, 0, 0, 0, 0, 0)), (65, .iconst 0, 1, 0, (0, 0, 0, 0, 0, 0)), (66, .ireturn, 1, 0, (1, 0, 0, 0, 0, 0))]
set_option maxRecDepth 100000 in
theorem rk58 : R58.all (rok 0 58 1 [(105, [10, 0]), (19, [5, 0]), (76, [9]), (74, [9, 0]), (84, [9, 3, 4, 0])]) = true := by decide +kernel
set_option maxRecDepth 100000 in
theorem tab58 {F105 : PM → Int32 → Nat} {G105 : PM → Int32 → Prop} {F19 : PM → Int32 → Nat} {G19 : PM → Int32 → Prop} {F76 : PM → Int32} {G76 : PM → Prop} {F74 : PM → Int32 → Nat} {G74 : PM → Int32 → Prop} {F84 : PM → Nat → Nat → Int32 → Int32} {G84 : PM → Nat → Nat → Int32 → Prop} : TabOK 0 58 1 [CC105 F105 G105, CC19 F19 G19, CC76 F76 G76, CC74 F74 G74, CC84 F84 G84] R58 := tab_ok (K := K58) rfl rfl (fun h => d58 h) rk58 (by decide +kernel)
set_option maxRecDepth 100000 in
theorem pc58 : cutpc [] R58 = true := by decide +kernel
set_option maxRecDepth 100000 in
theorem r5_admits (p : PM) (hg : Gr 0 p) (F105 : PM → Int32 → Nat) (G105 : PM → Int32 → Prop) (o105 : CalOK 0 (CC105 F105 G105)) (F19 : PM → Int32 → Nat) (G19 : PM → Int32 → Prop) (o19 : CalOK 0 (CC19 F19 G19)) (F76 : PM → Int32) (G76 : PM → Prop) (o76 : CalOK 0 (CC76 F76 G76)) (F74 : PM → Int32 → Nat) (G74 : PM → Int32 → Prop) (o74 : CalOK 0 (CC74 F74 G74)) (F84 : PM → Nat → Nat → Int32 → Int32) (G84 : PM → Nat → Nat → Int32 → Prop) (o84 : CalOK 0 (CC84 F84 G84)) : ∀ (v1 : Int32) (v2 : Int32) (v3 : Int32), bg5_admits p F19 G19 F74 G74 F76 G76 F84 G84 F105 G105 v1 v2 v3 → ZJ 0 58 0 [zR 5 1, zI v1, zI v2, zI v3, zJ] [] p (hoI p (bv5_admits p F19 F74 F76 F84 F105 v1 v2 v3)) := by
  intro v1 v2 v3  H
  exact roI (n := 3000) (q := 0) (la := [zR 5 1, zI v1, zI v2, zI v3, zJ]) (sa := []) (ks := []) (gs := []) (fcons o105 (fcons o19 (fcons o76 (fcons o74 (fcons o84 (fnil)))))) tab58 pc58 trivial hg H
theorem t5_admits (p : PM) (hg : Gr 0 p) : ∀ (v1 : Int32) (v2 : Int32) (v3 : Int32), g5_admits p v1 v2 v3 → ZJ 0 58 0 [zR 5 1, zI v1, zI v2, zI v3, zJ] [] p (hoI p (v5_admits p v1 v2 v3)) := r5_admits p hg v7_accountAt g7_accountAt ok105 v2_memberAt g2_memberAt ok19 v6_countLive g6_countLive ok76 v6_bookAt g6_bookAt ok74 v6_refuses g6_refuses ok84
def CC58 (F : PM → Int32 → Int32 → Int32 → Int32) (G : PM → Int32 → Int32 → Int32 → Prop) : Cal := (58, [8, 0, 0, 0], 1, true, fun as p => (zI (F p (ai as 1) (ai as 2) (ai as 3)), p), fun as p => zsw (tc2 as [(105, 1), (0, 0), (0, 0), (0, 0)]) False (G p (ai as 1) (ai as 2) (ai as 3)))
set_option maxRecDepth 100000 in
theorem okr58 (F : PM → Int32 → Int32 → Int32 → Int32) (G : PM → Int32 → Int32 → Int32 → Prop) (h : ∀ (p : PM) (v1 : Int32) (v2 : Int32) (v3 : Int32), Gr 0 p → G p v1 v2 v3 → ZJ 0 58 0 [zR 5 1, zI v1, zI v2, zI v3, zJ] [] p (hoI p (F p v1 v2 v3))) : CalOK 0 (CC58 F G) := cal_ok (m := 5) (by unfold mL; rw [mX_58]) (fun as p hg H => h p (ai as 1) (ai as 2) (ai as 3) hg H)
theorem ok58 : CalOK 0 (CC58 v5_admits g5_admits) := okr58 v5_admits g5_admits (fun p v1 v2 v3 hg H => t5_admits p hg v1 v2 v3 H)
noncomputable def bv10_begin (F373 : PM → Int32 → Int32) (p : PM) (v0 : Nat) (v1 : Int32) (v2 : Nat) (v3 : Nat) (v4 : Int32) (v5 : Int32) (v6 : Int32) : PM :=
  let p1 : PM := pI p 10 v0 0 v1
  let p2 : PM := pI p1 10 v0 1 (cn 0)
  let p3 : PM := pI p2 10 v0 2 (cn 2)
  let p4 : PM := pR p3 10 v0 3 v2
  let p5 : PM := pR p4 10 v0 4 v3
  if 0 < v5 then (
    let p18 : PM := pI p5 10 v0 5 (cn 1)
    let p19 : PM := pI p18 10 v0 6 v4
    let p20 : PM := pI p19 10 v0 7 (cn (-100000))
    let p21 : PM := pI p20 10 v0 8 v6
    let p22 : PM := pI p21 10 v0 9 (F373 p21 v5)
    let p23 : PM := pI p22 10 v0 10 (p22.1 10 v0 9)
    let p24 : PM := pI p23 10 v0 11 (cn 0)
    let p25 : PM := pI p24 10 v0 12 (cn 0)
    let p26 : PM := pI p25 10 v0 13 (cn 0)
    let p27 : PM := pI p26 10 v0 14 (cn 0)
    let p28 : PM := pI p27 10 v0 15 (cn (-100000))
    let p29 : PM := pI p28 10 v0 16 (cn 0)
    p29)
  else (
    let p6 : PM := pI p5 10 v0 5 (cn 0)
    let p7 : PM := pI p6 10 v0 6 v4
    let p8 : PM := pI p7 10 v0 7 (cn (-100000))
    let p9 : PM := pI p8 10 v0 8 v6
    let p10 : PM := pI p9 10 v0 9 (F373 p9 v5)
    let p11 : PM := pI p10 10 v0 10 (p10.1 10 v0 9)
    let p12 : PM := pI p11 10 v0 11 (cn 0)
    let p13 : PM := pI p12 10 v0 12 (cn 0)
    let p14 : PM := pI p13 10 v0 13 (cn 0)
    let p15 : PM := pI p14 10 v0 14 (cn 0)
    let p16 : PM := pI p15 10 v0 15 (cn (-100000))
    let p17 : PM := pI p16 10 v0 16 (cn 0)
    p17)
noncomputable def v10_begin (p : PM) (v0 : Nat) (v1 : Int32) (v2 : Nat) (v3 : Nat) (v4 : Int32) (v5 : Int32) (v6 : Int32) : PM := bv10_begin v14_abs_0f7a4 p v0 v1 v2 v3 v4 v5 v6
noncomputable def bg10_begin (F373 : PM → Int32 → Int32) (G373 : PM → Int32 → Prop) (p : PM) (v0 : Nat) (v1 : Int32) (v2 : Nat) (v3 : Nat) (v4 : Int32) (v5 : Int32) (v6 : Int32) : Prop :=
  (¬ v0 = 0) ∧ (
  let p1 : PM := pI p 10 v0 0 v1
  (¬ v0 = 0) ∧ (
  let p2 : PM := pI p1 10 v0 1 (cn 0)
  (¬ v0 = 0) ∧ (
  let p3 : PM := pI p2 10 v0 2 (cn 2)
  (¬ v0 = 0) ∧ (
  let p4 : PM := pR p3 10 v0 3 v2
  (¬ v0 = 0) ∧ (
  let p5 : PM := pR p4 10 v0 4 v3
  if 0 < v5 then (
    (¬ v0 = 0) ∧ (
    let p18 : PM := pI p5 10 v0 5 (cn 1)
    (¬ v0 = 0) ∧ (
    let p19 : PM := pI p18 10 v0 6 v4
    (¬ v0 = 0) ∧ (
    let p20 : PM := pI p19 10 v0 7 (cn (-100000))
    (¬ v0 = 0) ∧ (
    let p21 : PM := pI p20 10 v0 8 v6
    (G373 p21 v5) ∧ (
    (¬ v0 = 0) ∧ (
    let p22 : PM := pI p21 10 v0 9 (F373 p21 v5)
    (¬ v0 = 0) ∧ (
    (¬ v0 = 0) ∧ (
    let p23 : PM := pI p22 10 v0 10 (p22.1 10 v0 9)
    (¬ v0 = 0) ∧ (
    let p24 : PM := pI p23 10 v0 11 (cn 0)
    (¬ v0 = 0) ∧ (
    let p25 : PM := pI p24 10 v0 12 (cn 0)
    (¬ v0 = 0) ∧ (
    let p26 : PM := pI p25 10 v0 13 (cn 0)
    (¬ v0 = 0) ∧ (
    let p27 : PM := pI p26 10 v0 14 (cn 0)
    (¬ v0 = 0) ∧ (
    let p28 : PM := pI p27 10 v0 15 (cn (-100000))
    (¬ v0 = 0) ∧ (
    let p29 : PM := pI p28 10 v0 16 (cn 0)
    True)))))))))))))))
  else (
    (¬ v0 = 0) ∧ (
    let p6 : PM := pI p5 10 v0 5 (cn 0)
    (¬ v0 = 0) ∧ (
    let p7 : PM := pI p6 10 v0 6 v4
    (¬ v0 = 0) ∧ (
    let p8 : PM := pI p7 10 v0 7 (cn (-100000))
    (¬ v0 = 0) ∧ (
    let p9 : PM := pI p8 10 v0 8 v6
    (G373 p9 v5) ∧ (
    (¬ v0 = 0) ∧ (
    let p10 : PM := pI p9 10 v0 9 (F373 p9 v5)
    (¬ v0 = 0) ∧ (
    (¬ v0 = 0) ∧ (
    let p11 : PM := pI p10 10 v0 10 (p10.1 10 v0 9)
    (¬ v0 = 0) ∧ (
    let p12 : PM := pI p11 10 v0 11 (cn 0)
    (¬ v0 = 0) ∧ (
    let p13 : PM := pI p12 10 v0 12 (cn 0)
    (¬ v0 = 0) ∧ (
    let p14 : PM := pI p13 10 v0 13 (cn 0)
    (¬ v0 = 0) ∧ (
    let p15 : PM := pI p14 10 v0 14 (cn 0)
    (¬ v0 = 0) ∧ (
    let p16 : PM := pI p15 10 v0 15 (cn (-100000))
    (¬ v0 = 0) ∧ (
    let p17 : PM := pI p16 10 v0 16 (cn 0)
    True))))))))))))))))))))
noncomputable def g10_begin (p : PM) (v0 : Nat) (v1 : Int32) (v2 : Nat) (v3 : Nat) (v4 : Int32) (v5 : Int32) (v6 : Int32) : Prop := bg10_begin v14_abs_0f7a4 g14_abs_0f7a4 p v0 v1 v2 v3 v4 v5 v6
def R143 : List Row := [(0, .aload_n 0, 1, 0, (0, 0, 0, 0, 0, 0)), (1, .iload_n 1, 1, 0, (0, 0, 0, 0, 0, 0)), (2, .putfield 19, 3, 0, (10, 0, 0, 0, 0, 0)), (5, .aload_n 0, 1, 0, (0, 0, 0, 0, 0, 0)), (6, .iconst 0, 1, 0, (0, 0, 0, 0, 0, 0)), (7, .putfield 23, 3, 0, (10, 1, 0, 0, 0, 0)), (10, .aload_n 0, 1, 0, (0, 0, 0, 0, 0, 0)), (11, .iconst 2, 1, 0, (0, 0, 0, 0, 0, 2)), (12, .putfield 26, 3, 0, (10, 2, 0, 0, 0, 0)), (15, .aload_n 0, 1, 0, (0, 0, 0, 0, 0, 0)), (16, .aload_n 2, 1, 0, (0, 0, 0, 0, 0, 0)), (17, .putfield 9, 3, 0, (10, 3, 3, 0, 0, 0)), (20, .aload_n 0, 1, 0, (0, 0, 0, 0, 0, 0)), (21, .aload_n 3, 1, 0, (0, 0, 0, 0, 0, 0)), (22, .putfield 15, 3, 0, (10, 4, 4, 0, 0, 0)), (25, .aload_n 0, 1, 0, (0, 0, 0, 0, 0, 0)), (26, .iload 5, 2, 0, (0, 0, 0, 0, 0, 0)), (28, .ifCond .le 7, 3, 0, (0, 0, 0, 0, 0, 0)), (31, .iconst 1, 1, 0, (0, 0, 0, 0, 0, 1)), (32, .goto 4, 3, 0, (0, 0, 0, 0, 0, 0)), (35, .iconst 0, 1, 0, (0, 0, 0, 0, 0, 0)), (36, .putfield 29, 3, 0, (10, 5, 1, 0, 0, 0)), (39, .aload_n 0, 1, 0, (0, 0, 0, 0, 0, 0)), (40, .iload 4, 2, 0, (0, 0, 0, 0, 0, 0)), (42, .putfield 33, 3, 0, (10, 6, 0, 0, 0, 0)), (45, .aload_n 0, 1, 0, (0, 0, 0, 0, 0, 0)), (46, .ldc 36, 2, 0, (0, 0, 0, 0, 0, -100000)), (48, .putfield 37, 3, 0, (10, 7, 0, 0, 0, 0)), (51, .aload_n 0, 1, 0, (0, 0, 0, 0, 0, 0)), (52, .iload 6, 2, 0, (0, 0, 0, 0, 0, 0)), (54, .putfield 40, 3, 0, (10, 8, 0, 0, 0, 0)), (57, .aload_n 0, 1, 0, (0, 0, 0, 0, 0, 0)), (58, .iload 5, 2, 0, (0, 0, 0, 0, 0, 0)), (60, .invokestatic 43, 3, 0, (0, 1, 0, 0, 0, 0)), (63, .putfield 49, 3, 0, (10, 9, 0, 0, 0, 0)), (66, .aload_n 0, 1, 0, (0, 0, 0, 0, 0, 0)), (67, .aload_n 0, 1, 0, (0, 0, 0, 0, 0, 0)), (68, .getfield 49, 3, 0, (10, 9, 0, 0, 0, 0)), (71, .putfield 52, 3, 0, (10, 10, 0, 0, 0, 0)), (74, .aload_n 0, 1, 0, (0, 0, 0, 0, 0, 0)), (75, .iconst 0, 1, 0, (0, 0, 0, 0, 0, 0)), (76, .putfield 55, 3, 0, (10, 11, 0, 0, 0, 0)), (79, .aload_n 0, 1, 0, (0, 0, 0, 0, 0, 0)), (80, .iconst 0, 1, 0, (0, 0, 0, 0, 0, 0)), (81, .putfield 58, 3, 0, (10, 12, 0, 0, 0, 0)), (84, .aload_n 0, 1, 0, (0, 0, 0, 0, 0, 0)), (85, .iconst 0, 1, 0, (0, 0, 0, 0, 0, 0)), (86, .putfield 61, 3, 0, (10, 13, 0, 0, 0, 0)), (89, .aload_n 0, 1, 0, (0, 0, 0, 0, 0, 0)), (90, .iconst 0, 1, 0, (0, 0, 0, 0, 0, 0)), (91, .putfield 64, 3, 0, (10, 14, 0, 0, 0, 0)), (94, .aload_n 0, 1, 0, (0, 0, 0, 0, 0, 0)), (95, .ldc 36, 2, 0, (0, 0, 0, 0, 0, -100000)), (97, .putfield 67, 3, 0, (10, 15, 0, 0, 0, 0)), (100, .aload_n 0, 1, 0, (0, 0, 0, 0, 0, 0)), (101, .iconst 0, 1, 0, (0, 0, 0, 0, 0, 0)), (102, .putfield 70, 3, 0, (10, 16, 1, 0, 0, 0)), (105, .return_, 1, 0, (0, 0, 0, 0, 0, 0))]
set_option maxRecDepth 100000 in
theorem rk143 : R143.all (rok 0 143 0 [(373, [0])]) = true := by decide +kernel
set_option maxRecDepth 100000 in
theorem tab143 {F373 : PM → Int32 → Int32} {G373 : PM → Int32 → Prop} : TabOK 0 143 0 [CC373 F373 G373] R143 := tab_ok (K := K143) rfl rfl (fun h => d143 h) rk143 (by decide +kernel)
set_option maxRecDepth 100000 in
theorem pc143 : cutpc [] R143 = true := by decide +kernel
set_option maxRecDepth 100000 in
theorem r10_begin (F373 : PM → Int32 → Int32) (G373 : PM → Int32 → Prop) (o373 : CalOK 0 (CC373 F373 G373)) : ∀ (p : PM) (v0 : Nat) (v1 : Int32) (v2 : Nat) (v3 : Nat) (v4 : Int32) (v5 : Int32) (v6 : Int32), Gr 0 p → bg10_begin F373 G373 p v0 v1 v2 v3 v4 v5 v6 → ZJ 0 143 0 [zR 10 v0, zI v1, zR 0 v2, zR 1 v3, zI v4, zI v5, zI v6] [] p (hwV (bv10_begin F373 p v0 v1 v2 v3 v4 v5 v6)) := by
  intro p v0 v1 v2 v3 v4 v5 v6  hg H
  exact rwV (n := 3000) (q := 0) (la := [zR 10 v0, zI v1, zR 0 v2, zR 1 v3, zI v4, zI v5, zI v6]) (sa := []) (ks := []) (gs := []) (fcons o373 (fnil)) tab143 pc143 trivial hg H
theorem t10_begin : ∀ (p : PM) (v0 : Nat) (v1 : Int32) (v2 : Nat) (v3 : Nat) (v4 : Int32) (v5 : Int32) (v6 : Int32), Gr 0 p → g10_begin p v0 v1 v2 v3 v4 v5 v6 → ZJ 0 143 0 [zR 10 v0, zI v1, zR 0 v2, zR 1 v3, zI v4, zI v5, zI v6] [] p (hwV (v10_begin p v0 v1 v2 v3 v4 v5 v6)) := r10_begin v14_abs_0f7a4 g14_abs_0f7a4 ok373
def CC143 (F : PM → Nat → Int32 → Nat → Nat → Int32 → Int32 → Int32 → PM) (G : PM → Nat → Int32 → Nat → Nat → Int32 → Int32 → Int32 → Prop) : Cal := (143, [13, 0, 3, 4, 0, 0, 0], 0, false, fun as p => (zJ, (F p (ar as 0) (ai as 1) (ar as 2) (ar as 3) (ai as 4) (ai as 5) (ai as 6))), fun as p => zsw (tc2 as [(14, 0), (0, 0), (4, 0), (5, 0), (0, 0), (0, 0), (0, 0)]) False (G p (ar as 0) (ai as 1) (ar as 2) (ar as 3) (ai as 4) (ai as 5) (ai as 6)))
set_option maxRecDepth 100000 in
theorem okr143 (F : PM → Nat → Int32 → Nat → Nat → Int32 → Int32 → Int32 → PM) (G : PM → Nat → Int32 → Nat → Nat → Int32 → Int32 → Int32 → Prop) (h : ∀ (p : PM) (v0 : Nat) (v1 : Int32) (v2 : Nat) (v3 : Nat) (v4 : Int32) (v5 : Int32) (v6 : Int32), Gr 0 p → G p v0 v1 v2 v3 v4 v5 v6 → ZJ 0 143 0 [zR 10 v0, zI v1, zR 0 v2, zR 1 v3, zI v4, zI v5, zI v6] [] p (hwV (F p v0 v1 v2 v3 v4 v5 v6))) : CalOK 0 (CC143 F G) := cal_ok (m := 7) (by unfold mL; rw [mX_143]) (fun as p hg H => h p (ar as 0) (ai as 1) (ar as 2) (ar as 3) (ai as 4) (ai as 5) (ai as 6) hg H)
theorem ok143 : CalOK 0 (CC143 v10_begin g10_begin) := okr143 v10_begin g10_begin t10_begin
noncomputable def bv6_draw_24 (F143 : PM → Nat → Int32 → Nat → Nat → Int32 → Int32 → Int32 → PM) (kv24 : PM → Nat → Nat → Int32 → Int32 → Int32 → Int32 → Nat × PM) (p : PM) (v1 : Nat) (v2 : Nat) (v3 : Int32) (v4 : Int32) (v5 : Int32) (v8 : Int32) : Nat × PM :=
  if v8 < (cn 40) then (
    if (p.1 10 ((v8).toNatClampNeg + 1) 2) = 0 then (
      let p1 : PM := F143 p ((v8).toNatClampNeg + 1) ((p.1 6 1 4) - (cn 1)) v1 v2 v3 v4 v5
      (((v8).toNatClampNeg + 1), p1))
    else (
      kv24 p v1 v2 v3 v4 v5 (v8 + (cn 1))))
  else (
    (0, p))
noncomputable def v6_draw_24 (n : Nat) : PM → Nat → Nat → Int32 → Int32 → Int32 → Int32 → Nat × PM := Nat.rec (motive := fun _ => PM → Nat → Nat → Int32 → Int32 → Int32 → Int32 → Nat × PM) (fun p _ _ _ _ _ _ => (0, p)) (fun _ ih => bv6_draw_24 v10_begin ih) n
theorem ev6_draw_24 (n : Nat) (p : PM) (v1 : Nat) (v2 : Nat) (v3 : Int32) (v4 : Int32) (v5 : Int32) (v8 : Int32) : v6_draw_24 (n + 1) p v1 v2 v3 v4 v5 v8 = bv6_draw_24 v10_begin (v6_draw_24 n) p v1 v2 v3 v4 v5 v8 := rfl
noncomputable def bg6_draw_24 (F143 : PM → Nat → Int32 → Nat → Nat → Int32 → Int32 → Int32 → PM) (G143 : PM → Nat → Int32 → Nat → Nat → Int32 → Int32 → Int32 → Prop) (kg24 : PM → Nat → Nat → Int32 → Int32 → Int32 → Int32 → Prop) (p : PM) (v1 : Nat) (v2 : Nat) (v3 : Int32) (v4 : Int32) (v5 : Int32) (v8 : Int32) : Prop :=
  if v8 < (cn 40) then (
    (inb v8 40) ∧ (
    if (p.1 10 ((v8).toNatClampNeg + 1) 2) = 0 then (
      (G143 p ((v8).toNatClampNeg + 1) ((p.1 6 1 4) - (cn 1)) v1 v2 v3 v4 v5) ∧ (
      let p1 : PM := F143 p ((v8).toNatClampNeg + 1) ((p.1 6 1 4) - (cn 1)) v1 v2 v3 v4 v5
      True))
    else (
      kg24 p v1 v2 v3 v4 v5 (v8 + (cn 1)))))
  else (
    True)
noncomputable def g6_draw_24 (n : Nat) : PM → Nat → Nat → Int32 → Int32 → Int32 → Int32 → Prop := Nat.rec (motive := fun _ => PM → Nat → Nat → Int32 → Int32 → Int32 → Int32 → Prop) (fun _ _ _ _ _ _ _ => False) (fun _ ih => bg6_draw_24 v10_begin g10_begin ih) n
theorem eg6_draw_24 (n : Nat) (p : PM) (v1 : Nat) (v2 : Nat) (v3 : Int32) (v4 : Int32) (v5 : Int32) (v8 : Int32) : g6_draw_24 (n + 1) p v1 v2 v3 v4 v5 v8 = bg6_draw_24 v10_begin g10_begin (g6_draw_24 n) p v1 v2 v3 v4 v5 v8 := rfl
noncomputable def bv6_draw (kv24 : PM → Nat → Nat → Int32 → Int32 → Int32 → Int32 → Nat × PM) (p : PM) (v1 : Nat) (v2 : Nat) (v3 : Int32) (v4 : Int32) (v5 : Int32) : Nat × PM :=
  let p1 : PM := pI p 6 1 4 ((p.1 6 1 4) + (cn 1))
  kv24 p1 v1 v2 v3 v4 v5 (cn 0)
noncomputable def v6_draw (p : PM) (v1 : Nat) (v2 : Nat) (v3 : Int32) (v4 : Int32) (v5 : Int32) : Nat × PM := bv6_draw (v6_draw_24 FU) p v1 v2 v3 v4 v5
noncomputable def bg6_draw (kg24 : PM → Nat → Nat → Int32 → Int32 → Int32 → Int32 → Prop) (p : PM) (v1 : Nat) (v2 : Nat) (v3 : Int32) (v4 : Int32) (v5 : Int32) : Prop :=
  let p1 : PM := pI p 6 1 4 ((p.1 6 1 4) + (cn 1))
  kg24 p1 v1 v2 v3 v4 v5 (cn 0)
noncomputable def g6_draw (p : PM) (v1 : Nat) (v2 : Nat) (v3 : Int32) (v4 : Int32) (v5 : Int32) : Prop := bg6_draw (g6_draw_24 FU) p v1 v2 v3 v4 v5
def R77 : List Row := [(0, .aload_n 0, 1, 0, (0, 0, 0, 0, 0, 0)), (1, .dup, 1, 0, (0, 0, 0, 0, 0, 0)), (2, .getfield 39, 3, 0, (6, 4, 0, 1, 0, 0)), (5, .iconst 1, 1, 0, (0, 0, 0, 0, 0, 1)), (6, .iadd, 1, 0, (0, 0, 0, 0, 0, 0)), (7, .putfield 39, 3, 0, (6, 4, 0, 1, 0, 0)), (10, .aload_n 0, 1, 0, (0, 0, 0, 0, 0, 0)), (11, .getfield 11, 3, 0, (6, 1, 23, 2, 1, 0)), (14, .astore 6, 2, 0, (0, 0, 0, 0, 0, 0)), (16, .aload 6, 2, 0, (0, 0, 0, 0, 0, 0)), (18, .arraylength, 1, 0, (20, 40, 0, 0, 0, 40)), (19, .istore 7, 2, 0, (0, 0, 0, 0, 0, 0)), (21, .iconst 0, 1, 0, (0, 0, 0, 0, 0, 0)), (22, .istore 8, 2, 0, (0, 0, 0, 0, 0, 0)), (24, .iload 8, 2, 1, (0, 0, 0, 0, 0, 0)), (26, .iload 7, 2, 0, (0, 0, 0, 0, 0, 0)), (28, .if_icmp .ge 45, 3, 0, (0, 0, 0, 0, 0, 0)), (31, .aload 6, 2, 0, (0, 0, 0, 0, 0, 0)), (33, .iload 8, 2, 0, (0, 0, 0, 0, 0, 0)), (35, .aaload, 1, 0, (20, 40, 0, 1, 1, 0)), (36, .astore 9, 2, 0, (0, 0, 0, 0, 0, 0)), (38, .aload 9, 2, 0, (0, 0, 0, 0, 0, 0)), (40, .getfield 29, 3, 0, (10, 2, 0, 1, 0, 0)), (43, .ifCond .ne 24, 3, 0, (0, 0, 0, 0, 0, 0)), (46, .aload 9, 2, 0, (0, 0, 0, 0, 0, 0)), (48, .aload_n 0, 1, 0, (0, 0, 0, 0, 0, 0)), (49, .getfield 39, 3, 0, (6, 4, 0, 1, 0, 0)), (52, .iconst 1, 1, 0, (0, 0, 0, 0, 0, 1)), (53, .isub, 1, 0, (0, 0, 0, 0, 0, 0)), (54, .aload_n 1, 1, 0, (0, 0, 0, 0, 0, 0)), (55, .aload_n 2, 1, 0, (0, 0, 0, 0, 0, 0)), (56, .iload_n 3, 1, 0, (0, 0, 0, 0, 0, 0)), (57, .iload 4, 2, 0, (0, 0, 0, 0, 0, 0)), (59, .iload 5, 2, 0, (0, 0, 0, 0, 0, 0)), (61, .invokevirtual 48, 3, 0, (0, 7, 0, 0, 1, 0)), (64, .aload 9, 2, 0, (0, 0, 0, 0, 0, 0)), (66, .areturn, 1, 0, (10, 0, 0, 0, 0, 0)), (67, .iinc 8 1, 3, 0, (0, 0, 0, 0, 0, 1)), (70, .goto (-46), 3, 0, (0, 0, 0, 0, 0, 0)), (73, .aconst_null, 1, 0, (10, 0, 0, 0, 0, 0)), (74, .areturn, 1, 0, (10, 0, 0, 0, 0, 0))]
set_option maxRecDepth 100000 in
theorem rk77 : R77.all (rok 0 77 (3 + 10) [(143, [13, 0, 3, 4, 0, 0, 0])]) = true := by decide +kernel
set_option maxRecDepth 100000 in
theorem tab77 {F143 : PM → Nat → Int32 → Nat → Nat → Int32 → Int32 → Int32 → PM} {G143 : PM → Nat → Int32 → Nat → Nat → Int32 → Int32 → Int32 → Prop} : TabOK 0 77 (3 + 10) [CC143 F143 G143] R77 := tab_ok (K := K77) rfl rfl (fun h => d77 h) rk77 (by decide +kernel)
set_option maxRecDepth 100000 in
theorem pc77 : cutpc [24] R77 = true := by decide +kernel
set_option maxRecDepth 100000 in
theorem r6_draw_24 (F143 : PM → Nat → Int32 → Nat → Nat → Int32 → Int32 → Int32 → PM) (G143 : PM → Nat → Int32 → Nat → Nat → Int32 → Int32 → Int32 → Prop) (o143 : CalOK 0 (CC143 F143 G143)) (kv24 : PM → Nat → Nat → Int32 → Int32 → Int32 → Int32 → Nat × PM) (kg24 : PM → Nat → Nat → Int32 → Int32 → Int32 → Int32 → Prop) (hk24 : ∀ (p : PM) (v1 : Nat) (v2 : Nat) (v3 : Int32) (v4 : Int32) (v5 : Int32) (v8 : Int32) (d9 : ZV), Gr 0 p → kg24 p v1 v2 v3 v4 v5 v8 → ZJ 0 77 24 [zR 6 1, zR 0 v1, zR 1 v2, zI v3, zI v4, zI v5, zR 20 1, zC 40, zI v8, d9] [] p (hwR 10 (kv24 p v1 v2 v3 v4 v5 v8))) : ∀ (p : PM) (v1 : Nat) (v2 : Nat) (v3 : Int32) (v4 : Int32) (v5 : Int32) (v8 : Int32) (d9 : ZV), Gr 0 p → bg6_draw_24 F143 G143 kg24 p v1 v2 v3 v4 v5 v8 → ZJ 0 77 24 [zR 6 1, zR 0 v1, zR 1 v2, zI v3, zI v4, zI v5, zR 20 1, zC 40, zI v8, d9] [] p (hwR 10 (bv6_draw_24 F143 kv24 p v1 v2 v3 v4 v5 v8)) := by
  intro p v1 v2 v3 v4 v5 v8 d9 hg H
  exact rwR 10 (n := 3000) (q := 24) (la := [zR 6 1, zR 0 v1, zR 1 v2, zI v3, zI v4, zI v5, zR 20 1, zC 40, zI v8, d9]) (sa := []) (ks := [fun la sa s => kv24 s (ar la 1) (ar la 2) (ai la 3) (ai la 4) (ai la 5) (ai la 8)]) (gs := [fun la sa s => zsw (tc2 la [(106, 1), (4, 0), (5, 0), (0, 0), (0, 0), (0, 0), (120, 1), (3, 40), (0, 0), (2, 0)] && tc2 sa []) False (kg24 s (ar la 1) (ar la 2) (ai la 3) (ai la 4) (ai la 5) (ai la 8))]) (fcons o143 (fnil)) tab77 pc77 ⟨fun la sa s hg H => zcut H fun H => hk24 s (ar la 1) (ar la 2) (ai la 3) (ai la 4) (ai la 5) (ai la 8) (zld la 9) hg H, trivial⟩ hg H
theorem t6_draw_24 : ∀ (n : Nat), ∀ (p : PM) (v1 : Nat) (v2 : Nat) (v3 : Int32) (v4 : Int32) (v5 : Int32) (v8 : Int32) (d9 : ZV), Gr 0 p → g6_draw_24 n p v1 v2 v3 v4 v5 v8 → ZJ 0 77 24 [zR 6 1, zR 0 v1, zR 1 v2, zI v3, zI v4, zI v5, zR 20 1, zC 40, zI v8, d9] [] p (hwR 10 (v6_draw_24 n p v1 v2 v3 v4 v5 v8)) := by
  intro n
  induction n with
  | zero =>
    intro p v1 v2 v3 v4 v5 v8 d9 hg H
    exact H.elim
  | succ n ih => exact r6_draw_24 v10_begin g10_begin ok143 (v6_draw_24 n) (g6_draw_24 n) ih
set_option maxRecDepth 100000 in
theorem r6_draw (F143 : PM → Nat → Int32 → Nat → Nat → Int32 → Int32 → Int32 → PM) (G143 : PM → Nat → Int32 → Nat → Nat → Int32 → Int32 → Int32 → Prop) (o143 : CalOK 0 (CC143 F143 G143)) (kv24 : PM → Nat → Nat → Int32 → Int32 → Int32 → Int32 → Nat × PM) (kg24 : PM → Nat → Nat → Int32 → Int32 → Int32 → Int32 → Prop) (hk24 : ∀ (p : PM) (v1 : Nat) (v2 : Nat) (v3 : Int32) (v4 : Int32) (v5 : Int32) (v8 : Int32) (d9 : ZV), Gr 0 p → kg24 p v1 v2 v3 v4 v5 v8 → ZJ 0 77 24 [zR 6 1, zR 0 v1, zR 1 v2, zI v3, zI v4, zI v5, zR 20 1, zC 40, zI v8, d9] [] p (hwR 10 (kv24 p v1 v2 v3 v4 v5 v8))) : ∀ (p : PM) (v1 : Nat) (v2 : Nat) (v3 : Int32) (v4 : Int32) (v5 : Int32), Gr 0 p → bg6_draw kg24 p v1 v2 v3 v4 v5 → ZJ 0 77 0 [zR 6 1, zR 0 v1, zR 1 v2, zI v3, zI v4, zI v5, zJ, zJ, zJ, zJ] [] p (hwR 10 (bv6_draw kv24 p v1 v2 v3 v4 v5)) := by
  intro p v1 v2 v3 v4 v5  hg H
  exact rwR 10 (n := 3000) (q := 0) (la := [zR 6 1, zR 0 v1, zR 1 v2, zI v3, zI v4, zI v5, zJ, zJ, zJ, zJ]) (sa := []) (ks := [fun la sa s => kv24 s (ar la 1) (ar la 2) (ai la 3) (ai la 4) (ai la 5) (ai la 8)]) (gs := [fun la sa s => zsw (tc2 la [(106, 1), (4, 0), (5, 0), (0, 0), (0, 0), (0, 0), (120, 1), (3, 40), (0, 0), (2, 0)] && tc2 sa []) False (kg24 s (ar la 1) (ar la 2) (ai la 3) (ai la 4) (ai la 5) (ai la 8))]) (fcons o143 (fnil)) tab77 pc77 ⟨fun la sa s hg H => zcut H fun H => hk24 s (ar la 1) (ar la 2) (ai la 3) (ai la 4) (ai la 5) (ai la 8) (zld la 9) hg H, trivial⟩ hg H
theorem t6_draw : ∀ (p : PM) (v1 : Nat) (v2 : Nat) (v3 : Int32) (v4 : Int32) (v5 : Int32), Gr 0 p → g6_draw p v1 v2 v3 v4 v5 → ZJ 0 77 0 [zR 6 1, zR 0 v1, zR 1 v2, zI v3, zI v4, zI v5, zJ, zJ, zJ, zJ] [] p (hwR 10 (v6_draw p v1 v2 v3 v4 v5)) := r6_draw v10_begin g10_begin ok143 (v6_draw_24 FU) (g6_draw_24 FU) (t6_draw_24 FU)
def CC77 (F : PM → Nat → Nat → Int32 → Int32 → Int32 → Nat × PM) (G : PM → Nat → Nat → Int32 → Int32 → Int32 → Prop) : Cal := (77, [9, 3, 4, 0, 0, 0], (3 + 10), false, fun as p => (zR 10 (F p (ar as 1) (ar as 2) (ai as 3) (ai as 4) (ai as 5)).1, (F p (ar as 1) (ar as 2) (ai as 3) (ai as 4) (ai as 5)).2), fun as p => zsw (tc2 as [(106, 1), (4, 0), (5, 0), (0, 0), (0, 0), (0, 0)]) False (G p (ar as 1) (ar as 2) (ai as 3) (ai as 4) (ai as 5)))
set_option maxRecDepth 100000 in
theorem okr77 (F : PM → Nat → Nat → Int32 → Int32 → Int32 → Nat × PM) (G : PM → Nat → Nat → Int32 → Int32 → Int32 → Prop) (h : ∀ (p : PM) (v1 : Nat) (v2 : Nat) (v3 : Int32) (v4 : Int32) (v5 : Int32), Gr 0 p → G p v1 v2 v3 v4 v5 → ZJ 0 77 0 [zR 6 1, zR 0 v1, zR 1 v2, zI v3, zI v4, zI v5, zJ, zJ, zJ, zJ] [] p (hwR 10 (F p v1 v2 v3 v4 v5))) : CalOK 0 (CC77 F G) := cal_ok (m := 10) (by unfold mL; rw [mX_77]) (fun as p hg H => h p (ar as 1) (ar as 2) (ai as 3) (ai as 4) (ai as 5) hg H)
theorem ok77 : CalOK 0 (CC77 v6_draw g6_draw) := okr77 v6_draw g6_draw t6_draw
noncomputable def bv10_allows (p : PM) (v0 : Nat) (v1 : Int32) : Int32 :=
  if (p.1 10 v0 6) = (cn (-100000)) then (
    (cn 1))
  else (
    if (p.1 10 v0 5) = 0 then (
      if v1 < (p.1 10 v0 6) then (
        (cn 0))
      else (
        (cn 1)))
    else (
      if (p.1 10 v0 6) < v1 then (
        (cn 0))
      else (
        (cn 1))))
noncomputable def v10_allows (p : PM) (v0 : Nat) (v1 : Int32) : Int32 := bv10_allows p v0 v1
noncomputable def bg10_allows (p : PM) (v0 : Nat) (v1 : Int32) : Prop :=
  (¬ v0 = 0) ∧ (
  if (p.1 10 v0 6) = (cn (-100000)) then (
    True)
  else (
    (¬ v0 = 0) ∧ (
    if (p.1 10 v0 5) = 0 then (
      (¬ v0 = 0) ∧ (
      if v1 < (p.1 10 v0 6) then (
        True)
      else (
        True)))
    else (
      (¬ v0 = 0) ∧ (
      if (p.1 10 v0 6) < v1 then (
        True)
      else (
        True))))))
noncomputable def g10_allows (p : PM) (v0 : Nat) (v1 : Int32) : Prop := bg10_allows p v0 v1
def R145 : List Row := [(0, .aload_n 0, 1, 0, (0, 0, 0, 0, 0, 0)), (1, .getfield 33, 3, 0, (10, 6, 0, 0, 0, 0)), (4, .ldc 36, 2, 0, (0, 0, 0, 0, 0, -100000)), (6, .if_icmp .eq 29, 3, 0, (0, 0, 0, 0, 0, 0)), (9, .aload_n 0, 1, 0, (0, 0, 0, 0, 0, 0)), (10, .getfield 29, 3, 0, (10, 5, 1, 0, 0, 0)), (13, .ifCond .eq 14, 3, 0, (0, 0, 0, 0, 0, 0)), (16, .iload_n 1, 1, 0, (0, 0, 0, 0, 0, 0)), (17, .aload_n 0, 1, 0, (0, 0, 0, 0, 0, 0)), (18, .getfield 33, 3, 0, (10, 6, 0, 0, 0, 0)), (21, .if_icmp .gt 18, 3, 0, (0, 0, 0, 0, 0, 0)), (24, .goto 11, 3, 0, (0, 0, 0, 0, 0, 0)), (27, .iload_n 1, 1, 0, (0, 0, 0, 0, 0, 0)), (28, .aload_n 0, 1, 0, (0, 0, 0, 0, 0, 0)), (29, .getfield 33, 3, 0, (10, 6, 0, 0, 0, 0)), (32, .if_icmp .lt 7, 3, 0, (0, 0, 0, 0, 0, 0)), (35, .iconst 1, 1, 0, (0, 0, 0, 0, 0, 1)), (36, .goto 4, 3, 0, (0, 0, 0, 0, 0, 0)), (39, .iconst 0, 1, 0, (0, 0, 0, 0, 0, 0)), (40, .ireturn, 1, 0, (1, 0, 0, 0, 0, 0))]
set_option maxRecDepth 100000 in
theorem rk145 : R145.all (rok 0 145 1 []) = true := by decide +kernel
set_option maxRecDepth 100000 in
theorem tab145 : TabOK 0 145 1 [] R145 := tab_ok (K := K145) rfl rfl (fun h => d145 h) rk145 (by decide +kernel)
set_option maxRecDepth 100000 in
theorem pc145 : cutpc [] R145 = true := by decide +kernel
set_option maxRecDepth 100000 in
theorem r10_allows (p : PM) (hg : Gr 0 p) : ∀ (v0 : Nat) (v1 : Int32), bg10_allows p v0 v1 → ZJ 0 145 0 [zR 10 v0, zI v1] [] p (hoI p (bv10_allows p v0 v1)) := by
  intro v0 v1  H
  exact roI (n := 3000) (q := 0) (la := [zR 10 v0, zI v1]) (sa := []) (ks := []) (gs := []) (fnil) tab145 pc145 trivial hg H
theorem t10_allows (p : PM) (hg : Gr 0 p) : ∀ (v0 : Nat) (v1 : Int32), g10_allows p v0 v1 → ZJ 0 145 0 [zR 10 v0, zI v1] [] p (hoI p (v10_allows p v0 v1)) := r10_allows p hg
def CC145 (F : PM → Nat → Int32 → Int32) (G : PM → Nat → Int32 → Prop) : Cal := (145, [13, 0], 1, true, fun as p => (zI (F p (ar as 0) (ai as 1)), p), fun as p => zsw (tc2 as [(14, 0), (0, 0)]) False (G p (ar as 0) (ai as 1)))
set_option maxRecDepth 100000 in
theorem okr145 (F : PM → Nat → Int32 → Int32) (G : PM → Nat → Int32 → Prop) (h : ∀ (p : PM) (v0 : Nat) (v1 : Int32), Gr 0 p → G p v0 v1 → ZJ 0 145 0 [zR 10 v0, zI v1] [] p (hoI p (F p v0 v1))) : CalOK 0 (CC145 F G) := cal_ok (m := 2) (by unfold mL; rw [mX_145]) (fun as p hg H => h p (ar as 0) (ai as 1) hg H)
theorem ok145 : CalOK 0 (CC145 v10_allows g10_allows) := okr145 v10_allows g10_allows (fun p v0 v1 hg H => t10_allows p hg v0 v1 H)
noncomputable def bv8_reachable_19 (p : PM) (F13 : PM → Nat → Int32 → Int32) (F144 : PM → Nat → Nat → Int32 → Int32) (F145 : PM → Nat → Int32 → Int32) (kv19 : Nat → Int64 → Int32 → Int64) (v1 : Nat) (v2 : Int64) (v6 : Int32) : Int64 :=
  if v6 < (cn 40) then (
    if (p.1 10 v1 5) = 0 then (
      if (F144 p ((v6).toNatClampNeg + 1) (p.2.2 10 v1 4) (cn 1)) = 0 then (
        kv19 v1 v2 (v6 + (cn 1)))
      else (
        if (p.1 0 (p.2.2 10 ((v6).toNatClampNeg + 1) 3) 1) = (p.1 0 (p.2.2 10 v1 3) 1) then (
          kv19 v1 v2 (v6 + (cn 1)))
        else (
          if (F145 p v1 (p.1 10 ((v6).toNatClampNeg + 1) 7)) = 0 then (
            kv19 v1 v2 (v6 + (cn 1)))
          else (
            if (F13 p (p.2.2 10 v1 4) (p.1 10 ((v6).toNatClampNeg + 1) 7)) = 0 then (
              let x2 : Int64 := (v2 + ((p.1 10 ((v6).toNatClampNeg + 1) 9)).toInt64)
              kv19 v1 x2 (v6 + (cn 1)))
            else (
              kv19 v1 v2 (v6 + (cn 1)))))))
    else (
      if (F144 p ((v6).toNatClampNeg + 1) (p.2.2 10 v1 4) (cn 0)) = 0 then (
        kv19 v1 v2 (v6 + (cn 1)))
      else (
        if (p.1 0 (p.2.2 10 ((v6).toNatClampNeg + 1) 3) 1) = (p.1 0 (p.2.2 10 v1 3) 1) then (
          kv19 v1 v2 (v6 + (cn 1)))
        else (
          if (F145 p v1 (p.1 10 ((v6).toNatClampNeg + 1) 7)) = 0 then (
            kv19 v1 v2 (v6 + (cn 1)))
          else (
            if (F13 p (p.2.2 10 v1 4) (p.1 10 ((v6).toNatClampNeg + 1) 7)) = 0 then (
              let x1 : Int64 := (v2 + ((p.1 10 ((v6).toNatClampNeg + 1) 9)).toInt64)
              kv19 v1 x1 (v6 + (cn 1)))
            else (
              kv19 v1 v2 (v6 + (cn 1))))))))
  else (
    v2)
noncomputable def v8_reachable_19 (p : PM) (n : Nat) : Nat → Int64 → Int32 → Int64 := Nat.rec (motive := fun _ => Nat → Int64 → Int32 → Int64) (fun _ _ _ => 0) (fun _ ih => bv8_reachable_19 p v1_isBeyondBand v10_standsIn v10_allows ih) n
theorem ev8_reachable_19 (p : PM) (n : Nat) (v1 : Nat) (v2 : Int64) (v6 : Int32) : v8_reachable_19 p (n + 1) v1 v2 v6 = bv8_reachable_19 p v1_isBeyondBand v10_standsIn v10_allows (v8_reachable_19 p n) v1 v2 v6 := rfl
noncomputable def bg8_reachable_19 (p : PM) (F13 : PM → Nat → Int32 → Int32) (G13 : PM → Nat → Int32 → Prop) (F144 : PM → Nat → Nat → Int32 → Int32) (G144 : PM → Nat → Nat → Int32 → Prop) (F145 : PM → Nat → Int32 → Int32) (G145 : PM → Nat → Int32 → Prop) (kg19 : Nat → Int64 → Int32 → Prop) (v1 : Nat) (v2 : Int64) (v6 : Int32) : Prop :=
  if v6 < (cn 40) then (
    (inb v6 40) ∧ (
    (¬ v1 = 0) ∧ (
    (¬ v1 = 0) ∧ (
    if (p.1 10 v1 5) = 0 then (
      (G144 p ((v6).toNatClampNeg + 1) (p.2.2 10 v1 4) (cn 1)) ∧ (
      if (F144 p ((v6).toNatClampNeg + 1) (p.2.2 10 v1 4) (cn 1)) = 0 then (
        kg19 v1 v2 (v6 + (cn 1)))
      else (
        (¬ (p.2.2 10 ((v6).toNatClampNeg + 1) 3) = 0) ∧ (
        (¬ v1 = 0) ∧ (
        (¬ (p.2.2 10 v1 3) = 0) ∧ (
        if (p.1 0 (p.2.2 10 ((v6).toNatClampNeg + 1) 3) 1) = (p.1 0 (p.2.2 10 v1 3) 1) then (
          kg19 v1 v2 (v6 + (cn 1)))
        else (
          (¬ v1 = 0) ∧ (
          (G145 p v1 (p.1 10 ((v6).toNatClampNeg + 1) 7)) ∧ (
          if (F145 p v1 (p.1 10 ((v6).toNatClampNeg + 1) 7)) = 0 then (
            kg19 v1 v2 (v6 + (cn 1)))
          else (
            (¬ v1 = 0) ∧ (
            (¬ (p.2.2 10 v1 4) = 0) ∧ (
            (G13 p (p.2.2 10 v1 4) (p.1 10 ((v6).toNatClampNeg + 1) 7)) ∧ (
            if (F13 p (p.2.2 10 v1 4) (p.1 10 ((v6).toNatClampNeg + 1) 7)) = 0 then (
              let x2 : Int64 := (v2 + ((p.1 10 ((v6).toNatClampNeg + 1) 9)).toInt64)
              kg19 v1 x2 (v6 + (cn 1)))
            else (
              kg19 v1 v2 (v6 + (cn 1))))))))))))))))
    else (
      (G144 p ((v6).toNatClampNeg + 1) (p.2.2 10 v1 4) (cn 0)) ∧ (
      if (F144 p ((v6).toNatClampNeg + 1) (p.2.2 10 v1 4) (cn 0)) = 0 then (
        kg19 v1 v2 (v6 + (cn 1)))
      else (
        (¬ (p.2.2 10 ((v6).toNatClampNeg + 1) 3) = 0) ∧ (
        (¬ v1 = 0) ∧ (
        (¬ (p.2.2 10 v1 3) = 0) ∧ (
        if (p.1 0 (p.2.2 10 ((v6).toNatClampNeg + 1) 3) 1) = (p.1 0 (p.2.2 10 v1 3) 1) then (
          kg19 v1 v2 (v6 + (cn 1)))
        else (
          (¬ v1 = 0) ∧ (
          (G145 p v1 (p.1 10 ((v6).toNatClampNeg + 1) 7)) ∧ (
          if (F145 p v1 (p.1 10 ((v6).toNatClampNeg + 1) 7)) = 0 then (
            kg19 v1 v2 (v6 + (cn 1)))
          else (
            (¬ v1 = 0) ∧ (
            (¬ (p.2.2 10 v1 4) = 0) ∧ (
            (G13 p (p.2.2 10 v1 4) (p.1 10 ((v6).toNatClampNeg + 1) 7)) ∧ (
            if (F13 p (p.2.2 10 v1 4) (p.1 10 ((v6).toNatClampNeg + 1) 7)) = 0 then (
              let x1 : Int64 := (v2 + ((p.1 10 ((v6).toNatClampNeg + 1) 9)).toInt64)
              kg19 v1 x1 (v6 + (cn 1)))
            else (
              kg19 v1 v2 (v6 + (cn 1))))))))))))))))))))
  else (
    True)
noncomputable def g8_reachable_19 (p : PM) (n : Nat) : Nat → Int64 → Int32 → Prop := Nat.rec (motive := fun _ => Nat → Int64 → Int32 → Prop) (fun _ _ _ => False) (fun _ ih => bg8_reachable_19 p v1_isBeyondBand g1_isBeyondBand v10_standsIn g10_standsIn v10_allows g10_allows ih) n
theorem eg8_reachable_19 (p : PM) (n : Nat) (v1 : Nat) (v2 : Int64) (v6 : Int32) : g8_reachable_19 p (n + 1) v1 v2 v6 = bg8_reachable_19 p v1_isBeyondBand g1_isBeyondBand v10_standsIn g10_standsIn v10_allows g10_allows (g8_reachable_19 p n) v1 v2 v6 := rfl
noncomputable def bv8_reachable (p : PM) (kv19 : Nat → Int64 → Int32 → Int64) (v1 : Nat) : Int64 :=
  kv19 v1 (cl 0) (cn 0)
noncomputable def v8_reachable (p : PM) (v1 : Nat) : Int64 := bv8_reachable p (v8_reachable_19 p FU) v1
noncomputable def bg8_reachable (p : PM) (kg19 : Nat → Int64 → Int32 → Prop) (v1 : Nat) : Prop :=
  kg19 v1 (cl 0) (cn 0)
noncomputable def g8_reachable (p : PM) (v1 : Nat) : Prop := bg8_reachable p (g8_reachable_19 p FU) v1
def R122 : List Row := [(0, .lconst 0, 1, 0, (0, 0, 0, 0, 0, 0)), (1, .lstore_n 2, 1, 0, (0, 0, 0, 0, 0, 0)), (2, .aload_n 0, 1, 0, (0, 0, 0, 0, 0, 0)), (3, .getfield 21, 3, 0, (8, 0, 9, 2, 1, 0)), (6, .getfield 29, 3, 0, (6, 1, 23, 2, 1, 0)), (9, .astore 4, 2, 0, (0, 0, 0, 0, 0, 0)), (11, .aload 4, 2, 0, (0, 0, 0, 0, 0, 0)), (13, .arraylength, 1, 0, (20, 40, 0, 0, 0, 40)), (14, .istore 5, 2, 0, (0, 0, 0, 0, 0, 0)), (16, .iconst 0, 1, 0, (0, 0, 0, 0, 0, 0)), (17, .istore 6, 2, 0, (0, 0, 0, 0, 0, 0)), (19, .iload 6, 2, 1, (0, 0, 0, 0, 0, 0)), (21, .iload 5, 2, 0, (0, 0, 0, 0, 0, 0)), (23, .if_icmp .ge 94, 3, 0, (0, 0, 0, 0, 0, 0)), (26, .aload 4, 2, 0, (0, 0, 0, 0, 0, 0)), (28, .iload 6, 2, 0, (0, 0, 0, 0, 0, 0)), (30, .aaload, 1, 0, (20, 40, 0, 1, 1, 0)), (31, .astore 7, 2, 0, (0, 0, 0, 0, 0, 0)), (33, .aload 7, 2, 0, (0, 0, 0, 0, 0, 0)), (35, .aload_n 1, 1, 0, (0, 0, 0, 0, 0, 0)), (36, .getfield 34, 3, 0, (10, 4, 4, 0, 0, 0)), (39, .aload_n 1, 1, 0, (0, 0, 0, 0, 0, 0)), (40, .getfield 38, 3, 0, (10, 5, 1, 0, 0, 0)), (43, .ifCond .ne 7, 3, 0, (0, 0, 0, 0, 0, 0)), (46, .iconst 1, 1, 0, (0, 0, 0, 0, 0, 1)), (47, .goto 4, 3, 0, (0, 0, 0, 0, 0, 0)), (50, .iconst 0, 1, 0, (0, 0, 0, 0, 0, 0)), (51, .invokevirtual 42, 3, 0, (0, 3, 0, 0, 1, 0)), (54, .ifCond .eq 57, 3, 0, (0, 0, 0, 0, 0, 0)), (57, .aload 7, 2, 0, (0, 0, 0, 0, 0, 0)), (59, .getfield 46, 3, 0, (10, 3, 3, 1, 0, 0)), (62, .getfield 50, 3, 0, (0, 1, 0, 0, 0, 0)), (65, .aload_n 1, 1, 0, (0, 0, 0, 0, 0, 0)), (66, .getfield 46, 3, 0, (10, 3, 3, 0, 0, 0)), (69, .getfield 50, 3, 0, (0, 1, 0, 0, 0, 0)), (72, .if_icmp .eq 39, 3, 0, (0, 0, 0, 0, 0, 0)), (75, .aload_n 1, 1, 0, (0, 0, 0, 0, 0, 0)), (76, .aload 7, 2, 0, (0, 0, 0, 0, 0, 0)), (78, .getfield 56, 3, 0, (10, 7, 0, 1, 0, 0)), (81, .invokevirtual 59, 3, 0, (1, 2, 0, 0, 2, 0)), (84, .ifCond .eq 27, 3, 0, (0, 0, 0, 0, 0, 0)), (87, .aload_n 1, 1, 0, (0, 0, 0, 0, 0, 0)), (88, .getfield 34, 3, 0, (10, 4, 4, 0, 0, 0)), (91, .aload 7, 2, 0, (0, 0, 0, 0, 0, 0)), (93, .getfield 56, 3, 0, (10, 7, 0, 1, 0, 0)), (96, .invokevirtual 63, 3, 0, (2, 2, 0, 0, 2, 0)), (99, .ifCond .ne 12, 3, 0, (0, 0, 0, 0, 0, 0)), (102, .lload_n 2, 1, 0, (0, 0, 0, 0, 0, 0)), (103, .aload 7, 2, 0, (0, 0, 0, 0, 0, 0)), (105, .getfield 68, 3, 0, (10, 9, 0, 1, 0, 0)), (108, .i2l, 1, 0, (0, 0, 0, 0, 0, 0)), (109, .ladd, 1, 0, (0, 0, 0, 0, 0, 0)), (110, .lstore_n 2, 1, 0, (0, 0, 0, 0, 0, 0)), (111, .iinc 6 1, 3, 0, (0, 0, 0, 0, 0, 1)), (114, .goto (-95), 3, 0, (0, 0, 0, 0, 0, 0)), (117, .lload_n 2, 1, 0, (0, 0, 0, 0, 0, 0)), (118, .lreturn, 1, 0, (0, 0, 0, 0, 0, 0))]
set_option maxRecDepth 100000 in
theorem rk122 : R122.all (rok 0 122 2 [(144, [13, 4, 0]), (145, [13, 0]), (13, [4, 0])]) = true := by decide +kernel
set_option maxRecDepth 100000 in
theorem tab122 {F144 : PM → Nat → Nat → Int32 → Int32} {G144 : PM → Nat → Nat → Int32 → Prop} {F145 : PM → Nat → Int32 → Int32} {G145 : PM → Nat → Int32 → Prop} {F13 : PM → Nat → Int32 → Int32} {G13 : PM → Nat → Int32 → Prop} : TabOK 0 122 2 [CC144 F144 G144, CC145 F145 G145, CC13 F13 G13] R122 := tab_ok (K := K122) rfl rfl (fun h => d122 h) rk122 (by decide +kernel)
set_option maxRecDepth 100000 in
theorem pc122 : cutpc [19] R122 = true := by decide +kernel
set_option maxRecDepth 100000 in
theorem r8_reachable_19 (p : PM) (hg : Gr 0 p) (F144 : PM → Nat → Nat → Int32 → Int32) (G144 : PM → Nat → Nat → Int32 → Prop) (o144 : CalOK 0 (CC144 F144 G144)) (F145 : PM → Nat → Int32 → Int32) (G145 : PM → Nat → Int32 → Prop) (o145 : CalOK 0 (CC145 F145 G145)) (F13 : PM → Nat → Int32 → Int32) (G13 : PM → Nat → Int32 → Prop) (o13 : CalOK 0 (CC13 F13 G13)) (kv19 : Nat → Int64 → Int32 → Int64) (kg19 : Nat → Int64 → Int32 → Prop) (hk19 : ∀ (v1 : Nat) (v2 : Int64) (v6 : Int32) (d0 d3 d7 : ZV), kg19 v1 v2 v6 → ZJ 0 122 19 [d0, zR 10 v1, zL v2, d3, zR 20 1, zC 40, zI v6, d7] [] p (hoL p (kv19 v1 v2 v6))) : ∀ (v1 : Nat) (v2 : Int64) (v6 : Int32) (d0 d3 d7 : ZV), bg8_reachable_19 p F13 G13 F144 G144 F145 G145 kg19 v1 v2 v6 → ZJ 0 122 19 [d0, zR 10 v1, zL v2, d3, zR 20 1, zC 40, zI v6, d7] [] p (hoL p (bv8_reachable_19 p F13 F144 F145 kv19 v1 v2 v6)) := by
  intro v1 v2 v6 d0 d3 d7 H
  exact roL (n := 3000) (q := 19) (la := [d0, zR 10 v1, zL v2, d3, zR 20 1, zC 40, zI v6, d7]) (sa := []) (ks := [fun la sa _ => kv19 (ar la 1) (al la 2) (ai la 6)]) (gs := [fun la sa _ => zsw (tc2 la [(2, 0), (14, 0), (1, 0), (2, 0), (120, 1), (3, 40), (0, 0), (2, 0)] && tc2 sa []) False (kg19 (ar la 1) (al la 2) (ai la 6))]) (fcons o144 (fcons o145 (fcons o13 (fnil)))) tab122 pc122 ⟨fun la sa s hg H => zcut H fun H => hk19 (ar la 1) (al la 2) (ai la 6) (zld la 0) (zld la 3) (zld la 7) H, trivial⟩ hg H
theorem t8_reachable_19 (p : PM) (hg : Gr 0 p) : ∀ (n : Nat), ∀ (v1 : Nat) (v2 : Int64) (v6 : Int32) (d0 d3 d7 : ZV), g8_reachable_19 p n v1 v2 v6 → ZJ 0 122 19 [d0, zR 10 v1, zL v2, d3, zR 20 1, zC 40, zI v6, d7] [] p (hoL p (v8_reachable_19 p n v1 v2 v6)) := by
  intro n
  induction n with
  | zero =>
    intro v1 v2 v6 d0 d3 d7 H
    exact H.elim
  | succ n ih => exact r8_reachable_19 p hg v10_standsIn g10_standsIn ok144 v10_allows g10_allows ok145 v1_isBeyondBand g1_isBeyondBand ok13 (v8_reachable_19 p n) (g8_reachable_19 p n) ih
set_option maxRecDepth 100000 in
theorem r8_reachable (p : PM) (hg : Gr 0 p) (F144 : PM → Nat → Nat → Int32 → Int32) (G144 : PM → Nat → Nat → Int32 → Prop) (o144 : CalOK 0 (CC144 F144 G144)) (F145 : PM → Nat → Int32 → Int32) (G145 : PM → Nat → Int32 → Prop) (o145 : CalOK 0 (CC145 F145 G145)) (F13 : PM → Nat → Int32 → Int32) (G13 : PM → Nat → Int32 → Prop) (o13 : CalOK 0 (CC13 F13 G13)) (kv19 : Nat → Int64 → Int32 → Int64) (kg19 : Nat → Int64 → Int32 → Prop) (hk19 : ∀ (v1 : Nat) (v2 : Int64) (v6 : Int32) (d0 d3 d7 : ZV), kg19 v1 v2 v6 → ZJ 0 122 19 [d0, zR 10 v1, zL v2, d3, zR 20 1, zC 40, zI v6, d7] [] p (hoL p (kv19 v1 v2 v6))) : ∀ (v1 : Nat), bg8_reachable p kg19 v1 → ZJ 0 122 0 [zR 8 1, zR 10 v1, zJ, zJ, zJ, zJ, zJ, zJ] [] p (hoL p (bv8_reachable p kv19 v1)) := by
  intro v1  H
  exact roL (n := 3000) (q := 0) (la := [zR 8 1, zR 10 v1, zJ, zJ, zJ, zJ, zJ, zJ]) (sa := []) (ks := [fun la sa _ => kv19 (ar la 1) (al la 2) (ai la 6)]) (gs := [fun la sa _ => zsw (tc2 la [(2, 0), (14, 0), (1, 0), (2, 0), (120, 1), (3, 40), (0, 0), (2, 0)] && tc2 sa []) False (kg19 (ar la 1) (al la 2) (ai la 6))]) (fcons o144 (fcons o145 (fcons o13 (fnil)))) tab122 pc122 ⟨fun la sa s hg H => zcut H fun H => hk19 (ar la 1) (al la 2) (ai la 6) (zld la 0) (zld la 3) (zld la 7) H, trivial⟩ hg H
theorem t8_reachable (p : PM) (hg : Gr 0 p) : ∀ (v1 : Nat), g8_reachable p v1 → ZJ 0 122 0 [zR 8 1, zR 10 v1, zJ, zJ, zJ, zJ, zJ, zJ] [] p (hoL p (v8_reachable p v1)) := r8_reachable p hg v10_standsIn g10_standsIn ok144 v10_allows g10_allows ok145 v1_isBeyondBand g1_isBeyondBand ok13 (v8_reachable_19 p FU) (g8_reachable_19 p FU) (t8_reachable_19 p hg FU)
def CC122 (F : PM → Nat → Int64) (G : PM → Nat → Prop) : Cal := (122, [11, 13], 2, true, fun as p => (zL (F p (ar as 1)), p), fun as p => zsw (tc2 as [(108, 1), (14, 0)]) False (G p (ar as 1)))
set_option maxRecDepth 100000 in
theorem okr122 (F : PM → Nat → Int64) (G : PM → Nat → Prop) (h : ∀ (p : PM) (v1 : Nat), Gr 0 p → G p v1 → ZJ 0 122 0 [zR 8 1, zR 10 v1, zJ, zJ, zJ, zJ, zJ, zJ] [] p (hoL p (F p v1))) : CalOK 0 (CC122 F G) := cal_ok (m := 8) (by unfold mL; rw [mX_122]) (fun as p hg H => h p (ar as 1) hg H)
theorem ok122 : CalOK 0 (CC122 v8_reachable g8_reachable) := okr122 v8_reachable g8_reachable (fun p v1 hg H => t8_reachable p hg v1 H)
noncomputable def bv6_stand (F79 : PM → Int32 × PM) (F150 : PM → Nat → Int32) (p : PM) (v1 : Nat) : PM :=
  let p1 : PM := pI p 10 v1 2 (cn 1)
  let p2 : PM := pI p1 10 v1 7 (p1.1 10 v1 6)
  let p3 : PM := pI p2 10 v1 11 (F150 p2 v1)
  let r4 : Int32 × PM := F79 p3
  let p5 : PM := pI r4.2 10 v1 12 r4.1
  p5
noncomputable def v6_stand (p : PM) (v1 : Nat) : PM := bv6_stand v6_nextTurn v10_showable p v1
noncomputable def bg6_stand (F79 : PM → Int32 × PM) (G79 : PM → Prop) (F150 : PM → Nat → Int32) (G150 : PM → Nat → Prop) (p : PM) (v1 : Nat) : Prop :=
  (¬ v1 = 0) ∧ (
  let p1 : PM := pI p 10 v1 2 (cn 1)
  (¬ v1 = 0) ∧ (
  (¬ v1 = 0) ∧ (
  let p2 : PM := pI p1 10 v1 7 (p1.1 10 v1 6)
  (¬ v1 = 0) ∧ (
  (G150 p2 v1) ∧ (
  (¬ v1 = 0) ∧ (
  let p3 : PM := pI p2 10 v1 11 (F150 p2 v1)
  (G79 p3) ∧ (
  let r4 : Int32 × PM := F79 p3
  (¬ v1 = 0) ∧ (
  let p5 : PM := pI r4.2 10 v1 12 r4.1
  True))))))))
noncomputable def g6_stand (p : PM) (v1 : Nat) : Prop := bg6_stand v6_nextTurn g6_nextTurn v10_showable g10_showable p v1
def R78 : List Row := [(0, .aload_n 1, 1, 0, (0, 0, 0, 0, 0, 0)), (1, .iconst 1, 1, 0, (0, 0, 0, 0, 0, 1)), (2, .putfield 29, 3, 0, (10, 2, 0, 0, 0, 0)), (5, .aload_n 1, 1, 0, (0, 0, 0, 0, 0, 0)), (6, .aload_n 1, 1, 0, (0, 0, 0, 0, 0, 0)), (7, .getfield 52, 3, 0, (10, 6, 0, 0, 0, 0)), (10, .putfield 55, 3, 0, (10, 7, 0, 0, 0, 0)), (13, .aload_n 1, 1, 0, (0, 0, 0, 0, 0, 0)), (14, .aload_n 1, 1, 0, (0, 0, 0, 0, 0, 0)), (15, .invokevirtual 58, 3, 0, (0, 1, 0, 0, 2, 0)), (18, .putfield 62, 3, 0, (10, 11, 0, 0, 0, 0)), (21, .aload_n 1, 1, 0, (0, 0, 0, 0, 0, 0)), (22, .aload_n 0, 1, 0, (0, 0, 0, 0, 0, 0)), (23, .invokevirtual 65, 3, 0, (1, 1, 0, 0, 1, 0)), (26, .putfield 68, 3, 0, (10, 12, 0, 0, 0, 0)), (29, .return_, 1, 0, (0, 0, 0, 0, 0, 0))]
set_option maxRecDepth 100000 in
theorem rk78 : R78.all (rok 0 78 0 [(150, [13]), (79, [9])]) = true := by decide +kernel
set_option maxRecDepth 100000 in
theorem tab78 {F150 : PM → Nat → Int32} {G150 : PM → Nat → Prop} {F79 : PM → Int32 × PM} {G79 : PM → Prop} : TabOK 0 78 0 [CC150 F150 G150, CC79 F79 G79] R78 := tab_ok (K := K78) rfl rfl (fun h => d78 h) rk78 (by decide +kernel)
set_option maxRecDepth 100000 in
theorem pc78 : cutpc [] R78 = true := by decide +kernel
set_option maxRecDepth 100000 in
theorem r6_stand (F150 : PM → Nat → Int32) (G150 : PM → Nat → Prop) (o150 : CalOK 0 (CC150 F150 G150)) (F79 : PM → Int32 × PM) (G79 : PM → Prop) (o79 : CalOK 0 (CC79 F79 G79)) : ∀ (p : PM) (v1 : Nat), Gr 0 p → bg6_stand F79 G79 F150 G150 p v1 → ZJ 0 78 0 [zR 6 1, zR 10 v1] [] p (hwV (bv6_stand F79 F150 p v1)) := by
  intro p v1  hg H
  exact rwV (n := 3000) (q := 0) (la := [zR 6 1, zR 10 v1]) (sa := []) (ks := []) (gs := []) (fcons o150 (fcons o79 (fnil))) tab78 pc78 trivial hg H
theorem t6_stand : ∀ (p : PM) (v1 : Nat), Gr 0 p → g6_stand p v1 → ZJ 0 78 0 [zR 6 1, zR 10 v1] [] p (hwV (v6_stand p v1)) := r6_stand v10_showable g10_showable ok150 v6_nextTurn g6_nextTurn ok79
def CC78 (F : PM → Nat → PM) (G : PM → Nat → Prop) : Cal := (78, [9, 13], 0, false, fun as p => (zJ, (F p (ar as 1))), fun as p => zsw (tc2 as [(106, 1), (14, 0)]) False (G p (ar as 1)))
set_option maxRecDepth 100000 in
theorem okr78 (F : PM → Nat → PM) (G : PM → Nat → Prop) (h : ∀ (p : PM) (v1 : Nat), Gr 0 p → G p v1 → ZJ 0 78 0 [zR 6 1, zR 10 v1] [] p (hwV (F p v1))) : CalOK 0 (CC78 F G) := cal_ok (m := 2) (by unfold mL; rw [mX_78]) (fun as p hg H => h p (ar as 1) hg H)
theorem ok78 : CalOK 0 (CC78 v6_stand g6_stand) := okr78 v6_stand g6_stand t6_stand
