/-! methods as functions over one part, by program (wip/whole/lift.py) -/
noncomputable def bv5_undo (F98 : PM → Nat → Int32 → PM) (F107 : PM → Int32 → Nat) (F109 : PM → Int32 → Int32 × PM) (p : PM) (v1 : Int32) : Int32 × PM :=
  let r1 : Int32 × PM := F109 p v1
  if (F107 r1.2 v1) = 0 then (
    (r1.1, r1.2))
  else (
    let p2 : PM := F98 r1.2 (r1.2.2.2 4 (F107 r1.2 v1) 0) v1
    (r1.1, p2))
noncomputable def v5_undo (p : PM) (v1 : Int32) : Int32 × PM := bv5_undo v6_holdStops v7_find v7_reverse p v1
noncomputable def bg5_undo (F98 : PM → Nat → Int32 → PM) (G98 : PM → Nat → Int32 → Prop) (F107 : PM → Int32 → Nat) (G107 : PM → Int32 → Prop) (F109 : PM → Int32 → Int32 × PM) (G109 : PM → Int32 → Prop) (p : PM) (v1 : Int32) : Prop :=
  (G109 p v1) ∧ (
  let r1 : Int32 × PM := F109 p v1
  (G107 r1.2 v1) ∧ (
  if (F107 r1.2 v1) = 0 then (
    True)
  else (
    (¬ (F107 r1.2 v1) = 0) ∧ (
    (G98 r1.2 (r1.2.2.2 4 (F107 r1.2 v1) 0) v1) ∧ (
    let p2 : PM := F98 r1.2 (r1.2.2.2 4 (F107 r1.2 v1) 0) v1
    True)))))
noncomputable def g5_undo (p : PM) (v1 : Int32) : Prop := bg5_undo v6_holdStops g6_holdStops v7_find g7_find v7_reverse g7_reverse p v1
def R67 : List Row := [(0, .aload_n 0, 1, 0, (0, 0, 0, 0, 0, 0)), (1, .getfield 19, 3, 0, (5, 1, 10, 2, 1, 0)), (4, .iload_n 1, 1, 0, (0, 0, 0, 0, 0, 0)), (5, .invokevirtual 177, 3, 0, (0, 2, 0, 0, 1, 0)), (8, .istore_n 2, 1, 0, (0, 0, 0, 0, 0, 0)), (9, .aload_n 0, 1, 0, (0, 0, 0, 0, 0, 0)), (10, .getfield 19, 3, 0, (5, 1, 10, 2, 1, 0)), (13, .iload_n 1, 1, 0, (0, 0, 0, 0, 0, 0)), (14, .invokevirtual 181, 3, 0, (1, 2, 0, 0, 1, 0)), (17, .astore_n 3, 1, 0, (0, 0, 0, 0, 0, 0)), (18, .aload_n 3, 1, 0, (0, 0, 0, 0, 0, 0)), (19, .ifnull 15, 3, 0, (0, 0, 0, 0, 0, 0)), (22, .aload_n 0, 1, 0, (0, 0, 0, 0, 0, 0)), (23, .getfield 34, 3, 0, (5, 0, 9, 2, 1, 0)), (26, .aload_n 3, 1, 0, (0, 0, 0, 0, 0, 0)), (27, .getfield 185, 3, 0, (4, 0, 4, 0, 0, 0)), (30, .iload_n 1, 1, 0, (0, 0, 0, 0, 0, 0)), (31, .invokevirtual 188, 3, 0, (2, 3, 0, 0, 1, 0)), (34, .iload_n 2, 1, 0, (0, 0, 0, 0, 0, 0)), (35, .ireturn, 1, 0, (0, 0, 0, 0, 0, 0))]
set_option maxRecDepth 100000 in
theorem rk67 : R67.all (rok 0 67 1 [(109, [10, 0]), (107, [10, 0]), (98, [9, 4, 0])]) = true := by decide +kernel
set_option maxRecDepth 100000 in
theorem tab67 {F109 : PM → Int32 → Int32 × PM} {G109 : PM → Int32 → Prop} {F107 : PM → Int32 → Nat} {G107 : PM → Int32 → Prop} {F98 : PM → Nat → Int32 → PM} {G98 : PM → Nat → Int32 → Prop} : TabOK 0 67 1 [CC109 F109 G109, CC107 F107 G107, CC98 F98 G98] R67 := tab_ok (K := K67) rfl rfl (fun h => d67 h) rk67 (by decide +kernel)
set_option maxRecDepth 100000 in
theorem pc67 : cutpc [] R67 = true := by decide +kernel
set_option maxRecDepth 100000 in
theorem r5_undo (F109 : PM → Int32 → Int32 × PM) (G109 : PM → Int32 → Prop) (o109 : CalOK 0 (CC109 F109 G109)) (F107 : PM → Int32 → Nat) (G107 : PM → Int32 → Prop) (o107 : CalOK 0 (CC107 F107 G107)) (F98 : PM → Nat → Int32 → PM) (G98 : PM → Nat → Int32 → Prop) (o98 : CalOK 0 (CC98 F98 G98)) : ∀ (p : PM) (v1 : Int32), Gr 0 p → bg5_undo F98 G98 F107 G107 F109 G109 p v1 → ZJ 0 67 0 [zR 5 1, zI v1, zJ, zJ] [] p (hwI (bv5_undo F98 F107 F109 p v1)) := by
  intro p v1  hg H
  exact rwI (n := 3000) (q := 0) (la := [zR 5 1, zI v1, zJ, zJ]) (sa := []) (ks := []) (gs := []) (fcons o109 (fcons o107 (fcons o98 (fnil)))) tab67 pc67 trivial hg H
theorem t5_undo : ∀ (p : PM) (v1 : Int32), Gr 0 p → g5_undo p v1 → ZJ 0 67 0 [zR 5 1, zI v1, zJ, zJ] [] p (hwI (v5_undo p v1)) := r5_undo v7_reverse g7_reverse ok109 v7_find g7_find ok107 v6_holdStops g6_holdStops ok98
def CC67 (F : PM → Int32 → Int32 × PM) (G : PM → Int32 → Prop) : Cal := (67, [8, 0], 1, false, fun as p => (zI (F p (ai as 1)).1, (F p (ai as 1)).2), fun as p => zsw (tc2 as [(105, 1), (0, 0)]) False (G p (ai as 1)))
set_option maxRecDepth 100000 in
theorem okr67 (F : PM → Int32 → Int32 × PM) (G : PM → Int32 → Prop) (h : ∀ (p : PM) (v1 : Int32), Gr 0 p → G p v1 → ZJ 0 67 0 [zR 5 1, zI v1, zJ, zJ] [] p (hwI (F p v1))) : CalOK 0 (CC67 F G) := cal_ok (m := 4) (by unfold mL; rw [mX_67]) (fun as p hg H => h p (ai as 1) hg H)
theorem ok67 : CalOK 0 (CC67 v5_undo g5_undo) := okr67 v5_undo g5_undo t5_undo
noncomputable def bv6_withdrawContract_14 (F12 : PM → Nat → Int32 → Int32) (kv14 : PM → Int32 → Int32 → Int32 → Int32 × PM) (p : PM) (v1 : Int32) (v2 : Int32) (v5 : Int32) : Int32 × PM :=
  if v5 < (cn 40) then (
    if (p.1 10 ((v5).toNatClampNeg + 1) 2) = 0 then (
      kv14 p v1 v2 (v5 + (cn 1)))
    else (
      if (F12 p (p.2.2 10 ((v5).toNatClampNeg + 1) 4) v1) = 0 then (
        kv14 p v1 v2 (v5 + (cn 1)))
      else (
        let p1 : PM := pI p 10 ((v5).toNatClampNeg + 1) 2 (cn 0)
        kv14 p1 v1 (v2 + (cn 1)) (v5 + (cn 1)))))
  else (
    (v2, p))
noncomputable def v6_withdrawContract_14 (n : Nat) : PM → Int32 → Int32 → Int32 → Int32 × PM := Nat.rec (motive := fun _ => PM → Int32 → Int32 → Int32 → Int32 × PM) (fun p _ _ _ => (0, p)) (fun _ ih => bv6_withdrawContract_14 v1_hasContract ih) n
theorem ev6_withdrawContract_14 (n : Nat) (p : PM) (v1 : Int32) (v2 : Int32) (v5 : Int32) : v6_withdrawContract_14 (n + 1) p v1 v2 v5 = bv6_withdrawContract_14 v1_hasContract (v6_withdrawContract_14 n) p v1 v2 v5 := rfl
noncomputable def bg6_withdrawContract_14 (F12 : PM → Nat → Int32 → Int32) (G12 : PM → Nat → Int32 → Prop) (kg14 : PM → Int32 → Int32 → Int32 → Prop) (p : PM) (v1 : Int32) (v2 : Int32) (v5 : Int32) : Prop :=
  if v5 < (cn 40) then (
    (inb v5 40) ∧ (
    if (p.1 10 ((v5).toNatClampNeg + 1) 2) = 0 then (
      kg14 p v1 v2 (v5 + (cn 1)))
    else (
      (¬ (p.2.2 10 ((v5).toNatClampNeg + 1) 4) = 0) ∧ (
      (G12 p (p.2.2 10 ((v5).toNatClampNeg + 1) 4) v1) ∧ (
      if (F12 p (p.2.2 10 ((v5).toNatClampNeg + 1) 4) v1) = 0 then (
        kg14 p v1 v2 (v5 + (cn 1)))
      else (
        let p1 : PM := pI p 10 ((v5).toNatClampNeg + 1) 2 (cn 0)
        kg14 p1 v1 (v2 + (cn 1)) (v5 + (cn 1))))))))
  else (
    True)
noncomputable def g6_withdrawContract_14 (n : Nat) : PM → Int32 → Int32 → Int32 → Prop := Nat.rec (motive := fun _ => PM → Int32 → Int32 → Int32 → Prop) (fun _ _ _ _ => False) (fun _ ih => bg6_withdrawContract_14 v1_hasContract g1_hasContract ih) n
theorem eg6_withdrawContract_14 (n : Nat) (p : PM) (v1 : Int32) (v2 : Int32) (v5 : Int32) : g6_withdrawContract_14 (n + 1) p v1 v2 v5 = bg6_withdrawContract_14 v1_hasContract g1_hasContract (g6_withdrawContract_14 n) p v1 v2 v5 := rfl
noncomputable def bv6_withdrawContract (kv14 : PM → Int32 → Int32 → Int32 → Int32 × PM) (p : PM) (v1 : Int32) : Int32 × PM :=
  kv14 p v1 (cn 0) (cn 0)
noncomputable def v6_withdrawContract (p : PM) (v1 : Int32) : Int32 × PM := bv6_withdrawContract (v6_withdrawContract_14 FU) p v1
noncomputable def bg6_withdrawContract (kg14 : PM → Int32 → Int32 → Int32 → Prop) (p : PM) (v1 : Int32) : Prop :=
  kg14 p v1 (cn 0) (cn 0)
noncomputable def g6_withdrawContract (p : PM) (v1 : Int32) : Prop := bg6_withdrawContract (g6_withdrawContract_14 FU) p v1
def R88 : List Row := [(0, .iconst 0, 1, 0, (0, 0, 0, 0, 0, 0)), (1, .istore_n 2, 1, 0, (0, 0, 0, 0, 0, 0)), (2, .aload_n 0, 1, 0, (0, 0, 0, 0, 0, 0)), (3, .getfield 11, 3, 0, (6, 1, 23, 2, 1, 0)), (6, .astore_n 3, 1, 0, (0, 0, 0, 0, 0, 0)), (7, .aload_n 3, 1, 0, (0, 0, 0, 0, 0, 0)), (8, .arraylength, 1, 0, (20, 40, 0, 0, 0, 40)), (9, .istore 4, 2, 0, (0, 0, 0, 0, 0, 0)), (11, .iconst 0, 1, 0, (0, 0, 0, 0, 0, 0)), (12, .istore 5, 2, 0, (0, 0, 0, 0, 0, 0)), (14, .iload 5, 2, 1, (0, 0, 0, 0, 0, 0)), (16, .iload 4, 2, 0, (0, 0, 0, 0, 0, 0)), (18, .if_icmp .ge 44, 3, 0, (0, 0, 0, 0, 0, 0)), (21, .aload_n 3, 1, 0, (0, 0, 0, 0, 0, 0)), (22, .iload 5, 2, 0, (0, 0, 0, 0, 0, 0)), (24, .aaload, 1, 0, (20, 40, 0, 1, 1, 0)), (25, .astore 6, 2, 0, (0, 0, 0, 0, 0, 0)), (27, .aload 6, 2, 0, (0, 0, 0, 0, 0, 0)), (29, .getfield 29, 3, 0, (10, 2, 0, 1, 0, 0)), (32, .ifCond .eq 24, 3, 0, (0, 0, 0, 0, 0, 0)), (35, .aload 6, 2, 0, (0, 0, 0, 0, 0, 0)), (37, .getfield 130, 3, 0, (10, 4, 4, 1, 0, 0)), (40, .iload_n 1, 1, 0, (0, 0, 0, 0, 0, 0)), (41, .invokevirtual 134, 3, 0, (0, 2, 0, 0, 2, 0)), (44, .ifCond .eq 12, 3, 0, (0, 0, 0, 0, 0, 0)), (47, .aload 6, 2, 0, (0, 0, 0, 0, 0, 0)), (49, .iconst 0, 1, 0, (0, 0, 0, 0, 0, 0)), (50, .putfield 29, 3, 0, (10, 2, 0, 1, 0, 0)), (53, .iinc 2 1, 3, 0, (0, 0, 0, 0, 0, 1)), (56, .iinc 5 1, 3, 0, (0, 0, 0, 0, 0, 1)), (59, .goto (-45), 3, 0, (0, 0, 0, 0, 0, 0)), (62, .iload_n 2, 1, 0, (0, 0, 0, 0, 0, 0)), (63, .ireturn, 1, 0, (0, 0, 0, 0, 0, 0))]
set_option maxRecDepth 100000 in
theorem rk88 : R88.all (rok 0 88 1 [(12, [4, 0])]) = true := by decide +kernel
set_option maxRecDepth 100000 in
theorem tab88 {F12 : PM → Nat → Int32 → Int32} {G12 : PM → Nat → Int32 → Prop} : TabOK 0 88 1 [CC12 F12 G12] R88 := tab_ok (K := K88) rfl rfl (fun h => d88 h) rk88 (by decide +kernel)
set_option maxRecDepth 100000 in
theorem pc88 : cutpc [14] R88 = true := by decide +kernel
set_option maxRecDepth 100000 in
theorem r6_withdrawContract_14 (F12 : PM → Nat → Int32 → Int32) (G12 : PM → Nat → Int32 → Prop) (o12 : CalOK 0 (CC12 F12 G12)) (kv14 : PM → Int32 → Int32 → Int32 → Int32 × PM) (kg14 : PM → Int32 → Int32 → Int32 → Prop) (hk14 : ∀ (p : PM) (v1 : Int32) (v2 : Int32) (v5 : Int32) (d0 d6 : ZV), Gr 0 p → kg14 p v1 v2 v5 → ZJ 0 88 14 [d0, zI v1, zI v2, zR 20 1, zC 40, zI v5, d6] [] p (hwI (kv14 p v1 v2 v5))) : ∀ (p : PM) (v1 : Int32) (v2 : Int32) (v5 : Int32) (d0 d6 : ZV), Gr 0 p → bg6_withdrawContract_14 F12 G12 kg14 p v1 v2 v5 → ZJ 0 88 14 [d0, zI v1, zI v2, zR 20 1, zC 40, zI v5, d6] [] p (hwI (bv6_withdrawContract_14 F12 kv14 p v1 v2 v5)) := by
  intro p v1 v2 v5 d0 d6 hg H
  exact rwI (n := 3000) (q := 14) (la := [d0, zI v1, zI v2, zR 20 1, zC 40, zI v5, d6]) (sa := []) (ks := [fun la sa s => kv14 s (ai la 1) (ai la 2) (ai la 5)]) (gs := [fun la sa s => zsw (tc2 la [(2, 0), (0, 0), (0, 0), (120, 1), (3, 40), (0, 0), (2, 0)] && tc2 sa []) False (kg14 s (ai la 1) (ai la 2) (ai la 5))]) (fcons o12 (fnil)) tab88 pc88 ⟨fun la sa s hg H => zcut H fun H => hk14 s (ai la 1) (ai la 2) (ai la 5) (zld la 0) (zld la 6) hg H, trivial⟩ hg H
theorem t6_withdrawContract_14 : ∀ (n : Nat), ∀ (p : PM) (v1 : Int32) (v2 : Int32) (v5 : Int32) (d0 d6 : ZV), Gr 0 p → g6_withdrawContract_14 n p v1 v2 v5 → ZJ 0 88 14 [d0, zI v1, zI v2, zR 20 1, zC 40, zI v5, d6] [] p (hwI (v6_withdrawContract_14 n p v1 v2 v5)) := by
  intro n
  induction n with
  | zero =>
    intro p v1 v2 v5 d0 d6 hg H
    exact H.elim
  | succ n ih => exact r6_withdrawContract_14 v1_hasContract g1_hasContract ok12 (v6_withdrawContract_14 n) (g6_withdrawContract_14 n) ih
set_option maxRecDepth 100000 in
theorem r6_withdrawContract (F12 : PM → Nat → Int32 → Int32) (G12 : PM → Nat → Int32 → Prop) (o12 : CalOK 0 (CC12 F12 G12)) (kv14 : PM → Int32 → Int32 → Int32 → Int32 × PM) (kg14 : PM → Int32 → Int32 → Int32 → Prop) (hk14 : ∀ (p : PM) (v1 : Int32) (v2 : Int32) (v5 : Int32) (d0 d6 : ZV), Gr 0 p → kg14 p v1 v2 v5 → ZJ 0 88 14 [d0, zI v1, zI v2, zR 20 1, zC 40, zI v5, d6] [] p (hwI (kv14 p v1 v2 v5))) : ∀ (p : PM) (v1 : Int32), Gr 0 p → bg6_withdrawContract kg14 p v1 → ZJ 0 88 0 [zR 6 1, zI v1, zJ, zJ, zJ, zJ, zJ] [] p (hwI (bv6_withdrawContract kv14 p v1)) := by
  intro p v1  hg H
  exact rwI (n := 3000) (q := 0) (la := [zR 6 1, zI v1, zJ, zJ, zJ, zJ, zJ]) (sa := []) (ks := [fun la sa s => kv14 s (ai la 1) (ai la 2) (ai la 5)]) (gs := [fun la sa s => zsw (tc2 la [(2, 0), (0, 0), (0, 0), (120, 1), (3, 40), (0, 0), (2, 0)] && tc2 sa []) False (kg14 s (ai la 1) (ai la 2) (ai la 5))]) (fcons o12 (fnil)) tab88 pc88 ⟨fun la sa s hg H => zcut H fun H => hk14 s (ai la 1) (ai la 2) (ai la 5) (zld la 0) (zld la 6) hg H, trivial⟩ hg H
theorem t6_withdrawContract : ∀ (p : PM) (v1 : Int32), Gr 0 p → g6_withdrawContract p v1 → ZJ 0 88 0 [zR 6 1, zI v1, zJ, zJ, zJ, zJ, zJ] [] p (hwI (v6_withdrawContract p v1)) := r6_withdrawContract v1_hasContract g1_hasContract ok12 (v6_withdrawContract_14 FU) (g6_withdrawContract_14 FU) (t6_withdrawContract_14 FU)
def CC88 (F : PM → Int32 → Int32 × PM) (G : PM → Int32 → Prop) : Cal := (88, [9, 0], 1, false, fun as p => (zI (F p (ai as 1)).1, (F p (ai as 1)).2), fun as p => zsw (tc2 as [(106, 1), (0, 0)]) False (G p (ai as 1)))
set_option maxRecDepth 100000 in
theorem okr88 (F : PM → Int32 → Int32 × PM) (G : PM → Int32 → Prop) (h : ∀ (p : PM) (v1 : Int32), Gr 0 p → G p v1 → ZJ 0 88 0 [zR 6 1, zI v1, zJ, zJ, zJ, zJ, zJ] [] p (hwI (F p v1))) : CalOK 0 (CC88 F G) := cal_ok (m := 7) (by unfold mL; rw [mX_88]) (fun as p hg H => h p (ai as 1) hg H)
theorem ok88 : CalOK 0 (CC88 v6_withdrawContract g6_withdrawContract) := okr88 v6_withdrawContract g6_withdrawContract t6_withdrawContract
noncomputable def bv7_forget_11 (F12 : PM → Nat → Int32 → Int32) (kv11 : PM → Int32 → Int32 → PM) (p : PM) (v1 : Int32) (v4 : Int32) : PM :=
  if v4 < (cn 60) then (
    if (F12 p (p.2.2 4 ((v4).toNatClampNeg + 1) 0) v1) = 0 then (
      kv11 p v1 (v4 + (cn 1)))
    else (
      let p1 : PM := pI p 4 ((v4).toNatClampNeg + 1) 6 (cn 0)
      kv11 p1 v1 (v4 + (cn 1))))
  else (
    p)
noncomputable def v7_forget_11 (n : Nat) : PM → Int32 → Int32 → PM := Nat.rec (motive := fun _ => PM → Int32 → Int32 → PM) (fun p _ _ => p) (fun _ ih => bv7_forget_11 v1_hasContract ih) n
theorem ev7_forget_11 (n : Nat) (p : PM) (v1 : Int32) (v4 : Int32) : v7_forget_11 (n + 1) p v1 v4 = bv7_forget_11 v1_hasContract (v7_forget_11 n) p v1 v4 := rfl
noncomputable def bg7_forget_11 (F12 : PM → Nat → Int32 → Int32) (G12 : PM → Nat → Int32 → Prop) (kg11 : PM → Int32 → Int32 → Prop) (p : PM) (v1 : Int32) (v4 : Int32) : Prop :=
  if v4 < (cn 60) then (
    (inb v4 60) ∧ (
    (¬ (p.2.2 4 ((v4).toNatClampNeg + 1) 0) = 0) ∧ (
    (G12 p (p.2.2 4 ((v4).toNatClampNeg + 1) 0) v1) ∧ (
    if (F12 p (p.2.2 4 ((v4).toNatClampNeg + 1) 0) v1) = 0 then (
      kg11 p v1 (v4 + (cn 1)))
    else (
      let p1 : PM := pI p 4 ((v4).toNatClampNeg + 1) 6 (cn 0)
      kg11 p1 v1 (v4 + (cn 1)))))))
  else (
    True)
noncomputable def g7_forget_11 (n : Nat) : PM → Int32 → Int32 → Prop := Nat.rec (motive := fun _ => PM → Int32 → Int32 → Prop) (fun _ _ _ => False) (fun _ ih => bg7_forget_11 v1_hasContract g1_hasContract ih) n
theorem eg7_forget_11 (n : Nat) (p : PM) (v1 : Int32) (v4 : Int32) : g7_forget_11 (n + 1) p v1 v4 = bg7_forget_11 v1_hasContract g1_hasContract (g7_forget_11 n) p v1 v4 := rfl
noncomputable def bv7_forget (kv11 : PM → Int32 → Int32 → PM) (p : PM) (v1 : Int32) : PM :=
  kv11 p v1 (cn 0)
noncomputable def v7_forget (p : PM) (v1 : Int32) : PM := bv7_forget (v7_forget_11 FU) p v1
noncomputable def bg7_forget (kg11 : PM → Int32 → Int32 → Prop) (p : PM) (v1 : Int32) : Prop :=
  kg11 p v1 (cn 0)
noncomputable def g7_forget (p : PM) (v1 : Int32) : Prop := bg7_forget (g7_forget_11 FU) p v1
def R120 : List Row := [(0, .aload_n 0, 1, 0, (0, 0, 0, 0, 0, 0)), (1, .getfield 19, 3, 0, (7, 1, 21, 2, 1, 0)), (4, .astore_n 2, 1, 0, (0, 0, 0, 0, 0, 0)), (5, .aload_n 2, 1, 0, (0, 0, 0, 0, 0, 0)), (6, .arraylength, 1, 0, (18, 60, 0, 0, 0, 60)), (7, .istore_n 3, 1, 0, (0, 0, 0, 0, 0, 0)), (8, .iconst 0, 1, 0, (0, 0, 0, 0, 0, 0)), (9, .istore 4, 2, 0, (0, 0, 0, 0, 0, 0)), (11, .iload 4, 2, 1, (0, 0, 0, 0, 0, 0)), (13, .iload_n 3, 1, 0, (0, 0, 0, 0, 0, 0)), (14, .if_icmp .ge 33, 3, 0, (0, 0, 0, 0, 0, 0)), (17, .aload_n 2, 1, 0, (0, 0, 0, 0, 0, 0)), (18, .iload 4, 2, 0, (0, 0, 0, 0, 0, 0)), (20, .aaload, 1, 0, (18, 60, 0, 1, 1, 0)), (21, .astore 5, 2, 0, (0, 0, 0, 0, 0, 0)), (23, .aload 5, 2, 0, (0, 0, 0, 0, 0, 0)), (25, .getfield 63, 3, 0, (4, 0, 4, 1, 0, 0)), (28, .iload_n 1, 1, 0, (0, 0, 0, 0, 0, 0)), (29, .invokevirtual 144, 3, 0, (0, 2, 0, 0, 2, 0)), (32, .ifCond .eq 9, 3, 0, (0, 0, 0, 0, 0, 0)), (35, .aload 5, 2, 0, (0, 0, 0, 0, 0, 0)), (37, .iconst 0, 1, 0, (0, 0, 0, 0, 0, 0)), (38, .putfield 32, 3, 0, (4, 6, 1, 1, 0, 0)), (41, .iinc 4 1, 3, 0, (0, 0, 0, 0, 0, 1)), (44, .goto (-33), 3, 0, (0, 0, 0, 0, 0, 0)), (47, .return_, 1, 0, (0, 0, 0, 0, 0, 0))]
set_option maxRecDepth 100000 in
theorem rk120 : R120.all (rok 0 120 0 [(12, [4, 0])]) = true := by decide +kernel
set_option maxRecDepth 100000 in
theorem tab120 {F12 : PM → Nat → Int32 → Int32} {G12 : PM → Nat → Int32 → Prop} : TabOK 0 120 0 [CC12 F12 G12] R120 := tab_ok (K := K120) rfl rfl (fun h => d120 h) rk120 (by decide +kernel)
set_option maxRecDepth 100000 in
theorem pc120 : cutpc [11] R120 = true := by decide +kernel
set_option maxRecDepth 100000 in
theorem r7_forget_11 (F12 : PM → Nat → Int32 → Int32) (G12 : PM → Nat → Int32 → Prop) (o12 : CalOK 0 (CC12 F12 G12)) (kv11 : PM → Int32 → Int32 → PM) (kg11 : PM → Int32 → Int32 → Prop) (hk11 : ∀ (p : PM) (v1 : Int32) (v4 : Int32) (d0 d5 : ZV), Gr 0 p → kg11 p v1 v4 → ZJ 0 120 11 [d0, zI v1, zR 18 1, zC 60, zI v4, d5] [] p (hwV (kv11 p v1 v4))) : ∀ (p : PM) (v1 : Int32) (v4 : Int32) (d0 d5 : ZV), Gr 0 p → bg7_forget_11 F12 G12 kg11 p v1 v4 → ZJ 0 120 11 [d0, zI v1, zR 18 1, zC 60, zI v4, d5] [] p (hwV (bv7_forget_11 F12 kv11 p v1 v4)) := by
  intro p v1 v4 d0 d5 hg H
  exact rwV (n := 3000) (q := 11) (la := [d0, zI v1, zR 18 1, zC 60, zI v4, d5]) (sa := []) (ks := [fun la sa s => kv11 s (ai la 1) (ai la 4)]) (gs := [fun la sa s => zsw (tc2 la [(2, 0), (0, 0), (118, 1), (3, 60), (0, 0), (2, 0)] && tc2 sa []) False (kg11 s (ai la 1) (ai la 4))]) (fcons o12 (fnil)) tab120 pc120 ⟨fun la sa s hg H => zcut H fun H => hk11 s (ai la 1) (ai la 4) (zld la 0) (zld la 5) hg H, trivial⟩ hg H
theorem t7_forget_11 : ∀ (n : Nat), ∀ (p : PM) (v1 : Int32) (v4 : Int32) (d0 d5 : ZV), Gr 0 p → g7_forget_11 n p v1 v4 → ZJ 0 120 11 [d0, zI v1, zR 18 1, zC 60, zI v4, d5] [] p (hwV (v7_forget_11 n p v1 v4)) := by
  intro n
  induction n with
  | zero =>
    intro p v1 v4 d0 d5 hg H
    exact H.elim
  | succ n ih => exact r7_forget_11 v1_hasContract g1_hasContract ok12 (v7_forget_11 n) (g7_forget_11 n) ih
set_option maxRecDepth 100000 in
theorem r7_forget (F12 : PM → Nat → Int32 → Int32) (G12 : PM → Nat → Int32 → Prop) (o12 : CalOK 0 (CC12 F12 G12)) (kv11 : PM → Int32 → Int32 → PM) (kg11 : PM → Int32 → Int32 → Prop) (hk11 : ∀ (p : PM) (v1 : Int32) (v4 : Int32) (d0 d5 : ZV), Gr 0 p → kg11 p v1 v4 → ZJ 0 120 11 [d0, zI v1, zR 18 1, zC 60, zI v4, d5] [] p (hwV (kv11 p v1 v4))) : ∀ (p : PM) (v1 : Int32), Gr 0 p → bg7_forget kg11 p v1 → ZJ 0 120 0 [zR 7 1, zI v1, zJ, zJ, zJ, zJ] [] p (hwV (bv7_forget kv11 p v1)) := by
  intro p v1  hg H
  exact rwV (n := 3000) (q := 0) (la := [zR 7 1, zI v1, zJ, zJ, zJ, zJ]) (sa := []) (ks := [fun la sa s => kv11 s (ai la 1) (ai la 4)]) (gs := [fun la sa s => zsw (tc2 la [(2, 0), (0, 0), (118, 1), (3, 60), (0, 0), (2, 0)] && tc2 sa []) False (kg11 s (ai la 1) (ai la 4))]) (fcons o12 (fnil)) tab120 pc120 ⟨fun la sa s hg H => zcut H fun H => hk11 s (ai la 1) (ai la 4) (zld la 0) (zld la 5) hg H, trivial⟩ hg H
theorem t7_forget : ∀ (p : PM) (v1 : Int32), Gr 0 p → g7_forget p v1 → ZJ 0 120 0 [zR 7 1, zI v1, zJ, zJ, zJ, zJ] [] p (hwV (v7_forget p v1)) := r7_forget v1_hasContract g1_hasContract ok12 (v7_forget_11 FU) (g7_forget_11 FU) (t7_forget_11 FU)
def CC120 (F : PM → Int32 → PM) (G : PM → Int32 → Prop) : Cal := (120, [10, 0], 0, false, fun as p => (zJ, (F p (ai as 1))), fun as p => zsw (tc2 as [(107, 1), (0, 0)]) False (G p (ai as 1)))
set_option maxRecDepth 100000 in
theorem okr120 (F : PM → Int32 → PM) (G : PM → Int32 → Prop) (h : ∀ (p : PM) (v1 : Int32), Gr 0 p → G p v1 → ZJ 0 120 0 [zR 7 1, zI v1, zJ, zJ, zJ, zJ] [] p (hwV (F p v1))) : CalOK 0 (CC120 F G) := cal_ok (m := 6) (by unfold mL; rw [mX_120]) (fun as p hg H => h p (ai as 1) hg H)
theorem ok120 : CalOK 0 (CC120 v7_forget g7_forget) := okr120 v7_forget g7_forget t7_forget
noncomputable def bv5_convertPrice (p : PM) (F375 : PM → Int32 → Int32 → Int32) (F377 : PM → Int32 → Int32 → Int32) (v0 : Int32) (v1 : Int32) (v2 : Int32) : Int32 :=
  if 0 < v1 then (
    (F375 p (cn 1) (F377 p (cn 9999) ((v0 * v2) / v1))))
  else (
    (F375 p (cn 1) (F377 p (cn 9999) v0)))
noncomputable def v5_convertPrice (p : PM) (v0 : Int32) (v1 : Int32) (v2 : Int32) : Int32 := bv5_convertPrice p v14_max_7cf53 v14_min_7cf53 v0 v1 v2
noncomputable def bg5_convertPrice (p : PM) (F375 : PM → Int32 → Int32 → Int32) (G375 : PM → Int32 → Int32 → Prop) (F377 : PM → Int32 → Int32 → Int32) (G377 : PM → Int32 → Int32 → Prop) (v0 : Int32) (v1 : Int32) (v2 : Int32) : Prop :=
  if 0 < v1 then (
    (¬ v1 = 0) ∧ (
    (G377 p (cn 9999) ((v0 * v2) / v1)) ∧ (
    (G375 p (cn 1) (F377 p (cn 9999) ((v0 * v2) / v1))) ∧ (
    True))))
  else (
    (G377 p (cn 9999) v0) ∧ (
    (G375 p (cn 1) (F377 p (cn 9999) v0)) ∧ (
    True)))
noncomputable def g5_convertPrice (p : PM) (v0 : Int32) (v1 : Int32) (v2 : Int32) : Prop := bg5_convertPrice p v14_max_7cf53 g14_max_7cf53 v14_min_7cf53 g14_min_7cf53 v0 v1 v2
def R69 : List Row := [(0, .iload_n 1, 1, 0, (0, 0, 0, 0, 0, 0)), (1, .ifCond .le 11, 3, 0, (0, 0, 0, 0, 0, 0)), (4, .iload_n 0, 1, 0, (0, 0, 0, 0, 0, 0)), (5, .iload_n 2, 1, 0, (0, 0, 0, 0, 0, 0)), (6, .imul, 1, 0, (0, 0, 0, 0, 0, 0)), (7, .iload_n 1, 1, 0, (0, 0, 0, 0, 0, 0)), (8, .idiv, 1, 0, (0, 0, 0, 0, 0, 0)), (9, .goto 4, 3, 0, (0, 0, 0, 0, 0, 0)), (12, .iload_n 0, 1, 0, (0, 0, 0, 0, 0, 0)), (13, .istore_n 3, 1, 0, (0, 0, 0, 0, 0, 0)), (14, .iconst 1, 1, 0, (0, 0, 0, 0, 0, 1)), (15, .sipush 9999, 3, 0, (0, 0, 0, 0, 0, 9999)), (18, .iload_n 3, 1, 0, (0, 0, 0, 0, 0, 0)), (19, .invokestatic 212, 3, 0, (0, 2, 0, 0, 0, 0)), (22, .invokestatic 218, 3, 0, (1, 2, 0, 0, 0, 0)), (25, .ireturn, 1, 0, (0, 0, 0, 0, 0, 0))]
set_option maxRecDepth 100000 in
theorem rk69 : R69.all (rok 0 69 1 [(377, [0, 0]), (375, [0, 0])]) = true := by decide +kernel
set_option maxRecDepth 100000 in
theorem tab69 {F377 : PM → Int32 → Int32 → Int32} {G377 : PM → Int32 → Int32 → Prop} {F375 : PM → Int32 → Int32 → Int32} {G375 : PM → Int32 → Int32 → Prop} : TabOK 0 69 1 [CC377 F377 G377, CC375 F375 G375] R69 := tab_ok (K := K69) rfl rfl (fun h => d69 h) rk69 (by decide +kernel)
set_option maxRecDepth 100000 in
theorem pc69 : cutpc [] R69 = true := by decide +kernel
set_option maxRecDepth 100000 in
theorem r5_convertPrice (p : PM) (hg : Gr 0 p) (F377 : PM → Int32 → Int32 → Int32) (G377 : PM → Int32 → Int32 → Prop) (o377 : CalOK 0 (CC377 F377 G377)) (F375 : PM → Int32 → Int32 → Int32) (G375 : PM → Int32 → Int32 → Prop) (o375 : CalOK 0 (CC375 F375 G375)) : ∀ (v0 : Int32) (v1 : Int32) (v2 : Int32), bg5_convertPrice p F375 G375 F377 G377 v0 v1 v2 → ZJ 0 69 0 [zI v0, zI v1, zI v2, zJ] [] p (hoI p (bv5_convertPrice p F375 F377 v0 v1 v2)) := by
  intro v0 v1 v2  H
  exact roI (n := 3000) (q := 0) (la := [zI v0, zI v1, zI v2, zJ]) (sa := []) (ks := []) (gs := []) (fcons o377 (fcons o375 (fnil))) tab69 pc69 trivial hg H
theorem t5_convertPrice (p : PM) (hg : Gr 0 p) : ∀ (v0 : Int32) (v1 : Int32) (v2 : Int32), g5_convertPrice p v0 v1 v2 → ZJ 0 69 0 [zI v0, zI v1, zI v2, zJ] [] p (hoI p (v5_convertPrice p v0 v1 v2)) := r5_convertPrice p hg v14_min_7cf53 g14_min_7cf53 ok377 v14_max_7cf53 g14_max_7cf53 ok375
def CC69 (F : PM → Int32 → Int32 → Int32 → Int32) (G : PM → Int32 → Int32 → Int32 → Prop) : Cal := (69, [0, 0, 0], 1, true, fun as p => (zI (F p (ai as 0) (ai as 1) (ai as 2)), p), fun as p => zsw (tc2 as [(0, 0), (0, 0), (0, 0)]) False (G p (ai as 0) (ai as 1) (ai as 2)))
set_option maxRecDepth 100000 in
theorem okr69 (F : PM → Int32 → Int32 → Int32 → Int32) (G : PM → Int32 → Int32 → Int32 → Prop) (h : ∀ (p : PM) (v0 : Int32) (v1 : Int32) (v2 : Int32), Gr 0 p → G p v0 v1 v2 → ZJ 0 69 0 [zI v0, zI v1, zI v2, zJ] [] p (hoI p (F p v0 v1 v2))) : CalOK 0 (CC69 F G) := cal_ok (m := 4) (by unfold mL; rw [mX_69]) (fun as p hg H => h p (ai as 0) (ai as 1) (ai as 2) hg H)
theorem ok69 : CalOK 0 (CC69 v5_convertPrice g5_convertPrice) := okr69 v5_convertPrice g5_convertPrice (fun p v0 v1 v2 hg H => t5_convertPrice p hg v0 v1 v2 H)
noncomputable def bv7_scaled (p : PM) (v0 : Int32) (v1 : Int32) (v2 : Int32) : Int64 :=
  if 0 < v2 then (
    (((v0).toInt64 * (v1).toInt64) / (v2).toInt64))
  else (
    (cl 0))
noncomputable def v7_scaled (p : PM) (v0 : Int32) (v1 : Int32) (v2 : Int32) : Int64 := bv7_scaled p v0 v1 v2
noncomputable def bg7_scaled (p : PM) (v0 : Int32) (v1 : Int32) (v2 : Int32) : Prop :=
  if 0 < v2 then (
    (¬ (v2).toInt64 = 0) ∧ (
    True))
  else (
    True)
noncomputable def g7_scaled (p : PM) (v0 : Int32) (v1 : Int32) (v2 : Int32) : Prop := bg7_scaled p v0 v1 v2
def R118 : List Row := [(0, .iload_n 2, 1, 0, (0, 0, 0, 0, 0, 0)), (1, .ifCond .le 14, 3, 0, (0, 0, 0, 0, 0, 0)), (4, .iload_n 0, 1, 0, (0, 0, 0, 0, 0, 0)), (5, .i2l, 1, 0, (0, 0, 0, 0, 0, 0)), (6, .iload_n 1, 1, 0, (0, 0, 0, 0, 0, 0)), (7, .i2l, 1, 0, (0, 0, 0, 0, 0, 0)), (8, .lmul, 1, 0, (0, 0, 0, 0, 0, 0)), (9, .iload_n 2, 1, 0, (0, 0, 0, 0, 0, 0)), (10, .i2l, 1, 0, (0, 0, 0, 0, 0, 0)), (11, .ldiv, 1, 0, (0, 0, 0, 0, 0, 0)), (12, .goto 4, 3, 0, (0, 0, 0, 0, 0, 0)), (15, .lconst 0, 1, 0, (0, 0, 0, 0, 0, 0)), (16, .lreturn, 1, 0, (0, 0, 0, 0, 0, 0))]
set_option maxRecDepth 100000 in
theorem rk118 : R118.all (rok 0 118 2 []) = true := by decide +kernel
set_option maxRecDepth 100000 in
theorem tab118 : TabOK 0 118 2 [] R118 := tab_ok (K := K118) rfl rfl (fun h => d118 h) rk118 (by decide +kernel)
set_option maxRecDepth 100000 in
theorem pc118 : cutpc [] R118 = true := by decide +kernel
set_option maxRecDepth 100000 in
theorem r7_scaled (p : PM) (hg : Gr 0 p) : ∀ (v0 : Int32) (v1 : Int32) (v2 : Int32), bg7_scaled p v0 v1 v2 → ZJ 0 118 0 [zI v0, zI v1, zI v2] [] p (hoL p (bv7_scaled p v0 v1 v2)) := by
  intro v0 v1 v2  H
  exact roL (n := 3000) (q := 0) (la := [zI v0, zI v1, zI v2]) (sa := []) (ks := []) (gs := []) (fnil) tab118 pc118 trivial hg H
theorem t7_scaled (p : PM) (hg : Gr 0 p) : ∀ (v0 : Int32) (v1 : Int32) (v2 : Int32), g7_scaled p v0 v1 v2 → ZJ 0 118 0 [zI v0, zI v1, zI v2] [] p (hoL p (v7_scaled p v0 v1 v2)) := r7_scaled p hg
def CC118 (F : PM → Int32 → Int32 → Int32 → Int64) (G : PM → Int32 → Int32 → Int32 → Prop) : Cal := (118, [0, 0, 0], 2, true, fun as p => (zL (F p (ai as 0) (ai as 1) (ai as 2)), p), fun as p => zsw (tc2 as [(0, 0), (0, 0), (0, 0)]) False (G p (ai as 0) (ai as 1) (ai as 2)))
set_option maxRecDepth 100000 in
theorem okr118 (F : PM → Int32 → Int32 → Int32 → Int64) (G : PM → Int32 → Int32 → Int32 → Prop) (h : ∀ (p : PM) (v0 : Int32) (v1 : Int32) (v2 : Int32), Gr 0 p → G p v0 v1 v2 → ZJ 0 118 0 [zI v0, zI v1, zI v2] [] p (hoL p (F p v0 v1 v2))) : CalOK 0 (CC118 F G) := cal_ok (m := 3) (by unfold mL; rw [mX_118]) (fun as p hg H => h p (ai as 0) (ai as 1) (ai as 2) hg H)
theorem ok118 : CalOK 0 (CC118 v7_scaled g7_scaled) := okr118 v7_scaled g7_scaled (fun p v0 v1 v2 hg H => t7_scaled p hg v0 v1 v2 H)
noncomputable def bv14_floorDiv_b2ac5 (p : PM) (F371 : PM → Int64 → Int64 → Int64) (v0 : Int64) (v2 : Int32) : Int64 :=
  (F371 p v0 (v2).toInt64)
noncomputable def v14_floorDiv_b2ac5 (p : PM) (v0 : Int64) (v2 : Int32) : Int64 := bv14_floorDiv_b2ac5 p v14_floorDiv_f86c9 v0 v2
noncomputable def bg14_floorDiv_b2ac5 (p : PM) (F371 : PM → Int64 → Int64 → Int64) (G371 : PM → Int64 → Int64 → Prop) (v0 : Int64) (v2 : Int32) : Prop :=
  (G371 p v0 (v2).toInt64) ∧ (
  True)
noncomputable def g14_floorDiv_b2ac5 (p : PM) (v0 : Int64) (v2 : Int32) : Prop := bg14_floorDiv_b2ac5 p v14_floorDiv_f86c9 g14_floorDiv_f86c9 v0 v2
def R370 : List Row := [(0, .lload_n 0, 1, 0, (0, 0, 0, 0, 0, 0)), (1, .iload_n 2, 1, 0, (0, 0, 0, 0, 0, 0)), (2, .i2l, 1, 0, (0, 0, 0, 0, 0, 0)), (3, .invokestatic 143, 3, 0, (0, 2, 0, 0, 0, 0)), (6, .lreturn, 1, 0, (0, 0, 0, 0, 0, 0))]
set_option maxRecDepth 100000 in
theorem rk370 : R370.all (rok 0 370 2 [(371, [1, 1])]) = true := by decide +kernel
set_option maxRecDepth 100000 in
theorem tab370 {F371 : PM → Int64 → Int64 → Int64} {G371 : PM → Int64 → Int64 → Prop} : TabOK 0 370 2 [CC371 F371 G371] R370 := tab_ok (K := K370) rfl rfl (fun h => d370 h) rk370 (by decide +kernel)
set_option maxRecDepth 100000 in
theorem pc370 : cutpc [] R370 = true := by decide +kernel
set_option maxRecDepth 100000 in
theorem r14_floorDiv_b2ac5 (p : PM) (hg : Gr 0 p) (F371 : PM → Int64 → Int64 → Int64) (G371 : PM → Int64 → Int64 → Prop) (o371 : CalOK 0 (CC371 F371 G371)) : ∀ (v0 : Int64) (v2 : Int32), bg14_floorDiv_b2ac5 p F371 G371 v0 v2 → ZJ 0 370 0 [zL v0, zJ, zI v2] [] p (hoL p (bv14_floorDiv_b2ac5 p F371 v0 v2)) := by
  intro v0 v2  H
  exact roL (n := 3000) (q := 0) (la := [zL v0, zJ, zI v2]) (sa := []) (ks := []) (gs := []) (fcons o371 (fnil)) tab370 pc370 trivial hg H
theorem t14_floorDiv_b2ac5 (p : PM) (hg : Gr 0 p) : ∀ (v0 : Int64) (v2 : Int32), g14_floorDiv_b2ac5 p v0 v2 → ZJ 0 370 0 [zL v0, zJ, zI v2] [] p (hoL p (v14_floorDiv_b2ac5 p v0 v2)) := r14_floorDiv_b2ac5 p hg v14_floorDiv_f86c9 g14_floorDiv_f86c9 ok371
def CC370 (F : PM → Int64 → Int32 → Int64) (G : PM → Int64 → Int32 → Prop) : Cal := (370, [1, 0], 2, true, fun as p => (zL (F p (al as 0) (ai as 1)), p), fun as p => zsw (tc2 as [(1, 0), (0, 0)]) False (G p (al as 0) (ai as 1)))
set_option maxRecDepth 100000 in
theorem okr370 (F : PM → Int64 → Int32 → Int64) (G : PM → Int64 → Int32 → Prop) (h : ∀ (p : PM) (v0 : Int64) (v2 : Int32), Gr 0 p → G p v0 v2 → ZJ 0 370 0 [zL v0, zJ, zI v2] [] p (hoL p (F p v0 v2))) : CalOK 0 (CC370 F G) := cal_ok (m := 3) (by unfold mL; rw [mX_370]) (fun as p hg H => h p (al as 0) (ai as 1) hg H)
theorem ok370 : CalOK 0 (CC370 v14_floorDiv_b2ac5 g14_floorDiv_b2ac5) := okr370 v14_floorDiv_b2ac5 g14_floorDiv_b2ac5 (fun p v0 v2 hg H => t14_floorDiv_b2ac5 p hg v0 v2 H)
noncomputable def bv7_convertPositions_14 (F2 : PM → Nat → Int32 → Int32) (F4 : PM → Nat → Int32 → Int32 → PM) (F105 : PM → Int32 → Nat) (F118 : PM → Int32 → Int32 → Int32 → Int64) (F370 : PM → Int64 → Int32 → Int64) (kv14 : PM → Int32 → Int32 → Int32 → Int32 → Nat → Int64 → Int32 → PM) (p : PM) (v1 : Int32) (v2 : Int32) (v3 : Int32) (v4 : Int32) (v5 : Nat) (v6 : Int64) (v8 : Int32) : PM :=
  if v8 < (cn 8) then (
    if 0 < v3 then (
      let x3 : Int32 := (F2 p (F105 p v8) v1)
      let x4 : Int64 := (((x3).toInt64 * (v2).toInt64) - ((F118 p x3 v2 v3) * (v3).toInt64))
      let x5 : Int64 := (F370 p (x4 * (v4).toInt64) v3)
      let p6 : PM := F4 p (F105 p v8) v1 ((F118 p x3 v2 v3)).toInt32
      let p7 : PM := pJ p6 0 (F105 p v8) 4 ((p6.2.1 0 (F105 p v8) 4) + x5)
      let p8 : PM := pJ p7 0 v5 4 ((p7.2.1 0 v5 4) - x5)
      let x9 : Int64 := (v6 + (F118 p x3 v2 v3))
      kv14 p8 v1 v2 v3 v4 v5 x9 (v8 + (cn 1)))
    else (
      let p2 : PM := F4 p v5 v1 ((-v6)).toInt32
      p2))
  else (
    let p1 : PM := F4 p v5 v1 ((-v6)).toInt32
    p1)
noncomputable def v7_convertPositions_14 (n : Nat) : PM → Int32 → Int32 → Int32 → Int32 → Nat → Int64 → Int32 → PM := Nat.rec (motive := fun _ => PM → Int32 → Int32 → Int32 → Int32 → Nat → Int64 → Int32 → PM) (fun p _ _ _ _ _ _ _ => p) (fun _ ih => bv7_convertPositions_14 v0_holds v0_put v7_accountAt v7_scaled v14_floorDiv_b2ac5 ih) n
theorem ev7_convertPositions_14 (n : Nat) (p : PM) (v1 : Int32) (v2 : Int32) (v3 : Int32) (v4 : Int32) (v5 : Nat) (v6 : Int64) (v8 : Int32) : v7_convertPositions_14 (n + 1) p v1 v2 v3 v4 v5 v6 v8 = bv7_convertPositions_14 v0_holds v0_put v7_accountAt v7_scaled v14_floorDiv_b2ac5 (v7_convertPositions_14 n) p v1 v2 v3 v4 v5 v6 v8 := rfl
noncomputable def bg7_convertPositions_14 (F2 : PM → Nat → Int32 → Int32) (G2 : PM → Nat → Int32 → Prop) (F4 : PM → Nat → Int32 → Int32 → PM) (G4 : PM → Nat → Int32 → Int32 → Prop) (F105 : PM → Int32 → Nat) (G105 : PM → Int32 → Prop) (F118 : PM → Int32 → Int32 → Int32 → Int64) (G118 : PM → Int32 → Int32 → Int32 → Prop) (F370 : PM → Int64 → Int32 → Int64) (G370 : PM → Int64 → Int32 → Prop) (kg14 : PM → Int32 → Int32 → Int32 → Int32 → Nat → Int64 → Int32 → Prop) (p : PM) (v1 : Int32) (v2 : Int32) (v3 : Int32) (v4 : Int32) (v5 : Nat) (v6 : Int64) (v8 : Int32) : Prop :=
  if v8 < (cn 8) then (
    if 0 < v3 then (
      (G105 p v8) ∧ (
      (¬ (F105 p v8) = 0) ∧ (
      (G2 p (F105 p v8) v1) ∧ (
      let x3 : Int32 := (F2 p (F105 p v8) v1)
      (G118 p x3 v2 v3) ∧ (
      let x4 : Int64 := (((x3).toInt64 * (v2).toInt64) - ((F118 p x3 v2 v3) * (v3).toInt64))
      (G370 p (x4 * (v4).toInt64) v3) ∧ (
      let x5 : Int64 := (F370 p (x4 * (v4).toInt64) v3)
      (¬ (F105 p v8) = 0) ∧ (
      (G4 p (F105 p v8) v1 ((F118 p x3 v2 v3)).toInt32) ∧ (
      let p6 : PM := F4 p (F105 p v8) v1 ((F118 p x3 v2 v3)).toInt32
      (¬ (F105 p v8) = 0) ∧ (
      (¬ (F105 p v8) = 0) ∧ (
      let p7 : PM := pJ p6 0 (F105 p v8) 4 ((p6.2.1 0 (F105 p v8) 4) + x5)
      (¬ v5 = 0) ∧ (
      (¬ v5 = 0) ∧ (
      let p8 : PM := pJ p7 0 v5 4 ((p7.2.1 0 v5 4) - x5)
      let x9 : Int64 := (v6 + (F118 p x3 v2 v3))
      kg14 p8 v1 v2 v3 v4 v5 x9 (v8 + (cn 1))))))))))))))
    else (
      (¬ v5 = 0) ∧ (
      (G4 p v5 v1 ((-v6)).toInt32) ∧ (
      let p2 : PM := F4 p v5 v1 ((-v6)).toInt32
      True))))
  else (
    (¬ v5 = 0) ∧ (
    (G4 p v5 v1 ((-v6)).toInt32) ∧ (
    let p1 : PM := F4 p v5 v1 ((-v6)).toInt32
    True)))
noncomputable def g7_convertPositions_14 (n : Nat) : PM → Int32 → Int32 → Int32 → Int32 → Nat → Int64 → Int32 → Prop := Nat.rec (motive := fun _ => PM → Int32 → Int32 → Int32 → Int32 → Nat → Int64 → Int32 → Prop) (fun _ _ _ _ _ _ _ _ => False) (fun _ ih => bg7_convertPositions_14 v0_holds g0_holds v0_put g0_put v7_accountAt g7_accountAt v7_scaled g7_scaled v14_floorDiv_b2ac5 g14_floorDiv_b2ac5 ih) n
theorem eg7_convertPositions_14 (n : Nat) (p : PM) (v1 : Int32) (v2 : Int32) (v3 : Int32) (v4 : Int32) (v5 : Nat) (v6 : Int64) (v8 : Int32) : g7_convertPositions_14 (n + 1) p v1 v2 v3 v4 v5 v6 v8 = bg7_convertPositions_14 v0_holds g0_holds v0_put g0_put v7_accountAt g7_accountAt v7_scaled g7_scaled v14_floorDiv_b2ac5 g14_floorDiv_b2ac5 (g7_convertPositions_14 n) p v1 v2 v3 v4 v5 v6 v8 := rfl
noncomputable def bv7_convertPositions (F105 : PM → Int32 → Nat) (kv14 : PM → Int32 → Int32 → Int32 → Int32 → Nat → Int64 → Int32 → PM) (p : PM) (v1 : Int32) (v2 : Int32) (v3 : Int32) (v4 : Int32) : PM :=
  kv14 p v1 v2 v3 v4 (F105 p (cn 8)) (cl 0) (cn 0)
noncomputable def v7_convertPositions (p : PM) (v1 : Int32) (v2 : Int32) (v3 : Int32) (v4 : Int32) : PM := bv7_convertPositions v7_accountAt (v7_convertPositions_14 FU) p v1 v2 v3 v4
noncomputable def bg7_convertPositions (F105 : PM → Int32 → Nat) (G105 : PM → Int32 → Prop) (kg14 : PM → Int32 → Int32 → Int32 → Int32 → Nat → Int64 → Int32 → Prop) (p : PM) (v1 : Int32) (v2 : Int32) (v3 : Int32) (v4 : Int32) : Prop :=
  (G105 p (cn 8)) ∧ (
  kg14 p v1 v2 v3 v4 (F105 p (cn 8)) (cl 0) (cn 0))
noncomputable def g7_convertPositions (p : PM) (v1 : Int32) (v2 : Int32) (v3 : Int32) (v4 : Int32) : Prop := bg7_convertPositions v7_accountAt g7_accountAt (g7_convertPositions_14 FU) p v1 v2 v3 v4
def R119 : List Row := [(0, .aload_n 0, 1, 0, (0, 0, 0, 0, 0, 0)), (1, .bipush 8, 2, 0, (0, 0, 0, 0, 0, 8)), (3, .invokevirtual 95, 3, 0, (0, 2, 0, 0, 1, 0)), (6, .astore 5, 2, 0, (0, 0, 0, 0, 0, 0)), (8, .lconst 0, 1, 0, (0, 0, 0, 0, 0, 0)), (9, .lstore 6, 2, 0, (0, 0, 0, 0, 0, 0)), (11, .iconst 0, 1, 0, (0, 0, 0, 0, 0, 0)), (12, .istore 8, 2, 0, (0, 0, 0, 0, 0, 0)), (14, .iload 8, 2, 1, (0, 0, 0, 0, 0, 0)), (16, .bipush 8, 2, 0, (0, 0, 0, 0, 0, 8)), (18, .if_icmp .ge 104, 3, 0, (0, 0, 0, 0, 0, 0)), (21, .iload_n 3, 1, 0, (0, 0, 0, 0, 0, 0)), (22, .ifCond .le 100, 3, 0, (0, 0, 0, 0, 0, 0)), (25, .aload_n 0, 1, 0, (0, 0, 0, 0, 0, 0)), (26, .iload 8, 2, 0, (0, 0, 0, 0, 0, 0)), (28, .invokevirtual 95, 3, 0, (0, 2, 0, 0, 1, 0)), (31, .astore 9, 2, 0, (0, 0, 0, 0, 0, 0)), (33, .aload 9, 2, 0, (0, 0, 0, 0, 0, 0)), (35, .iload_n 1, 1, 0, (0, 0, 0, 0, 0, 0)), (36, .invokevirtual 111, 3, 0, (2, 2, 0, 0, 2, 0)), (39, .istore 10, 2, 0, (0, 0, 0, 0, 0, 0)), (41, .iload 10, 2, 0, (0, 0, 0, 0, 0, 0)), (43, .iload_n 2, 1, 0, (0, 0, 0, 0, 0, 0)), (44, .iload_n 3, 1, 0, (0, 0, 0, 0, 0, 0)), (45, .invokestatic 131, 3, 0, (3, 3, 0, 0, 0, 0)), (48, .lstore 11, 2, 0, (0, 0, 0, 0, 0, 0)), (50, .iload 10, 2, 0, (0, 0, 0, 0, 0, 0)), (52, .i2l, 1, 0, (0, 0, 0, 0, 0, 0)), (53, .iload_n 2, 1, 0, (0, 0, 0, 0, 0, 0)), (54, .i2l, 1, 0, (0, 0, 0, 0, 0, 0)), (55, .lmul, 1, 0, (0, 0, 0, 0, 0, 0)), (56, .lload 11, 2, 0, (0, 0, 0, 0, 0, 0)), (58, .iload_n 3, 1, 0, (0, 0, 0, 0, 0, 0)), (59, .i2l, 1, 0, (0, 0, 0, 0, 0, 0)), (60, .lmul, 1, 0, (0, 0, 0, 0, 0, 0)), (61, .lsub, 1, 0, (0, 0, 0, 0, 0, 0)), (62, .lstore 13, 2, 0, (0, 0, 0, 0, 0, 0)), (64, .lload 13, 2, 0, (0, 0, 0, 0, 0, 0)), (66, .iload 4, 2, 0, (0, 0, 0, 0, 0, 0)), (68, .i2l, 1, 0, (0, 0, 0, 0, 0, 0)), (69, .lmul, 1, 0, (0, 0, 0, 0, 0, 0)), (70, .iload_n 3, 1, 0, (0, 0, 0, 0, 0, 0)), (71, .invokestatic 141, 3, 0, (4, 2, 0, 0, 0, 0)), (74, .lstore 15, 2, 0, (0, 0, 0, 0, 0, 0)), (76, .aload 9, 2, 0, (0, 0, 0, 0, 0, 0)), (78, .iload_n 1, 1, 0, (0, 0, 0, 0, 0, 0)), (79, .lload 11, 2, 0, (0, 0, 0, 0, 0, 0)), (81, .l2i, 1, 0, (0, 0, 0, 0, 0, 0)), (82, .invokevirtual 119, 3, 0, (1, 3, 0, 0, 2, 0)), (85, .aload 9, 2, 0, (0, 0, 0, 0, 0, 0)), (87, .dup, 1, 0, (0, 0, 0, 0, 0, 0)), (88, .getfield 91, 3, 0, (0, 4, 2, 0, 0, 0)), (91, .lload 15, 2, 0, (0, 0, 0, 0, 0, 0)), (93, .ladd, 1, 0, (0, 0, 0, 0, 0, 0)), (94, .putfield 91, 3, 0, (0, 4, 2, 0, 0, 0)), (97, .aload 5, 2, 0, (0, 0, 0, 0, 0, 0)), (99, .dup, 1, 0, (0, 0, 0, 0, 0, 0)), (100, .getfield 91, 3, 0, (0, 4, 2, 0, 0, 0)), (103, .lload 15, 2, 0, (0, 0, 0, 0, 0, 0)), (105, .lsub, 1, 0, (0, 0, 0, 0, 0, 0)), (106, .putfield 91, 3, 0, (0, 4, 2, 0, 0, 0)), (109, .lload 6, 2, 0, (0, 0, 0, 0, 0, 0)), (111, .lload 11, 2, 0, (0, 0, 0, 0, 0, 0)), (113, .ladd, 1, 0, (0, 0, 0, 0, 0, 0)), (114, .lstore 6, 2, 0, (0, 0, 0, 0, 0, 0)), (116, .iinc 8 1, 3, 0, (0, 0, 0, 0, 0, 1)), (119, .goto (-105), 3, 0, (0, 0, 0, 0, 0, 0)), (122, .aload 5, 2, 0, (0, 0, 0, 0, 0, 0)), (124, .iload_n 1, 1, 0, (0, 0, 0, 0, 0, 0)), (125, .lload 6, 2, 0, (0, 0, 0, 0, 0, 0)), (127, .lneg, 1, 0, (0, 0, 0, 0, 0, 0)), (128, .l2i, 1, 0, (0, 0, 0, 0, 0, 0)), (129, .invokevirtual 119, 3, 0, (1, 3, 0, 0, 2, 0)), (132, .return_, 1, 0, (0, 0, 0, 0, 0, 0))]
set_option maxRecDepth 100000 in
theorem rk119 : R119.all (rok 0 119 0 [(105, [10, 0]), (4, [3, 0, 0]), (2, [3, 0]), (118, [0, 0, 0]), (370, [1, 0])]) = true := by decide +kernel
set_option maxRecDepth 100000 in
theorem tab119 {F105 : PM → Int32 → Nat} {G105 : PM → Int32 → Prop} {F4 : PM → Nat → Int32 → Int32 → PM} {G4 : PM → Nat → Int32 → Int32 → Prop} {F2 : PM → Nat → Int32 → Int32} {G2 : PM → Nat → Int32 → Prop} {F118 : PM → Int32 → Int32 → Int32 → Int64} {G118 : PM → Int32 → Int32 → Int32 → Prop} {F370 : PM → Int64 → Int32 → Int64} {G370 : PM → Int64 → Int32 → Prop} : TabOK 0 119 0 [CC105 F105 G105, CC4 F4 G4, CC2 F2 G2, CC118 F118 G118, CC370 F370 G370] R119 := tab_ok (K := K119) rfl rfl (fun h => d119 h) rk119 (by decide +kernel)
set_option maxRecDepth 100000 in
theorem pc119 : cutpc [14] R119 = true := by decide +kernel
set_option maxRecDepth 100000 in
theorem r7_convertPositions_14 (F105 : PM → Int32 → Nat) (G105 : PM → Int32 → Prop) (o105 : CalOK 0 (CC105 F105 G105)) (F4 : PM → Nat → Int32 → Int32 → PM) (G4 : PM → Nat → Int32 → Int32 → Prop) (o4 : CalOK 0 (CC4 F4 G4)) (F2 : PM → Nat → Int32 → Int32) (G2 : PM → Nat → Int32 → Prop) (o2 : CalOK 0 (CC2 F2 G2)) (F118 : PM → Int32 → Int32 → Int32 → Int64) (G118 : PM → Int32 → Int32 → Int32 → Prop) (o118 : CalOK 0 (CC118 F118 G118)) (F370 : PM → Int64 → Int32 → Int64) (G370 : PM → Int64 → Int32 → Prop) (o370 : CalOK 0 (CC370 F370 G370)) (kv14 : PM → Int32 → Int32 → Int32 → Int32 → Nat → Int64 → Int32 → PM) (kg14 : PM → Int32 → Int32 → Int32 → Int32 → Nat → Int64 → Int32 → Prop) (hk14 : ∀ (p : PM) (v1 : Int32) (v2 : Int32) (v3 : Int32) (v4 : Int32) (v5 : Nat) (v6 : Int64) (v8 : Int32) (d7 d9 d10 d11 d12 d13 d14 d15 d16 : ZV), Gr 0 p → kg14 p v1 v2 v3 v4 v5 v6 v8 → ZJ 0 119 14 [zR 7 1, zI v1, zI v2, zI v3, zI v4, zR 0 v5, zL v6, d7, zI v8, d9, d10, d11, d12, d13, d14, d15, d16] [] p (hwV (kv14 p v1 v2 v3 v4 v5 v6 v8))) : ∀ (p : PM) (v1 : Int32) (v2 : Int32) (v3 : Int32) (v4 : Int32) (v5 : Nat) (v6 : Int64) (v8 : Int32) (d7 d9 d10 d11 d12 d13 d14 d15 d16 : ZV), Gr 0 p → bg7_convertPositions_14 F2 G2 F4 G4 F105 G105 F118 G118 F370 G370 kg14 p v1 v2 v3 v4 v5 v6 v8 → ZJ 0 119 14 [zR 7 1, zI v1, zI v2, zI v3, zI v4, zR 0 v5, zL v6, d7, zI v8, d9, d10, d11, d12, d13, d14, d15, d16] [] p (hwV (bv7_convertPositions_14 F2 F4 F105 F118 F370 kv14 p v1 v2 v3 v4 v5 v6 v8)) := by
  intro p v1 v2 v3 v4 v5 v6 v8 d7 d9 d10 d11 d12 d13 d14 d15 d16 hg H
  exact rwV (n := 3000) (q := 14) (la := [zR 7 1, zI v1, zI v2, zI v3, zI v4, zR 0 v5, zL v6, d7, zI v8, d9, d10, d11, d12, d13, d14, d15, d16]) (sa := []) (ks := [fun la sa s => kv14 s (ai la 1) (ai la 2) (ai la 3) (ai la 4) (ar la 5) (al la 6) (ai la 8)]) (gs := [fun la sa s => zsw (tc2 la [(107, 1), (0, 0), (0, 0), (0, 0), (0, 0), (4, 0), (1, 0), (2, 0), (0, 0), (2, 0), (2, 0), (2, 0), (2, 0), (2, 0), (2, 0), (2, 0), (2, 0)] && tc2 sa []) False (kg14 s (ai la 1) (ai la 2) (ai la 3) (ai la 4) (ar la 5) (al la 6) (ai la 8))]) (fcons o105 (fcons o4 (fcons o2 (fcons o118 (fcons o370 (fnil)))))) tab119 pc119 ⟨fun la sa s hg H => zcut H fun H => hk14 s (ai la 1) (ai la 2) (ai la 3) (ai la 4) (ar la 5) (al la 6) (ai la 8) (zld la 7) (zld la 9) (zld la 10) (zld la 11) (zld la 12) (zld la 13) (zld la 14) (zld la 15) (zld la 16) hg H, trivial⟩ hg H
theorem t7_convertPositions_14 : ∀ (n : Nat), ∀ (p : PM) (v1 : Int32) (v2 : Int32) (v3 : Int32) (v4 : Int32) (v5 : Nat) (v6 : Int64) (v8 : Int32) (d7 d9 d10 d11 d12 d13 d14 d15 d16 : ZV), Gr 0 p → g7_convertPositions_14 n p v1 v2 v3 v4 v5 v6 v8 → ZJ 0 119 14 [zR 7 1, zI v1, zI v2, zI v3, zI v4, zR 0 v5, zL v6, d7, zI v8, d9, d10, d11, d12, d13, d14, d15, d16] [] p (hwV (v7_convertPositions_14 n p v1 v2 v3 v4 v5 v6 v8)) := by
  intro n
  induction n with
  | zero =>
    intro p v1 v2 v3 v4 v5 v6 v8 d7 d9 d10 d11 d12 d13 d14 d15 d16 hg H
    exact H.elim
  | succ n ih => exact r7_convertPositions_14 v7_accountAt g7_accountAt ok105 v0_put g0_put ok4 v0_holds g0_holds ok2 v7_scaled g7_scaled ok118 v14_floorDiv_b2ac5 g14_floorDiv_b2ac5 ok370 (v7_convertPositions_14 n) (g7_convertPositions_14 n) ih
set_option maxRecDepth 100000 in
theorem r7_convertPositions (F105 : PM → Int32 → Nat) (G105 : PM → Int32 → Prop) (o105 : CalOK 0 (CC105 F105 G105)) (F4 : PM → Nat → Int32 → Int32 → PM) (G4 : PM → Nat → Int32 → Int32 → Prop) (o4 : CalOK 0 (CC4 F4 G4)) (F2 : PM → Nat → Int32 → Int32) (G2 : PM → Nat → Int32 → Prop) (o2 : CalOK 0 (CC2 F2 G2)) (F118 : PM → Int32 → Int32 → Int32 → Int64) (G118 : PM → Int32 → Int32 → Int32 → Prop) (o118 : CalOK 0 (CC118 F118 G118)) (F370 : PM → Int64 → Int32 → Int64) (G370 : PM → Int64 → Int32 → Prop) (o370 : CalOK 0 (CC370 F370 G370)) (kv14 : PM → Int32 → Int32 → Int32 → Int32 → Nat → Int64 → Int32 → PM) (kg14 : PM → Int32 → Int32 → Int32 → Int32 → Nat → Int64 → Int32 → Prop) (hk14 : ∀ (p : PM) (v1 : Int32) (v2 : Int32) (v3 : Int32) (v4 : Int32) (v5 : Nat) (v6 : Int64) (v8 : Int32) (d7 d9 d10 d11 d12 d13 d14 d15 d16 : ZV), Gr 0 p → kg14 p v1 v2 v3 v4 v5 v6 v8 → ZJ 0 119 14 [zR 7 1, zI v1, zI v2, zI v3, zI v4, zR 0 v5, zL v6, d7, zI v8, d9, d10, d11, d12, d13, d14, d15, d16] [] p (hwV (kv14 p v1 v2 v3 v4 v5 v6 v8))) : ∀ (p : PM) (v1 : Int32) (v2 : Int32) (v3 : Int32) (v4 : Int32), Gr 0 p → bg7_convertPositions F105 G105 kg14 p v1 v2 v3 v4 → ZJ 0 119 0 [zR 7 1, zI v1, zI v2, zI v3, zI v4, zJ, zJ, zJ, zJ, zJ, zJ, zJ, zJ, zJ, zJ, zJ, zJ] [] p (hwV (bv7_convertPositions F105 kv14 p v1 v2 v3 v4)) := by
  intro p v1 v2 v3 v4  hg H
  exact rwV (n := 3000) (q := 0) (la := [zR 7 1, zI v1, zI v2, zI v3, zI v4, zJ, zJ, zJ, zJ, zJ, zJ, zJ, zJ, zJ, zJ, zJ, zJ]) (sa := []) (ks := [fun la sa s => kv14 s (ai la 1) (ai la 2) (ai la 3) (ai la 4) (ar la 5) (al la 6) (ai la 8)]) (gs := [fun la sa s => zsw (tc2 la [(107, 1), (0, 0), (0, 0), (0, 0), (0, 0), (4, 0), (1, 0), (2, 0), (0, 0), (2, 0), (2, 0), (2, 0), (2, 0), (2, 0), (2, 0), (2, 0), (2, 0)] && tc2 sa []) False (kg14 s (ai la 1) (ai la 2) (ai la 3) (ai la 4) (ar la 5) (al la 6) (ai la 8))]) (fcons o105 (fcons o4 (fcons o2 (fcons o118 (fcons o370 (fnil)))))) tab119 pc119 ⟨fun la sa s hg H => zcut H fun H => hk14 s (ai la 1) (ai la 2) (ai la 3) (ai la 4) (ar la 5) (al la 6) (ai la 8) (zld la 7) (zld la 9) (zld la 10) (zld la 11) (zld la 12) (zld la 13) (zld la 14) (zld la 15) (zld la 16) hg H, trivial⟩ hg H
theorem t7_convertPositions : ∀ (p : PM) (v1 : Int32) (v2 : Int32) (v3 : Int32) (v4 : Int32), Gr 0 p → g7_convertPositions p v1 v2 v3 v4 → ZJ 0 119 0 [zR 7 1, zI v1, zI v2, zI v3, zI v4, zJ, zJ, zJ, zJ, zJ, zJ, zJ, zJ, zJ, zJ, zJ, zJ] [] p (hwV (v7_convertPositions p v1 v2 v3 v4)) := r7_convertPositions v7_accountAt g7_accountAt ok105 v0_put g0_put ok4 v0_holds g0_holds ok2 v7_scaled g7_scaled ok118 v14_floorDiv_b2ac5 g14_floorDiv_b2ac5 ok370 (v7_convertPositions_14 FU) (g7_convertPositions_14 FU) (t7_convertPositions_14 FU)
def CC119 (F : PM → Int32 → Int32 → Int32 → Int32 → PM) (G : PM → Int32 → Int32 → Int32 → Int32 → Prop) : Cal := (119, [10, 0, 0, 0, 0], 0, false, fun as p => (zJ, (F p (ai as 1) (ai as 2) (ai as 3) (ai as 4))), fun as p => zsw (tc2 as [(107, 1), (0, 0), (0, 0), (0, 0), (0, 0)]) False (G p (ai as 1) (ai as 2) (ai as 3) (ai as 4)))
set_option maxRecDepth 100000 in
theorem okr119 (F : PM → Int32 → Int32 → Int32 → Int32 → PM) (G : PM → Int32 → Int32 → Int32 → Int32 → Prop) (h : ∀ (p : PM) (v1 : Int32) (v2 : Int32) (v3 : Int32) (v4 : Int32), Gr 0 p → G p v1 v2 v3 v4 → ZJ 0 119 0 [zR 7 1, zI v1, zI v2, zI v3, zI v4, zJ, zJ, zJ, zJ, zJ, zJ, zJ, zJ, zJ, zJ, zJ, zJ] [] p (hwV (F p v1 v2 v3 v4))) : CalOK 0 (CC119 F G) := cal_ok (m := 17) (by unfold mL; rw [mX_119]) (fun as p hg H => h p (ai as 1) (ai as 2) (ai as 3) (ai as 4) hg H)
theorem ok119 : CalOK 0 (CC119 v7_convertPositions g7_convertPositions) := okr119 v7_convertPositions g7_convertPositions t7_convertPositions
noncomputable def bv5_convertContract (F69 : PM → Int32 → Int32 → Int32 → Int32) (F74 : PM → Int32 → Nat) (F88 : PM → Int32 → Int32 × PM) (F119 : PM → Int32 → Int32 → Int32 → Int32 → PM) (F120 : PM → Int32 → PM) (p : PM) (v1 : Int32) (v2 : Int32) (v3 : Int32) : Int32 × PM :=
  let r1 : Int32 × PM := F88 p v1
  let p2 : PM := F120 r1.2 v1
  let p3 : PM := pI p2 1 (F74 p2 v1) 3 (F69 p2 (p2.1 1 (F74 p2 v1) 3) v2 v3)
  let p4 : PM := pI p3 1 (F74 p2 v1) 4 (F69 p3 (p3.1 1 (F74 p2 v1) 4) v2 v3)
  let p5 : PM := F119 p4 v1 v2 v3 (p4.1 1 (F74 p2 v1) 3)
  (r1.1, p5)
noncomputable def v5_convertContract (p : PM) (v1 : Int32) (v2 : Int32) (v3 : Int32) : Int32 × PM := bv5_convertContract v5_convertPrice v6_bookAt v6_withdrawContract v7_convertPositions v7_forget p v1 v2 v3
noncomputable def bg5_convertContract (F69 : PM → Int32 → Int32 → Int32 → Int32) (G69 : PM → Int32 → Int32 → Int32 → Prop) (F74 : PM → Int32 → Nat) (G74 : PM → Int32 → Prop) (F88 : PM → Int32 → Int32 × PM) (G88 : PM → Int32 → Prop) (F119 : PM → Int32 → Int32 → Int32 → Int32 → PM) (G119 : PM → Int32 → Int32 → Int32 → Int32 → Prop) (F120 : PM → Int32 → PM) (G120 : PM → Int32 → Prop) (p : PM) (v1 : Int32) (v2 : Int32) (v3 : Int32) : Prop :=
  (G88 p v1) ∧ (
  let r1 : Int32 × PM := F88 p v1
  (G120 r1.2 v1) ∧ (
  let p2 : PM := F120 r1.2 v1
  (G74 p2 v1) ∧ (
  (¬ (F74 p2 v1) = 0) ∧ (
  (G69 p2 (p2.1 1 (F74 p2 v1) 3) v2 v3) ∧ (
  (¬ (F74 p2 v1) = 0) ∧ (
  let p3 : PM := pI p2 1 (F74 p2 v1) 3 (F69 p2 (p2.1 1 (F74 p2 v1) 3) v2 v3)
  (¬ (F74 p2 v1) = 0) ∧ (
  (G69 p3 (p3.1 1 (F74 p2 v1) 4) v2 v3) ∧ (
  (¬ (F74 p2 v1) = 0) ∧ (
  let p4 : PM := pI p3 1 (F74 p2 v1) 4 (F69 p3 (p3.1 1 (F74 p2 v1) 4) v2 v3)
  (¬ (F74 p2 v1) = 0) ∧ (
  (G119 p4 v1 v2 v3 (p4.1 1 (F74 p2 v1) 3)) ∧ (
  let p5 : PM := F119 p4 v1 v2 v3 (p4.1 1 (F74 p2 v1) 3)
  True)))))))))))
noncomputable def g5_convertContract (p : PM) (v1 : Int32) (v2 : Int32) (v3 : Int32) : Prop := bg5_convertContract v5_convertPrice g5_convertPrice v6_bookAt g6_bookAt v6_withdrawContract g6_withdrawContract v7_convertPositions g7_convertPositions v7_forget g7_forget p v1 v2 v3
def R68 : List Row := [(0, .aload_n 0, 1, 0, (0, 0, 0, 0, 0, 0)), (1, .getfield 34, 3, 0, (5, 0, 9, 2, 1, 0)), (4, .iload_n 1, 1, 0, (0, 0, 0, 0, 0, 0)), (5, .invokevirtual 192, 3, 0, (0, 2, 0, 0, 1, 0)), (8, .istore 4, 2, 0, (0, 0, 0, 0, 0, 0)), (10, .aload_n 0, 1, 0, (0, 0, 0, 0, 0, 0)), (11, .getfield 19, 3, 0, (5, 1, 10, 2, 1, 0)), (14, .iload_n 1, 1, 0, (0, 0, 0, 0, 0, 0)), (15, .invokevirtual 195, 3, 0, (1, 2, 0, 0, 1, 0)), (18, .aload_n 0, 1, 0, (0, 0, 0, 0, 0, 0)), (19, .getfield 34, 3, 0, (5, 0, 9, 2, 1, 0)), (22, .iload_n 1, 1, 0, (0, 0, 0, 0, 0, 0)), (23, .invokevirtual 87, 3, 0, (2, 2, 0, 0, 1, 0)), (26, .astore 5, 2, 0, (0, 0, 0, 0, 0, 0)), (28, .aload 5, 2, 0, (0, 0, 0, 0, 0, 0)), (30, .aload 5, 2, 0, (0, 0, 0, 0, 0, 0)), (32, .getfield 198, 3, 0, (1, 3, 0, 0, 0, 0)), (35, .iload_n 2, 1, 0, (0, 0, 0, 0, 0, 0)), (36, .iload_n 3, 1, 0, (0, 0, 0, 0, 0, 0)), (37, .invokestatic 201, 3, 0, (3, 3, 0, 0, 0, 0)), (40, .putfield 198, 3, 0, (1, 3, 0, 0, 0, 0)), (43, .aload 5, 2, 0, (0, 0, 0, 0, 0, 0)), (45, .aload 5, 2, 0, (0, 0, 0, 0, 0, 0)), (47, .getfield 205, 3, 0, (1, 4, 0, 0, 0, 0)), (50, .iload_n 2, 1, 0, (0, 0, 0, 0, 0, 0)), (51, .iload_n 3, 1, 0, (0, 0, 0, 0, 0, 0)), (52, .invokestatic 201, 3, 0, (3, 3, 0, 0, 0, 0)), (55, .putfield 205, 3, 0, (1, 4, 0, 0, 0, 0)), (58, .aload_n 0, 1, 0, (0, 0, 0, 0, 0, 0)), (59, .getfield 19, 3, 0, (5, 1, 10, 2, 1, 0)), (62, .iload_n 1, 1, 0, (0, 0, 0, 0, 0, 0)), (63, .iload_n 2, 1, 0, (0, 0, 0, 0, 0, 0)), (64, .iload_n 3, 1, 0, (0, 0, 0, 0, 0, 0)), (65, .aload 5, 2, 0, (0, 0, 0, 0, 0, 0)), (67, .getfield 198, 3, 0, (1, 3, 0, 0, 0, 0)), (70, .invokevirtual 208, 3, 0, (4, 5, 0, 0, 1, 0)), (73, .iload 4, 2, 0, (0, 0, 0, 0, 0, 0)), (75, .ireturn, 1, 0, (0, 0, 0, 0, 0, 0))]
set_option maxRecDepth 100000 in
theorem rk68 : R68.all (rok 0 68 1 [(88, [9, 0]), (120, [10, 0]), (74, [9, 0]), (69, [0, 0, 0]), (119, [10, 0, 0, 0, 0])]) = true := by decide +kernel
set_option maxRecDepth 100000 in
theorem tab68 {F88 : PM → Int32 → Int32 × PM} {G88 : PM → Int32 → Prop} {F120 : PM → Int32 → PM} {G120 : PM → Int32 → Prop} {F74 : PM → Int32 → Nat} {G74 : PM → Int32 → Prop} {F69 : PM → Int32 → Int32 → Int32 → Int32} {G69 : PM → Int32 → Int32 → Int32 → Prop} {F119 : PM → Int32 → Int32 → Int32 → Int32 → PM} {G119 : PM → Int32 → Int32 → Int32 → Int32 → Prop} : TabOK 0 68 1 [CC88 F88 G88, CC120 F120 G120, CC74 F74 G74, CC69 F69 G69, CC119 F119 G119] R68 := tab_ok (K := K68) rfl rfl (fun h => d68 h) rk68 (by decide +kernel)
set_option maxRecDepth 100000 in
theorem pc68 : cutpc [] R68 = true := by decide +kernel
set_option maxRecDepth 100000 in
theorem r5_convertContract (F88 : PM → Int32 → Int32 × PM) (G88 : PM → Int32 → Prop) (o88 : CalOK 0 (CC88 F88 G88)) (F120 : PM → Int32 → PM) (G120 : PM → Int32 → Prop) (o120 : CalOK 0 (CC120 F120 G120)) (F74 : PM → Int32 → Nat) (G74 : PM → Int32 → Prop) (o74 : CalOK 0 (CC74 F74 G74)) (F69 : PM → Int32 → Int32 → Int32 → Int32) (G69 : PM → Int32 → Int32 → Int32 → Prop) (o69 : CalOK 0 (CC69 F69 G69)) (F119 : PM → Int32 → Int32 → Int32 → Int32 → PM) (G119 : PM → Int32 → Int32 → Int32 → Int32 → Prop) (o119 : CalOK 0 (CC119 F119 G119)) : ∀ (p : PM) (v1 : Int32) (v2 : Int32) (v3 : Int32), Gr 0 p → bg5_convertContract F69 G69 F74 G74 F88 G88 F119 G119 F120 G120 p v1 v2 v3 → ZJ 0 68 0 [zR 5 1, zI v1, zI v2, zI v3, zJ, zJ] [] p (hwI (bv5_convertContract F69 F74 F88 F119 F120 p v1 v2 v3)) := by
  intro p v1 v2 v3  hg H
  exact rwI (n := 3000) (q := 0) (la := [zR 5 1, zI v1, zI v2, zI v3, zJ, zJ]) (sa := []) (ks := []) (gs := []) (fcons o88 (fcons o120 (fcons o74 (fcons o69 (fcons o119 (fnil)))))) tab68 pc68 trivial hg H
theorem t5_convertContract : ∀ (p : PM) (v1 : Int32) (v2 : Int32) (v3 : Int32), Gr 0 p → g5_convertContract p v1 v2 v3 → ZJ 0 68 0 [zR 5 1, zI v1, zI v2, zI v3, zJ, zJ] [] p (hwI (v5_convertContract p v1 v2 v3)) := r5_convertContract v6_withdrawContract g6_withdrawContract ok88 v7_forget g7_forget ok120 v6_bookAt g6_bookAt ok74 v5_convertPrice g5_convertPrice ok69 v7_convertPositions g7_convertPositions ok119
def CC68 (F : PM → Int32 → Int32 → Int32 → Int32 × PM) (G : PM → Int32 → Int32 → Int32 → Prop) : Cal := (68, [8, 0, 0, 0], 1, false, fun as p => (zI (F p (ai as 1) (ai as 2) (ai as 3)).1, (F p (ai as 1) (ai as 2) (ai as 3)).2), fun as p => zsw (tc2 as [(105, 1), (0, 0), (0, 0), (0, 0)]) False (G p (ai as 1) (ai as 2) (ai as 3)))
set_option maxRecDepth 100000 in
theorem okr68 (F : PM → Int32 → Int32 → Int32 → Int32 × PM) (G : PM → Int32 → Int32 → Int32 → Prop) (h : ∀ (p : PM) (v1 : Int32) (v2 : Int32) (v3 : Int32), Gr 0 p → G p v1 v2 v3 → ZJ 0 68 0 [zR 5 1, zI v1, zI v2, zI v3, zJ, zJ] [] p (hwI (F p v1 v2 v3))) : CalOK 0 (CC68 F G) := cal_ok (m := 6) (by unfold mL; rw [mX_68]) (fun as p hg H => h p (ai as 1) (ai as 2) (ai as 3) hg H)
theorem ok68 : CalOK 0 (CC68 v5_convertContract g5_convertContract) := okr68 v5_convertContract g5_convertContract t5_convertContract
noncomputable def bv6_withdrawMember_14 (kv14 : PM → Int32 → Int32 → Int32 → Int32 × PM) (p : PM) (v1 : Int32) (v2 : Int32) (v5 : Int32) : Int32 × PM :=
  if v5 < (cn 40) then (
    if (p.1 10 ((v5).toNatClampNeg + 1) 2) = 0 then (
      kv14 p v1 v2 (v5 + (cn 1)))
    else (
      if (p.1 0 (p.2.2 10 ((v5).toNatClampNeg + 1) 3) 1) = v1 then (
        let p1 : PM := pI p 10 ((v5).toNatClampNeg + 1) 2 (cn 0)
        kv14 p1 v1 (v2 + (cn 1)) (v5 + (cn 1)))
      else (
        kv14 p v1 v2 (v5 + (cn 1)))))
  else (
    (v2, p))
noncomputable def v6_withdrawMember_14 (n : Nat) : PM → Int32 → Int32 → Int32 → Int32 × PM := Nat.rec (motive := fun _ => PM → Int32 → Int32 → Int32 → Int32 × PM) (fun p _ _ _ => (0, p)) (fun _ ih => bv6_withdrawMember_14 ih) n
theorem ev6_withdrawMember_14 (n : Nat) (p : PM) (v1 : Int32) (v2 : Int32) (v5 : Int32) : v6_withdrawMember_14 (n + 1) p v1 v2 v5 = bv6_withdrawMember_14 (v6_withdrawMember_14 n) p v1 v2 v5 := rfl
noncomputable def bg6_withdrawMember_14 (kg14 : PM → Int32 → Int32 → Int32 → Prop) (p : PM) (v1 : Int32) (v2 : Int32) (v5 : Int32) : Prop :=
  if v5 < (cn 40) then (
    (inb v5 40) ∧ (
    if (p.1 10 ((v5).toNatClampNeg + 1) 2) = 0 then (
      kg14 p v1 v2 (v5 + (cn 1)))
    else (
      (¬ (p.2.2 10 ((v5).toNatClampNeg + 1) 3) = 0) ∧ (
      if (p.1 0 (p.2.2 10 ((v5).toNatClampNeg + 1) 3) 1) = v1 then (
        let p1 : PM := pI p 10 ((v5).toNatClampNeg + 1) 2 (cn 0)
        kg14 p1 v1 (v2 + (cn 1)) (v5 + (cn 1)))
      else (
        kg14 p v1 v2 (v5 + (cn 1)))))))
  else (
    True)
noncomputable def g6_withdrawMember_14 (n : Nat) : PM → Int32 → Int32 → Int32 → Prop := Nat.rec (motive := fun _ => PM → Int32 → Int32 → Int32 → Prop) (fun _ _ _ _ => False) (fun _ ih => bg6_withdrawMember_14 ih) n
theorem eg6_withdrawMember_14 (n : Nat) (p : PM) (v1 : Int32) (v2 : Int32) (v5 : Int32) : g6_withdrawMember_14 (n + 1) p v1 v2 v5 = bg6_withdrawMember_14 (g6_withdrawMember_14 n) p v1 v2 v5 := rfl
noncomputable def bv6_withdrawMember (kv14 : PM → Int32 → Int32 → Int32 → Int32 × PM) (p : PM) (v1 : Int32) : Int32 × PM :=
  kv14 p v1 (cn 0) (cn 0)
noncomputable def v6_withdrawMember (p : PM) (v1 : Int32) : Int32 × PM := bv6_withdrawMember (v6_withdrawMember_14 FU) p v1
noncomputable def bg6_withdrawMember (kg14 : PM → Int32 → Int32 → Int32 → Prop) (p : PM) (v1 : Int32) : Prop :=
  kg14 p v1 (cn 0) (cn 0)
noncomputable def g6_withdrawMember (p : PM) (v1 : Int32) : Prop := bg6_withdrawMember (g6_withdrawMember_14 FU) p v1
def R89 : List Row := [(0, .iconst 0, 1, 0, (0, 0, 0, 0, 0, 0)), (1, .istore_n 2, 1, 0, (0, 0, 0, 0, 0, 0)), (2, .aload_n 0, 1, 0, (0, 0, 0, 0, 0, 0)), (3, .getfield 11, 3, 0, (6, 1, 23, 2, 1, 0)), (6, .astore_n 3, 1, 0, (0, 0, 0, 0, 0, 0)), (7, .aload_n 3, 1, 0, (0, 0, 0, 0, 0, 0)), (8, .arraylength, 1, 0, (20, 40, 0, 0, 0, 40)), (9, .istore 4, 2, 0, (0, 0, 0, 0, 0, 0)), (11, .iconst 0, 1, 0, (0, 0, 0, 0, 0, 0)), (12, .istore 5, 2, 0, (0, 0, 0, 0, 0, 0)), (14, .iload 5, 2, 1, (0, 0, 0, 0, 0, 0)), (16, .iload 4, 2, 0, (0, 0, 0, 0, 0, 0)), (18, .if_icmp .ge 44, 3, 0, (0, 0, 0, 0, 0, 0)), (21, .aload_n 3, 1, 0, (0, 0, 0, 0, 0, 0)), (22, .iload 5, 2, 0, (0, 0, 0, 0, 0, 0)), (24, .aaload, 1, 0, (20, 40, 0, 1, 1, 0)), (25, .astore 6, 2, 0, (0, 0, 0, 0, 0, 0)), (27, .aload 6, 2, 0, (0, 0, 0, 0, 0, 0)), (29, .getfield 29, 3, 0, (10, 2, 0, 1, 0, 0)), (32, .ifCond .eq 24, 3, 0, (0, 0, 0, 0, 0, 0)), (35, .aload 6, 2, 0, (0, 0, 0, 0, 0, 0)), (37, .getfield 115, 3, 0, (10, 3, 3, 1, 0, 0)), (40, .getfield 138, 3, 0, (0, 1, 0, 0, 0, 0)), (43, .iload_n 1, 1, 0, (0, 0, 0, 0, 0, 0)), (44, .if_icmp .ne 12, 3, 0, (0, 0, 0, 0, 0, 0)), (47, .aload 6, 2, 0, (0, 0, 0, 0, 0, 0)), (49, .iconst 0, 1, 0, (0, 0, 0, 0, 0, 0)), (50, .putfield 29, 3, 0, (10, 2, 0, 1, 0, 0)), (53, .iinc 2 1, 3, 0, (0, 0, 0, 0, 0, 1)), (56, .iinc 5 1, 3, 0, (0, 0, 0, 0, 0, 1)), (59, .goto (-45), 3, 0, (0, 0, 0, 0, 0, 0)), (62, .iload_n 2, 1, 0, (0, 0, 0, 0, 0, 0)), (63, .ireturn, 1, 0, (0, 0, 0, 0, 0, 0))]
set_option maxRecDepth 100000 in
theorem rk89 : R89.all (rok 0 89 1 []) = true := by decide +kernel
set_option maxRecDepth 100000 in
theorem tab89 : TabOK 0 89 1 [] R89 := tab_ok (K := K89) rfl rfl (fun h => d89 h) rk89 (by decide +kernel)
set_option maxRecDepth 100000 in
theorem pc89 : cutpc [14] R89 = true := by decide +kernel
set_option maxRecDepth 100000 in
theorem r6_withdrawMember_14 (kv14 : PM → Int32 → Int32 → Int32 → Int32 × PM) (kg14 : PM → Int32 → Int32 → Int32 → Prop) (hk14 : ∀ (p : PM) (v1 : Int32) (v2 : Int32) (v5 : Int32) (d0 d6 : ZV), Gr 0 p → kg14 p v1 v2 v5 → ZJ 0 89 14 [d0, zI v1, zI v2, zR 20 1, zC 40, zI v5, d6] [] p (hwI (kv14 p v1 v2 v5))) : ∀ (p : PM) (v1 : Int32) (v2 : Int32) (v5 : Int32) (d0 d6 : ZV), Gr 0 p → bg6_withdrawMember_14 kg14 p v1 v2 v5 → ZJ 0 89 14 [d0, zI v1, zI v2, zR 20 1, zC 40, zI v5, d6] [] p (hwI (bv6_withdrawMember_14 kv14 p v1 v2 v5)) := by
  intro p v1 v2 v5 d0 d6 hg H
  exact rwI (n := 3000) (q := 14) (la := [d0, zI v1, zI v2, zR 20 1, zC 40, zI v5, d6]) (sa := []) (ks := [fun la sa s => kv14 s (ai la 1) (ai la 2) (ai la 5)]) (gs := [fun la sa s => zsw (tc2 la [(2, 0), (0, 0), (0, 0), (120, 1), (3, 40), (0, 0), (2, 0)] && tc2 sa []) False (kg14 s (ai la 1) (ai la 2) (ai la 5))]) (fnil) tab89 pc89 ⟨fun la sa s hg H => zcut H fun H => hk14 s (ai la 1) (ai la 2) (ai la 5) (zld la 0) (zld la 6) hg H, trivial⟩ hg H
theorem t6_withdrawMember_14 : ∀ (n : Nat), ∀ (p : PM) (v1 : Int32) (v2 : Int32) (v5 : Int32) (d0 d6 : ZV), Gr 0 p → g6_withdrawMember_14 n p v1 v2 v5 → ZJ 0 89 14 [d0, zI v1, zI v2, zR 20 1, zC 40, zI v5, d6] [] p (hwI (v6_withdrawMember_14 n p v1 v2 v5)) := by
  intro n
  induction n with
  | zero =>
    intro p v1 v2 v5 d0 d6 hg H
    exact H.elim
  | succ n ih => exact r6_withdrawMember_14 (v6_withdrawMember_14 n) (g6_withdrawMember_14 n) ih
set_option maxRecDepth 100000 in
theorem r6_withdrawMember (kv14 : PM → Int32 → Int32 → Int32 → Int32 × PM) (kg14 : PM → Int32 → Int32 → Int32 → Prop) (hk14 : ∀ (p : PM) (v1 : Int32) (v2 : Int32) (v5 : Int32) (d0 d6 : ZV), Gr 0 p → kg14 p v1 v2 v5 → ZJ 0 89 14 [d0, zI v1, zI v2, zR 20 1, zC 40, zI v5, d6] [] p (hwI (kv14 p v1 v2 v5))) : ∀ (p : PM) (v1 : Int32), Gr 0 p → bg6_withdrawMember kg14 p v1 → ZJ 0 89 0 [zR 6 1, zI v1, zJ, zJ, zJ, zJ, zJ] [] p (hwI (bv6_withdrawMember kv14 p v1)) := by
  intro p v1  hg H
  exact rwI (n := 3000) (q := 0) (la := [zR 6 1, zI v1, zJ, zJ, zJ, zJ, zJ]) (sa := []) (ks := [fun la sa s => kv14 s (ai la 1) (ai la 2) (ai la 5)]) (gs := [fun la sa s => zsw (tc2 la [(2, 0), (0, 0), (0, 0), (120, 1), (3, 40), (0, 0), (2, 0)] && tc2 sa []) False (kg14 s (ai la 1) (ai la 2) (ai la 5))]) (fnil) tab89 pc89 ⟨fun la sa s hg H => zcut H fun H => hk14 s (ai la 1) (ai la 2) (ai la 5) (zld la 0) (zld la 6) hg H, trivial⟩ hg H
theorem t6_withdrawMember : ∀ (p : PM) (v1 : Int32), Gr 0 p → g6_withdrawMember p v1 → ZJ 0 89 0 [zR 6 1, zI v1, zJ, zJ, zJ, zJ, zJ] [] p (hwI (v6_withdrawMember p v1)) := r6_withdrawMember (v6_withdrawMember_14 FU) (g6_withdrawMember_14 FU) (t6_withdrawMember_14 FU)
def CC89 (F : PM → Int32 → Int32 × PM) (G : PM → Int32 → Prop) : Cal := (89, [9, 0], 1, false, fun as p => (zI (F p (ai as 1)).1, (F p (ai as 1)).2), fun as p => zsw (tc2 as [(106, 1), (0, 0)]) False (G p (ai as 1)))
set_option maxRecDepth 100000 in
theorem okr89 (F : PM → Int32 → Int32 × PM) (G : PM → Int32 → Prop) (h : ∀ (p : PM) (v1 : Int32), Gr 0 p → G p v1 → ZJ 0 89 0 [zR 6 1, zI v1, zJ, zJ, zJ, zJ, zJ] [] p (hwI (F p v1))) : CalOK 0 (CC89 F G) := cal_ok (m := 7) (by unfold mL; rw [mX_89]) (fun as p hg H => h p (ai as 1) hg H)
theorem ok89 : CalOK 0 (CC89 v6_withdrawMember g6_withdrawMember) := okr89 v6_withdrawMember g6_withdrawMember t6_withdrawMember
noncomputable def bv5_failMember (F35 : PM → Int32 → PM) (F89 : PM → Int32 → Int32 × PM) (p : PM) (v1 : Int32) : Int32 × PM :=
  let p1 : PM := F35 p v1
  let r2 : Int32 × PM := F89 p1 v1
  (r2.1, r2.2)
noncomputable def v5_failMember (p : PM) (v1 : Int32) : Int32 × PM := bv5_failMember v2_fall v6_withdrawMember p v1
noncomputable def bg5_failMember (F35 : PM → Int32 → PM) (G35 : PM → Int32 → Prop) (F89 : PM → Int32 → Int32 × PM) (G89 : PM → Int32 → Prop) (p : PM) (v1 : Int32) : Prop :=
  (G35 p v1) ∧ (
  let p1 : PM := F35 p v1
  (G89 p1 v1) ∧ (
  let r2 : Int32 × PM := F89 p1 v1
  True))
noncomputable def g5_failMember (p : PM) (v1 : Int32) : Prop := bg5_failMember v2_fall g2_fall v6_withdrawMember g6_withdrawMember p v1
def R70 : List Row := [(0, .aload_n 0, 1, 0, (0, 0, 0, 0, 0, 0)), (1, .getfield 57, 3, 0, (5, 4, 5, 2, 1, 0)), (4, .iload_n 1, 1, 0, (0, 0, 0, 0, 0, 0)), (5, .invokevirtual 221, 3, 0, (0, 2, 0, 0, 1, 0)), (8, .aload_n 0, 1, 0, (0, 0, 0, 0, 0, 0)), (9, .getfield 34, 3, 0, (5, 0, 9, 2, 1, 0)), (12, .iload_n 1, 1, 0, (0, 0, 0, 0, 0, 0)), (13, .invokevirtual 224, 3, 0, (1, 2, 0, 0, 1, 0)), (16, .ireturn, 1, 0, (0, 0, 0, 0, 0, 0))]
set_option maxRecDepth 100000 in
theorem rk70 : R70.all (rok 0 70 1 [(35, [5, 0]), (89, [9, 0])]) = true := by decide +kernel
set_option maxRecDepth 100000 in
theorem tab70 {F35 : PM → Int32 → PM} {G35 : PM → Int32 → Prop} {F89 : PM → Int32 → Int32 × PM} {G89 : PM → Int32 → Prop} : TabOK 0 70 1 [CC35 F35 G35, CC89 F89 G89] R70 := tab_ok (K := K70) rfl rfl (fun h => d70 h) rk70 (by decide +kernel)
set_option maxRecDepth 100000 in
theorem pc70 : cutpc [] R70 = true := by decide +kernel
set_option maxRecDepth 100000 in
theorem r5_failMember (F35 : PM → Int32 → PM) (G35 : PM → Int32 → Prop) (o35 : CalOK 0 (CC35 F35 G35)) (F89 : PM → Int32 → Int32 × PM) (G89 : PM → Int32 → Prop) (o89 : CalOK 0 (CC89 F89 G89)) : ∀ (p : PM) (v1 : Int32), Gr 0 p → bg5_failMember F35 G35 F89 G89 p v1 → ZJ 0 70 0 [zR 5 1, zI v1] [] p (hwI (bv5_failMember F35 F89 p v1)) := by
  intro p v1  hg H
  exact rwI (n := 3000) (q := 0) (la := [zR 5 1, zI v1]) (sa := []) (ks := []) (gs := []) (fcons o35 (fcons o89 (fnil))) tab70 pc70 trivial hg H
theorem t5_failMember : ∀ (p : PM) (v1 : Int32), Gr 0 p → g5_failMember p v1 → ZJ 0 70 0 [zR 5 1, zI v1] [] p (hwI (v5_failMember p v1)) := r5_failMember v2_fall g2_fall ok35 v6_withdrawMember g6_withdrawMember ok89
def CC70 (F : PM → Int32 → Int32 × PM) (G : PM → Int32 → Prop) : Cal := (70, [8, 0], 1, false, fun as p => (zI (F p (ai as 1)).1, (F p (ai as 1)).2), fun as p => zsw (tc2 as [(105, 1), (0, 0)]) False (G p (ai as 1)))
set_option maxRecDepth 100000 in
theorem okr70 (F : PM → Int32 → Int32 × PM) (G : PM → Int32 → Prop) (h : ∀ (p : PM) (v1 : Int32), Gr 0 p → G p v1 → ZJ 0 70 0 [zR 5 1, zI v1] [] p (hwI (F p v1))) : CalOK 0 (CC70 F G) := cal_ok (m := 2) (by unfold mL; rw [mX_70]) (fun as p hg H => h p (ai as 1) hg H)
theorem ok70 : CalOK 0 (CC70 v5_failMember g5_failMember) := okr70 v5_failMember g5_failMember t5_failMember
noncomputable def bv6_find_11 (p : PM) (kv11 : Int32 → Int32 → Nat) (v1 : Int32) (v4 : Int32) : Nat :=
  if v4 < (cn 40) then (
    if (p.1 10 ((v4).toNatClampNeg + 1) 2) = 0 then (
      kv11 v1 (v4 + (cn 1)))
    else (
      if (p.1 10 ((v4).toNatClampNeg + 1) 0) = v1 then (
        ((v4).toNatClampNeg + 1))
      else (
        kv11 v1 (v4 + (cn 1)))))
  else (
    0)
noncomputable def v6_find_11 (p : PM) (n : Nat) : Int32 → Int32 → Nat := Nat.rec (motive := fun _ => Int32 → Int32 → Nat) (fun _ _ => 0) (fun _ ih => bv6_find_11 p ih) n
theorem ev6_find_11 (p : PM) (n : Nat) (v1 : Int32) (v4 : Int32) : v6_find_11 p (n + 1) v1 v4 = bv6_find_11 p (v6_find_11 p n) v1 v4 := rfl
noncomputable def bg6_find_11 (p : PM) (kg11 : Int32 → Int32 → Prop) (v1 : Int32) (v4 : Int32) : Prop :=
  if v4 < (cn 40) then (
    (inb v4 40) ∧ (
    if (p.1 10 ((v4).toNatClampNeg + 1) 2) = 0 then (
      kg11 v1 (v4 + (cn 1)))
    else (
      if (p.1 10 ((v4).toNatClampNeg + 1) 0) = v1 then (
        True)
      else (
        kg11 v1 (v4 + (cn 1))))))
  else (
    True)
noncomputable def g6_find_11 (p : PM) (n : Nat) : Int32 → Int32 → Prop := Nat.rec (motive := fun _ => Int32 → Int32 → Prop) (fun _ _ => False) (fun _ ih => bg6_find_11 p ih) n
theorem eg6_find_11 (p : PM) (n : Nat) (v1 : Int32) (v4 : Int32) : g6_find_11 p (n + 1) v1 v4 = bg6_find_11 p (g6_find_11 p n) v1 v4 := rfl
noncomputable def bv6_find (p : PM) (kv11 : Int32 → Int32 → Nat) (v1 : Int32) : Nat :=
  kv11 v1 (cn 0)
noncomputable def v6_find (p : PM) (v1 : Int32) : Nat := bv6_find p (v6_find_11 p FU) v1
noncomputable def bg6_find (p : PM) (kg11 : Int32 → Int32 → Prop) (v1 : Int32) : Prop :=
  kg11 v1 (cn 0)
noncomputable def g6_find (p : PM) (v1 : Int32) : Prop := bg6_find p (g6_find_11 p FU) v1
def R75 : List Row := [(0, .aload_n 0, 1, 0, (0, 0, 0, 0, 0, 0)), (1, .getfield 11, 3, 0, (6, 1, 23, 2, 1, 0)), (4, .astore_n 2, 1, 0, (0, 0, 0, 0, 0, 0)), (5, .aload_n 2, 1, 0, (0, 0, 0, 0, 0, 0)), (6, .arraylength, 1, 0, (20, 40, 0, 0, 0, 40)), (7, .istore_n 3, 1, 0, (0, 0, 0, 0, 0, 0)), (8, .iconst 0, 1, 0, (0, 0, 0, 0, 0, 0)), (9, .istore 4, 2, 0, (0, 0, 0, 0, 0, 0)), (11, .iload 4, 2, 1, (0, 0, 0, 0, 0, 0)), (13, .iload_n 3, 1, 0, (0, 0, 0, 0, 0, 0)), (14, .if_icmp .ge 35, 3, 0, (0, 0, 0, 0, 0, 0)), (17, .aload_n 2, 1, 0, (0, 0, 0, 0, 0, 0)), (18, .iload 4, 2, 0, (0, 0, 0, 0, 0, 0)), (20, .aaload, 1, 0, (20, 40, 0, 1, 1, 0)), (21, .astore 5, 2, 0, (0, 0, 0, 0, 0, 0)), (23, .aload 5, 2, 0, (0, 0, 0, 0, 0, 0)), (25, .getfield 29, 3, 0, (10, 2, 0, 1, 0, 0)), (28, .ifCond .eq 15, 3, 0, (0, 0, 0, 0, 0, 0)), (31, .aload 5, 2, 0, (0, 0, 0, 0, 0, 0)), (33, .getfield 45, 3, 0, (10, 0, 0, 1, 0, 0)), (36, .iload_n 1, 1, 0, (0, 0, 0, 0, 0, 0)), (37, .if_icmp .ne 6, 3, 0, (0, 0, 0, 0, 0, 0)), (40, .aload 5, 2, 0, (0, 0, 0, 0, 0, 0)), (42, .areturn, 1, 0, (10, 0, 0, 0, 0, 0)), (43, .iinc 4 1, 3, 0, (0, 0, 0, 0, 0, 1)), (46, .goto (-35), 3, 0, (0, 0, 0, 0, 0, 0)), (49, .aconst_null, 1, 0, (10, 0, 0, 0, 0, 0)), (50, .areturn, 1, 0, (10, 0, 0, 0, 0, 0))]
set_option maxRecDepth 100000 in
theorem rk75 : R75.all (rok 0 75 (3 + 10) []) = true := by decide +kernel
set_option maxRecDepth 100000 in
theorem tab75 : TabOK 0 75 (3 + 10) [] R75 := tab_ok (K := K75) rfl rfl (fun h => d75 h) rk75 (by decide +kernel)
set_option maxRecDepth 100000 in
theorem pc75 : cutpc [11] R75 = true := by decide +kernel
set_option maxRecDepth 100000 in
theorem r6_find_11 (p : PM) (hg : Gr 0 p) (kv11 : Int32 → Int32 → Nat) (kg11 : Int32 → Int32 → Prop) (hk11 : ∀ (v1 : Int32) (v4 : Int32) (d0 d5 : ZV), kg11 v1 v4 → ZJ 0 75 11 [d0, zI v1, zR 20 1, zC 40, zI v4, d5] [] p (hoR 10 p (kv11 v1 v4))) : ∀ (v1 : Int32) (v4 : Int32) (d0 d5 : ZV), bg6_find_11 p kg11 v1 v4 → ZJ 0 75 11 [d0, zI v1, zR 20 1, zC 40, zI v4, d5] [] p (hoR 10 p (bv6_find_11 p kv11 v1 v4)) := by
  intro v1 v4 d0 d5 H
  exact roR 10 (n := 3000) (q := 11) (la := [d0, zI v1, zR 20 1, zC 40, zI v4, d5]) (sa := []) (ks := [fun la sa _ => kv11 (ai la 1) (ai la 4)]) (gs := [fun la sa _ => zsw (tc2 la [(2, 0), (0, 0), (120, 1), (3, 40), (0, 0), (2, 0)] && tc2 sa []) False (kg11 (ai la 1) (ai la 4))]) (fnil) tab75 pc75 ⟨fun la sa s hg H => zcut H fun H => hk11 (ai la 1) (ai la 4) (zld la 0) (zld la 5) H, trivial⟩ hg H
theorem t6_find_11 (p : PM) (hg : Gr 0 p) : ∀ (n : Nat), ∀ (v1 : Int32) (v4 : Int32) (d0 d5 : ZV), g6_find_11 p n v1 v4 → ZJ 0 75 11 [d0, zI v1, zR 20 1, zC 40, zI v4, d5] [] p (hoR 10 p (v6_find_11 p n v1 v4)) := by
  intro n
  induction n with
  | zero =>
    intro v1 v4 d0 d5 H
    exact H.elim
  | succ n ih => exact r6_find_11 p hg (v6_find_11 p n) (g6_find_11 p n) ih
set_option maxRecDepth 100000 in
theorem r6_find (p : PM) (hg : Gr 0 p) (kv11 : Int32 → Int32 → Nat) (kg11 : Int32 → Int32 → Prop) (hk11 : ∀ (v1 : Int32) (v4 : Int32) (d0 d5 : ZV), kg11 v1 v4 → ZJ 0 75 11 [d0, zI v1, zR 20 1, zC 40, zI v4, d5] [] p (hoR 10 p (kv11 v1 v4))) : ∀ (v1 : Int32), bg6_find p kg11 v1 → ZJ 0 75 0 [zR 6 1, zI v1, zJ, zJ, zJ, zJ] [] p (hoR 10 p (bv6_find p kv11 v1)) := by
  intro v1  H
  exact roR 10 (n := 3000) (q := 0) (la := [zR 6 1, zI v1, zJ, zJ, zJ, zJ]) (sa := []) (ks := [fun la sa _ => kv11 (ai la 1) (ai la 4)]) (gs := [fun la sa _ => zsw (tc2 la [(2, 0), (0, 0), (120, 1), (3, 40), (0, 0), (2, 0)] && tc2 sa []) False (kg11 (ai la 1) (ai la 4))]) (fnil) tab75 pc75 ⟨fun la sa s hg H => zcut H fun H => hk11 (ai la 1) (ai la 4) (zld la 0) (zld la 5) H, trivial⟩ hg H
theorem t6_find (p : PM) (hg : Gr 0 p) : ∀ (v1 : Int32), g6_find p v1 → ZJ 0 75 0 [zR 6 1, zI v1, zJ, zJ, zJ, zJ] [] p (hoR 10 p (v6_find p v1)) := r6_find p hg (v6_find_11 p FU) (g6_find_11 p FU) (t6_find_11 p hg FU)
def CC75 (F : PM → Int32 → Nat) (G : PM → Int32 → Prop) : Cal := (75, [9, 0], (3 + 10), true, fun as p => (zR 10 (F p (ai as 1)), p), fun as p => zsw (tc2 as [(106, 1), (0, 0)]) False (G p (ai as 1)))
set_option maxRecDepth 100000 in
theorem okr75 (F : PM → Int32 → Nat) (G : PM → Int32 → Prop) (h : ∀ (p : PM) (v1 : Int32), Gr 0 p → G p v1 → ZJ 0 75 0 [zR 6 1, zI v1, zJ, zJ, zJ, zJ] [] p (hoR 10 p (F p v1))) : CalOK 0 (CC75 F G) := cal_ok (m := 6) (by unfold mL; rw [mX_75]) (fun as p hg H => h p (ai as 1) hg H)
theorem ok75 : CalOK 0 (CC75 v6_find g6_find) := okr75 v6_find g6_find (fun p v1 hg H => t6_find p hg v1 H)
noncomputable def bv6_sumShown_17 (p : PM) (F144 : PM → Nat → Nat → Int32 → Int32) (kv17 : Nat → Int32 → Int32 → Int32 → Int32 → Int32) (v1 : Nat) (v2 : Int32) (v3 : Int32) (v4 : Int32) (v7 : Int32) : Int32 :=
  if v7 < (cn 40) then (
    if (F144 p ((v7).toNatClampNeg + 1) v1 v2) = 0 then (
      kv17 v1 v2 v3 v4 (v7 + (cn 1)))
    else (
      if (p.1 10 ((v7).toNatClampNeg + 1) 7) = v3 then (
        if v3 = (cn (-100000)) then (
          kv17 v1 v2 v3 v4 (v7 + (cn 1)))
        else (
          let x1 : Int32 := (v4 + (p.1 10 ((v7).toNatClampNeg + 1) 11))
          kv17 v1 v2 v3 x1 (v7 + (cn 1))))
      else (
        kv17 v1 v2 v3 v4 (v7 + (cn 1)))))
  else (
    v4)
noncomputable def v6_sumShown_17 (p : PM) (n : Nat) : Nat → Int32 → Int32 → Int32 → Int32 → Int32 := Nat.rec (motive := fun _ => Nat → Int32 → Int32 → Int32 → Int32 → Int32) (fun _ _ _ _ _ => 0) (fun _ ih => bv6_sumShown_17 p v10_standsIn ih) n
theorem ev6_sumShown_17 (p : PM) (n : Nat) (v1 : Nat) (v2 : Int32) (v3 : Int32) (v4 : Int32) (v7 : Int32) : v6_sumShown_17 p (n + 1) v1 v2 v3 v4 v7 = bv6_sumShown_17 p v10_standsIn (v6_sumShown_17 p n) v1 v2 v3 v4 v7 := rfl
noncomputable def bg6_sumShown_17 (p : PM) (F144 : PM → Nat → Nat → Int32 → Int32) (G144 : PM → Nat → Nat → Int32 → Prop) (kg17 : Nat → Int32 → Int32 → Int32 → Int32 → Prop) (v1 : Nat) (v2 : Int32) (v3 : Int32) (v4 : Int32) (v7 : Int32) : Prop :=
  if v7 < (cn 40) then (
    (inb v7 40) ∧ (
    (G144 p ((v7).toNatClampNeg + 1) v1 v2) ∧ (
    if (F144 p ((v7).toNatClampNeg + 1) v1 v2) = 0 then (
      kg17 v1 v2 v3 v4 (v7 + (cn 1)))
    else (
      if (p.1 10 ((v7).toNatClampNeg + 1) 7) = v3 then (
        if v3 = (cn (-100000)) then (
          kg17 v1 v2 v3 v4 (v7 + (cn 1)))
        else (
          let x1 : Int32 := (v4 + (p.1 10 ((v7).toNatClampNeg + 1) 11))
          kg17 v1 v2 v3 x1 (v7 + (cn 1))))
      else (
        kg17 v1 v2 v3 v4 (v7 + (cn 1)))))))
  else (
    True)
noncomputable def g6_sumShown_17 (p : PM) (n : Nat) : Nat → Int32 → Int32 → Int32 → Int32 → Prop := Nat.rec (motive := fun _ => Nat → Int32 → Int32 → Int32 → Int32 → Prop) (fun _ _ _ _ _ => False) (fun _ ih => bg6_sumShown_17 p v10_standsIn g10_standsIn ih) n
theorem eg6_sumShown_17 (p : PM) (n : Nat) (v1 : Nat) (v2 : Int32) (v3 : Int32) (v4 : Int32) (v7 : Int32) : g6_sumShown_17 p (n + 1) v1 v2 v3 v4 v7 = bg6_sumShown_17 p v10_standsIn g10_standsIn (g6_sumShown_17 p n) v1 v2 v3 v4 v7 := rfl
noncomputable def bv6_sumShown (p : PM) (kv17 : Nat → Int32 → Int32 → Int32 → Int32 → Int32) (v1 : Nat) (v2 : Int32) (v3 : Int32) : Int32 :=
  kv17 v1 v2 v3 (cn 0) (cn 0)
noncomputable def v6_sumShown (p : PM) (v1 : Nat) (v2 : Int32) (v3 : Int32) : Int32 := bv6_sumShown p (v6_sumShown_17 p FU) v1 v2 v3
noncomputable def bg6_sumShown (p : PM) (kg17 : Nat → Int32 → Int32 → Int32 → Int32 → Prop) (v1 : Nat) (v2 : Int32) (v3 : Int32) : Prop :=
  kg17 v1 v2 v3 (cn 0) (cn 0)
noncomputable def g6_sumShown (p : PM) (v1 : Nat) (v2 : Int32) (v3 : Int32) : Prop := bg6_sumShown p (g6_sumShown_17 p FU) v1 v2 v3
def R83 : List Row := [(0, .iconst 0, 1, 0, (0, 0, 0, 0, 0, 0)), (1, .istore 4, 2, 0, (0, 0, 0, 0, 0, 0)), (3, .aload_n 0, 1, 0, (0, 0, 0, 0, 0, 0)), (4, .getfield 11, 3, 0, (6, 1, 23, 2, 1, 0)), (7, .astore 5, 2, 0, (0, 0, 0, 0, 0, 0)), (9, .aload 5, 2, 0, (0, 0, 0, 0, 0, 0)), (11, .arraylength, 1, 0, (20, 40, 0, 0, 0, 40)), (12, .istore 6, 2, 0, (0, 0, 0, 0, 0, 0)), (14, .iconst 0, 1, 0, (0, 0, 0, 0, 0, 0)), (15, .istore 7, 2, 0, (0, 0, 0, 0, 0, 0)), (17, .iload 7, 2, 1, (0, 0, 0, 0, 0, 0)), (19, .iload 6, 2, 0, (0, 0, 0, 0, 0, 0)), (21, .if_icmp .ge 51, 3, 0, (0, 0, 0, 0, 0, 0)), (24, .aload 5, 2, 0, (0, 0, 0, 0, 0, 0)), (26, .iload 7, 2, 0, (0, 0, 0, 0, 0, 0)), (28, .aaload, 1, 0, (20, 40, 0, 1, 1, 0)), (29, .astore 8, 2, 0, (0, 0, 0, 0, 0, 0)), (31, .aload 8, 2, 0, (0, 0, 0, 0, 0, 0)), (33, .aload_n 1, 1, 0, (0, 0, 0, 0, 0, 0)), (34, .iload_n 2, 1, 0, (0, 0, 0, 0, 0, 0)), (35, .invokevirtual 72, 3, 0, (0, 3, 0, 0, 1, 0)), (38, .ifCond .eq 28, 3, 0, (0, 0, 0, 0, 0, 0)), (41, .aload 8, 2, 0, (0, 0, 0, 0, 0, 0)), (43, .getfield 55, 3, 0, (10, 7, 0, 1, 0, 0)), (46, .iload_n 3, 1, 0, (0, 0, 0, 0, 0, 0)), (47, .if_icmp .ne 19, 3, 0, (0, 0, 0, 0, 0, 0)), (50, .iload_n 3, 1, 0, (0, 0, 0, 0, 0, 0)), (51, .ldc 71, 2, 0, (0, 0, 0, 0, 0, -100000)), (53, .if_icmp .eq 13, 3, 0, (0, 0, 0, 0, 0, 0)), (56, .iload 4, 2, 0, (0, 0, 0, 0, 0, 0)), (58, .aload 8, 2, 0, (0, 0, 0, 0, 0, 0)), (60, .getfield 62, 3, 0, (10, 11, 0, 1, 0, 0)), (63, .iadd, 1, 0, (0, 0, 0, 0, 0, 0)), (64, .istore 4, 2, 0, (0, 0, 0, 0, 0, 0)), (66, .iinc 7 1, 3, 0, (0, 0, 0, 0, 0, 1)), (69, .goto (-52), 3, 0, (0, 0, 0, 0, 0, 0)), (72, .iload 4, 2, 0, (0, 0, 0, 0, 0, 0)), (74, .ireturn, 1, 0, (0, 0, 0, 0, 0, 0))]
set_option maxRecDepth 100000 in
theorem rk83 : R83.all (rok 0 83 1 [(144, [13, 4, 0])]) = true := by decide +kernel
set_option maxRecDepth 100000 in
theorem tab83 {F144 : PM → Nat → Nat → Int32 → Int32} {G144 : PM → Nat → Nat → Int32 → Prop} : TabOK 0 83 1 [CC144 F144 G144] R83 := tab_ok (K := K83) rfl rfl (fun h => d83 h) rk83 (by decide +kernel)
set_option maxRecDepth 100000 in
theorem pc83 : cutpc [17] R83 = true := by decide +kernel
set_option maxRecDepth 100000 in
theorem r6_sumShown_17 (p : PM) (hg : Gr 0 p) (F144 : PM → Nat → Nat → Int32 → Int32) (G144 : PM → Nat → Nat → Int32 → Prop) (o144 : CalOK 0 (CC144 F144 G144)) (kv17 : Nat → Int32 → Int32 → Int32 → Int32 → Int32) (kg17 : Nat → Int32 → Int32 → Int32 → Int32 → Prop) (hk17 : ∀ (v1 : Nat) (v2 : Int32) (v3 : Int32) (v4 : Int32) (v7 : Int32) (d0 d8 : ZV), kg17 v1 v2 v3 v4 v7 → ZJ 0 83 17 [d0, zR 1 v1, zI v2, zI v3, zI v4, zR 20 1, zC 40, zI v7, d8] [] p (hoI p (kv17 v1 v2 v3 v4 v7))) : ∀ (v1 : Nat) (v2 : Int32) (v3 : Int32) (v4 : Int32) (v7 : Int32) (d0 d8 : ZV), bg6_sumShown_17 p F144 G144 kg17 v1 v2 v3 v4 v7 → ZJ 0 83 17 [d0, zR 1 v1, zI v2, zI v3, zI v4, zR 20 1, zC 40, zI v7, d8] [] p (hoI p (bv6_sumShown_17 p F144 kv17 v1 v2 v3 v4 v7)) := by
  intro v1 v2 v3 v4 v7 d0 d8 H
  exact roI (n := 3000) (q := 17) (la := [d0, zR 1 v1, zI v2, zI v3, zI v4, zR 20 1, zC 40, zI v7, d8]) (sa := []) (ks := [fun la sa _ => kv17 (ar la 1) (ai la 2) (ai la 3) (ai la 4) (ai la 7)]) (gs := [fun la sa _ => zsw (tc2 la [(2, 0), (5, 0), (0, 0), (0, 0), (0, 0), (120, 1), (3, 40), (0, 0), (2, 0)] && tc2 sa []) False (kg17 (ar la 1) (ai la 2) (ai la 3) (ai la 4) (ai la 7))]) (fcons o144 (fnil)) tab83 pc83 ⟨fun la sa s hg H => zcut H fun H => hk17 (ar la 1) (ai la 2) (ai la 3) (ai la 4) (ai la 7) (zld la 0) (zld la 8) H, trivial⟩ hg H
theorem t6_sumShown_17 (p : PM) (hg : Gr 0 p) : ∀ (n : Nat), ∀ (v1 : Nat) (v2 : Int32) (v3 : Int32) (v4 : Int32) (v7 : Int32) (d0 d8 : ZV), g6_sumShown_17 p n v1 v2 v3 v4 v7 → ZJ 0 83 17 [d0, zR 1 v1, zI v2, zI v3, zI v4, zR 20 1, zC 40, zI v7, d8] [] p (hoI p (v6_sumShown_17 p n v1 v2 v3 v4 v7)) := by
  intro n
  induction n with
  | zero =>
    intro v1 v2 v3 v4 v7 d0 d8 H
    exact H.elim
  | succ n ih => exact r6_sumShown_17 p hg v10_standsIn g10_standsIn ok144 (v6_sumShown_17 p n) (g6_sumShown_17 p n) ih
set_option maxRecDepth 100000 in
theorem r6_sumShown (p : PM) (hg : Gr 0 p) (F144 : PM → Nat → Nat → Int32 → Int32) (G144 : PM → Nat → Nat → Int32 → Prop) (o144 : CalOK 0 (CC144 F144 G144)) (kv17 : Nat → Int32 → Int32 → Int32 → Int32 → Int32) (kg17 : Nat → Int32 → Int32 → Int32 → Int32 → Prop) (hk17 : ∀ (v1 : Nat) (v2 : Int32) (v3 : Int32) (v4 : Int32) (v7 : Int32) (d0 d8 : ZV), kg17 v1 v2 v3 v4 v7 → ZJ 0 83 17 [d0, zR 1 v1, zI v2, zI v3, zI v4, zR 20 1, zC 40, zI v7, d8] [] p (hoI p (kv17 v1 v2 v3 v4 v7))) : ∀ (v1 : Nat) (v2 : Int32) (v3 : Int32), bg6_sumShown p kg17 v1 v2 v3 → ZJ 0 83 0 [zR 6 1, zR 1 v1, zI v2, zI v3, zJ, zJ, zJ, zJ, zJ] [] p (hoI p (bv6_sumShown p kv17 v1 v2 v3)) := by
  intro v1 v2 v3  H
  exact roI (n := 3000) (q := 0) (la := [zR 6 1, zR 1 v1, zI v2, zI v3, zJ, zJ, zJ, zJ, zJ]) (sa := []) (ks := [fun la sa _ => kv17 (ar la 1) (ai la 2) (ai la 3) (ai la 4) (ai la 7)]) (gs := [fun la sa _ => zsw (tc2 la [(2, 0), (5, 0), (0, 0), (0, 0), (0, 0), (120, 1), (3, 40), (0, 0), (2, 0)] && tc2 sa []) False (kg17 (ar la 1) (ai la 2) (ai la 3) (ai la 4) (ai la 7))]) (fcons o144 (fnil)) tab83 pc83 ⟨fun la sa s hg H => zcut H fun H => hk17 (ar la 1) (ai la 2) (ai la 3) (ai la 4) (ai la 7) (zld la 0) (zld la 8) H, trivial⟩ hg H
theorem t6_sumShown (p : PM) (hg : Gr 0 p) : ∀ (v1 : Nat) (v2 : Int32) (v3 : Int32), g6_sumShown p v1 v2 v3 → ZJ 0 83 0 [zR 6 1, zR 1 v1, zI v2, zI v3, zJ, zJ, zJ, zJ, zJ] [] p (hoI p (v6_sumShown p v1 v2 v3)) := r6_sumShown p hg v10_standsIn g10_standsIn ok144 (v6_sumShown_17 p FU) (g6_sumShown_17 p FU) (t6_sumShown_17 p hg FU)
def CC83 (F : PM → Nat → Int32 → Int32 → Int32) (G : PM → Nat → Int32 → Int32 → Prop) : Cal := (83, [9, 4, 0, 0], 1, true, fun as p => (zI (F p (ar as 1) (ai as 2) (ai as 3)), p), fun as p => zsw (tc2 as [(106, 1), (5, 0), (0, 0), (0, 0)]) False (G p (ar as 1) (ai as 2) (ai as 3)))
set_option maxRecDepth 100000 in
theorem okr83 (F : PM → Nat → Int32 → Int32 → Int32) (G : PM → Nat → Int32 → Int32 → Prop) (h : ∀ (p : PM) (v1 : Nat) (v2 : Int32) (v3 : Int32), Gr 0 p → G p v1 v2 v3 → ZJ 0 83 0 [zR 6 1, zR 1 v1, zI v2, zI v3, zJ, zJ, zJ, zJ, zJ] [] p (hoI p (F p v1 v2 v3))) : CalOK 0 (CC83 F G) := cal_ok (m := 9) (by unfold mL; rw [mX_83]) (fun as p hg H => h p (ar as 1) (ai as 2) (ai as 3) hg H)
theorem ok83 : CalOK 0 (CC83 v6_sumShown g6_sumShown) := okr83 v6_sumShown g6_sumShown (fun p v1 v2 v3 hg H => t6_sumShown p hg v1 v2 v3 H)
noncomputable def bv6_withdraw (F75 : PM → Int32 → Nat) (p : PM) (v1 : Int32) : Int32 × PM :=
  if (F75 p v1) = 0 then (
    ((cn 0), p))
  else (
    let p1 : PM := pI p 10 (F75 p v1) 2 (cn 0)
    ((p1.1 10 (F75 p v1) 9), p1))
noncomputable def v6_withdraw (p : PM) (v1 : Int32) : Int32 × PM := bv6_withdraw v6_find p v1
noncomputable def bg6_withdraw (F75 : PM → Int32 → Nat) (G75 : PM → Int32 → Prop) (p : PM) (v1 : Int32) : Prop :=
  (G75 p v1) ∧ (
  if (F75 p v1) = 0 then (
    True)
  else (
    (¬ (F75 p v1) = 0) ∧ (
    let p1 : PM := pI p 10 (F75 p v1) 2 (cn 0)
    (¬ (F75 p v1) = 0) ∧ (
    True))))
noncomputable def g6_withdraw (p : PM) (v1 : Int32) : Prop := bg6_withdraw v6_find g6_find p v1
def R86 : List Row := [(0, .aload_n 0, 1, 0, (0, 0, 0, 0, 0, 0)), (1, .iload_n 1, 1, 0, (0, 0, 0, 0, 0, 0)), (2, .invokevirtual 126, 3, 0, (0, 2, 0, 0, 1, 0)), (5, .astore_n 2, 1, 0, (0, 0, 0, 0, 0, 0)), (6, .aload_n 2, 1, 0, (0, 0, 0, 0, 0, 0)), (7, .ifnonnull 5, 3, 0, (0, 0, 0, 0, 0, 0)), (10, .iconst 0, 1, 0, (0, 0, 0, 0, 0, 0)), (11, .ireturn, 1, 0, (0, 0, 0, 0, 0, 0)), (12, .aload_n 2, 1, 0, (0, 0, 0, 0, 0, 0)), (13, .iconst 0, 1, 0, (0, 0, 0, 0, 0, 0)), (14, .putfield 29, 3, 0, (10, 2, 0, 0, 0, 0)), (17, .aload_n 2, 1, 0, (0, 0, 0, 0, 0, 0)), (18, .getfield 123, 3, 0, (10, 9, 0, 0, 0, 0)), (21, .ireturn, 1, 0, (0, 0, 0, 0, 0, 0))]
set_option maxRecDepth 100000 in
theorem rk86 : R86.all (rok 0 86 1 [(75, [9, 0])]) = true := by decide +kernel
set_option maxRecDepth 100000 in
theorem tab86 {F75 : PM → Int32 → Nat} {G75 : PM → Int32 → Prop} : TabOK 0 86 1 [CC75 F75 G75] R86 := tab_ok (K := K86) rfl rfl (fun h => d86 h) rk86 (by decide +kernel)
set_option maxRecDepth 100000 in
theorem pc86 : cutpc [] R86 = true := by decide +kernel
set_option maxRecDepth 100000 in
theorem r6_withdraw (F75 : PM → Int32 → Nat) (G75 : PM → Int32 → Prop) (o75 : CalOK 0 (CC75 F75 G75)) : ∀ (p : PM) (v1 : Int32), Gr 0 p → bg6_withdraw F75 G75 p v1 → ZJ 0 86 0 [zR 6 1, zI v1, zJ] [] p (hwI (bv6_withdraw F75 p v1)) := by
  intro p v1  hg H
  exact rwI (n := 3000) (q := 0) (la := [zR 6 1, zI v1, zJ]) (sa := []) (ks := []) (gs := []) (fcons o75 (fnil)) tab86 pc86 trivial hg H
theorem t6_withdraw : ∀ (p : PM) (v1 : Int32), Gr 0 p → g6_withdraw p v1 → ZJ 0 86 0 [zR 6 1, zI v1, zJ] [] p (hwI (v6_withdraw p v1)) := r6_withdraw v6_find g6_find ok75
def CC86 (F : PM → Int32 → Int32 × PM) (G : PM → Int32 → Prop) : Cal := (86, [9, 0], 1, false, fun as p => (zI (F p (ai as 1)).1, (F p (ai as 1)).2), fun as p => zsw (tc2 as [(106, 1), (0, 0)]) False (G p (ai as 1)))
set_option maxRecDepth 100000 in
theorem okr86 (F : PM → Int32 → Int32 × PM) (G : PM → Int32 → Prop) (h : ∀ (p : PM) (v1 : Int32), Gr 0 p → G p v1 → ZJ 0 86 0 [zR 6 1, zI v1, zJ] [] p (hwI (F p v1))) : CalOK 0 (CC86 F G) := cal_ok (m := 3) (by unfold mL; rw [mX_86]) (fun as p hg H => h p (ai as 1) hg H)
theorem ok86 : CalOK 0 (CC86 v6_withdraw g6_withdraw) := okr86 v6_withdraw g6_withdraw t6_withdraw
noncomputable def bv6_hasAuction_10 (p : PM) (kv10 : Int32 → Int32) (v3 : Int32) : Int32 :=
  if v3 < (cn 6) then (
    if (p.1 1 ((v3).toNatClampNeg + 1) 5) = 0 then (
      kv10 (v3 + (cn 1)))
    else (
      (cn 1)))
  else (
    (cn 0))
noncomputable def v6_hasAuction_10 (p : PM) (n : Nat) : Int32 → Int32 := Nat.rec (motive := fun _ => Int32 → Int32) (fun _ => 0) (fun _ ih => bv6_hasAuction_10 p ih) n
theorem ev6_hasAuction_10 (p : PM) (n : Nat) (v3 : Int32) : v6_hasAuction_10 p (n + 1) v3 = bv6_hasAuction_10 p (v6_hasAuction_10 p n) v3 := rfl
noncomputable def bg6_hasAuction_10 (p : PM) (kg10 : Int32 → Prop) (v3 : Int32) : Prop :=
  if v3 < (cn 6) then (
    (inb v3 6) ∧ (
    if (p.1 1 ((v3).toNatClampNeg + 1) 5) = 0 then (
      kg10 (v3 + (cn 1)))
    else (
      True)))
  else (
    True)
noncomputable def g6_hasAuction_10 (p : PM) (n : Nat) : Int32 → Prop := Nat.rec (motive := fun _ => Int32 → Prop) (fun _ => False) (fun _ ih => bg6_hasAuction_10 p ih) n
theorem eg6_hasAuction_10 (p : PM) (n : Nat) (v3 : Int32) : g6_hasAuction_10 p (n + 1) v3 = bg6_hasAuction_10 p (g6_hasAuction_10 p n) v3 := rfl
noncomputable def bv6_hasAuction (p : PM) (kv10 : Int32 → Int32) : Int32 :=
  kv10 (cn 0)
noncomputable def v6_hasAuction (p : PM) : Int32 := bv6_hasAuction p (v6_hasAuction_10 p FU)
noncomputable def bg6_hasAuction (p : PM) (kg10 : Int32 → Prop) : Prop :=
  kg10 (cn 0)
noncomputable def g6_hasAuction (p : PM) : Prop := bg6_hasAuction p (g6_hasAuction_10 p FU)
def R93 : List Row := [(0, .aload_n 0, 1, 0, (0, 0, 0, 0, 0, 0)), (1, .getfield 17, 3, 0, (6, 0, 20, 2, 1, 0)), (4, .astore_n 1, 1, 0, (0, 0, 0, 0, 0, 0)), (5, .aload_n 1, 1, 0, (0, 0, 0, 0, 0, 0)), (6, .arraylength, 1, 0, (17, 6, 0, 0, 0, 6)), (7, .istore_n 2, 1, 0, (0, 0, 0, 0, 0, 0)), (8, .iconst 0, 1, 0, (0, 0, 0, 0, 0, 0)), (9, .istore_n 3, 1, 0, (0, 0, 0, 0, 0, 0)), (10, .iload_n 3, 1, 1, (0, 0, 0, 0, 0, 0)), (11, .iload_n 2, 1, 0, (0, 0, 0, 0, 0, 0)), (12, .if_icmp .ge 24, 3, 0, (0, 0, 0, 0, 0, 0)), (15, .aload_n 1, 1, 0, (0, 0, 0, 0, 0, 0)), (16, .iload_n 3, 1, 0, (0, 0, 0, 0, 0, 0)), (17, .aaload, 1, 0, (17, 6, 0, 1, 1, 0)), (18, .astore 4, 2, 0, (0, 0, 0, 0, 0, 0)), (20, .aload 4, 2, 0, (0, 0, 0, 0, 0, 0)), (22, .getfield 154, 3, 0, (1, 5, 1, 1, 0, 0)), (25, .ifCond .eq 5, 3, 0, (0, 0, 0, 0, 0, 0)), (28, .iconst 1, 1, 0, (0, 0, 0, 0, 0, 1)), (29, .ireturn, 1, 0, (1, 0, 0, 0, 0, 0)), (30, .iinc 3 1, 3, 0, (0, 0, 0, 0, 0, 1)), (33, .goto (-23), 3, 0, (0, 0, 0, 0, 0, 0)), (36, .iconst 0, 1, 0, (0, 0, 0, 0, 0, 0)), (37, .ireturn, 1, 0, (1, 0, 0, 0, 0, 0))]
set_option maxRecDepth 100000 in
theorem rk93 : R93.all (rok 0 93 1 []) = true := by decide +kernel
set_option maxRecDepth 100000 in
theorem tab93 : TabOK 0 93 1 [] R93 := tab_ok (K := K93) rfl rfl (fun h => d93 h) rk93 (by decide +kernel)
set_option maxRecDepth 100000 in
theorem pc93 : cutpc [10] R93 = true := by decide +kernel
set_option maxRecDepth 100000 in
theorem r6_hasAuction_10 (p : PM) (hg : Gr 0 p) (kv10 : Int32 → Int32) (kg10 : Int32 → Prop) (hk10 : ∀ (v3 : Int32) (d0 d4 : ZV), kg10 v3 → ZJ 0 93 10 [d0, zR 17 1, zC 6, zI v3, d4] [] p (hoI p (kv10 v3))) : ∀ (v3 : Int32) (d0 d4 : ZV), bg6_hasAuction_10 p kg10 v3 → ZJ 0 93 10 [d0, zR 17 1, zC 6, zI v3, d4] [] p (hoI p (bv6_hasAuction_10 p kv10 v3)) := by
  intro v3 d0 d4 H
  exact roI (n := 3000) (q := 10) (la := [d0, zR 17 1, zC 6, zI v3, d4]) (sa := []) (ks := [fun la sa _ => kv10 (ai la 3)]) (gs := [fun la sa _ => zsw (tc2 la [(2, 0), (117, 1), (3, 6), (0, 0), (2, 0)] && tc2 sa []) False (kg10 (ai la 3))]) (fnil) tab93 pc93 ⟨fun la sa s hg H => zcut H fun H => hk10 (ai la 3) (zld la 0) (zld la 4) H, trivial⟩ hg H
theorem t6_hasAuction_10 (p : PM) (hg : Gr 0 p) : ∀ (n : Nat), ∀ (v3 : Int32) (d0 d4 : ZV), g6_hasAuction_10 p n v3 → ZJ 0 93 10 [d0, zR 17 1, zC 6, zI v3, d4] [] p (hoI p (v6_hasAuction_10 p n v3)) := by
  intro n
  induction n with
  | zero =>
    intro v3 d0 d4 H
    exact H.elim
  | succ n ih => exact r6_hasAuction_10 p hg (v6_hasAuction_10 p n) (g6_hasAuction_10 p n) ih
set_option maxRecDepth 100000 in
theorem r6_hasAuction (p : PM) (hg : Gr 0 p) (kv10 : Int32 → Int32) (kg10 : Int32 → Prop) (hk10 : ∀ (v3 : Int32) (d0 d4 : ZV), kg10 v3 → ZJ 0 93 10 [d0, zR 17 1, zC 6, zI v3, d4] [] p (hoI p (kv10 v3))) : bg6_hasAuction p kg10 → ZJ 0 93 0 [zR 6 1, zJ, zJ, zJ, zJ] [] p (hoI p (bv6_hasAuction p kv10)) := by
  intro   H
  exact roI (n := 3000) (q := 0) (la := [zR 6 1, zJ, zJ, zJ, zJ]) (sa := []) (ks := [fun la sa _ => kv10 (ai la 3)]) (gs := [fun la sa _ => zsw (tc2 la [(2, 0), (117, 1), (3, 6), (0, 0), (2, 0)] && tc2 sa []) False (kg10 (ai la 3))]) (fnil) tab93 pc93 ⟨fun la sa s hg H => zcut H fun H => hk10 (ai la 3) (zld la 0) (zld la 4) H, trivial⟩ hg H
theorem t6_hasAuction (p : PM) (hg : Gr 0 p) : g6_hasAuction p → ZJ 0 93 0 [zR 6 1, zJ, zJ, zJ, zJ] [] p (hoI p (v6_hasAuction p)) := r6_hasAuction p hg (v6_hasAuction_10 p FU) (g6_hasAuction_10 p FU) (t6_hasAuction_10 p hg FU)
def CC93 (F : PM → Int32) (G : PM → Prop) : Cal := (93, [9], 1, true, fun as p => (zI (F p ), p), fun as p => zsw (tc2 as [(106, 1)]) False (G p ))
set_option maxRecDepth 100000 in
theorem okr93 (F : PM → Int32) (G : PM → Prop) (h : ∀ (p : PM), Gr 0 p → G p  → ZJ 0 93 0 [zR 6 1, zJ, zJ, zJ, zJ] [] p (hoI p (F p ))) : CalOK 0 (CC93 F G) := cal_ok (m := 5) (by unfold mL; rw [mX_93]) (fun as p hg H => h p  hg H)
theorem ok93 : CalOK 0 (CC93 v6_hasAuction g6_hasAuction) := okr93 v6_hasAuction g6_hasAuction (fun p  hg H => t6_hasAuction p hg  H)
noncomputable def bv6_turnDay_71 (kv71 : PM → Int32 → Int32 → Int32 × PM) (p : PM) (v1 : Int32) (v4 : Int32) : Int32 × PM :=
  if v4 < (cn 6) then (
    let p2 : PM := pI p 1 ((v4).toNatClampNeg + 1) 4 (p.1 1 ((v4).toNatClampNeg + 1) 3)
    kv71 p2 v1 (v4 + (cn 1)))
  else (
    let p1 : PM := pI p 6 1 3 ((p.1 6 1 3) + (cn 1))
    (v1, p1))
noncomputable def v6_turnDay_71 (n : Nat) : PM → Int32 → Int32 → Int32 × PM := Nat.rec (motive := fun _ => PM → Int32 → Int32 → Int32 × PM) (fun p _ _ => (0, p)) (fun _ ih => bv6_turnDay_71 ih) n
theorem ev6_turnDay_71 (n : Nat) (p : PM) (v1 : Int32) (v4 : Int32) : v6_turnDay_71 (n + 1) p v1 v4 = bv6_turnDay_71 (v6_turnDay_71 n) p v1 v4 := rfl
noncomputable def bg6_turnDay_71 (kg71 : PM → Int32 → Int32 → Prop) (p : PM) (v1 : Int32) (v4 : Int32) : Prop :=
  if v4 < (cn 6) then (
    (inb v4 6) ∧ (
    let p2 : PM := pI p 1 ((v4).toNatClampNeg + 1) 4 (p.1 1 ((v4).toNatClampNeg + 1) 3)
    kg71 p2 v1 (v4 + (cn 1))))
  else (
    let p1 : PM := pI p 6 1 3 ((p.1 6 1 3) + (cn 1))
    True)
noncomputable def g6_turnDay_71 (n : Nat) : PM → Int32 → Int32 → Prop := Nat.rec (motive := fun _ => PM → Int32 → Int32 → Prop) (fun _ _ _ => False) (fun _ ih => bg6_turnDay_71 ih) n
theorem eg6_turnDay_71 (n : Nat) (p : PM) (v1 : Int32) (v4 : Int32) : g6_turnDay_71 (n + 1) p v1 v4 = bg6_turnDay_71 (g6_turnDay_71 n) p v1 v4 := rfl
noncomputable def bv6_turnDay_13 (kv13 : PM → Int32 → Int32 → Int32 × PM) (kv71 : PM → Int32 → Int32 → Int32 × PM) (p : PM) (v1 : Int32) (v4 : Int32) : Int32 × PM :=
  if v4 < (cn 40) then (
    if (p.1 10 ((v4).toNatClampNeg + 1) 2) = 0 then (
      kv13 p v1 (v4 + (cn 1)))
    else (
      if (p.1 6 1 3) < (p.1 10 ((v4).toNatClampNeg + 1) 8) then (
        kv13 p v1 (v4 + (cn 1)))
      else (
        let p1 : PM := pI p 10 ((v4).toNatClampNeg + 1) 2 (cn 0)
        kv13 p1 (v1 + (cn 1)) (v4 + (cn 1)))))
  else (
    kv71 p v1 (cn 0))
noncomputable def v6_turnDay_13 (n : Nat) : PM → Int32 → Int32 → Int32 × PM := Nat.rec (motive := fun _ => PM → Int32 → Int32 → Int32 × PM) (fun p _ _ => (0, p)) (fun _ ih => bv6_turnDay_13 ih (v6_turnDay_71 FU)) n
theorem ev6_turnDay_13 (n : Nat) (p : PM) (v1 : Int32) (v4 : Int32) : v6_turnDay_13 (n + 1) p v1 v4 = bv6_turnDay_13 (v6_turnDay_13 n) (v6_turnDay_71 FU) p v1 v4 := rfl
noncomputable def bg6_turnDay_13 (kg13 : PM → Int32 → Int32 → Prop) (kg71 : PM → Int32 → Int32 → Prop) (p : PM) (v1 : Int32) (v4 : Int32) : Prop :=
  if v4 < (cn 40) then (
    (inb v4 40) ∧ (
    if (p.1 10 ((v4).toNatClampNeg + 1) 2) = 0 then (
      kg13 p v1 (v4 + (cn 1)))
    else (
      if (p.1 6 1 3) < (p.1 10 ((v4).toNatClampNeg + 1) 8) then (
        kg13 p v1 (v4 + (cn 1)))
      else (
        let p1 : PM := pI p 10 ((v4).toNatClampNeg + 1) 2 (cn 0)
        kg13 p1 (v1 + (cn 1)) (v4 + (cn 1))))))
  else (
    kg71 p v1 (cn 0))
noncomputable def g6_turnDay_13 (n : Nat) : PM → Int32 → Int32 → Prop := Nat.rec (motive := fun _ => PM → Int32 → Int32 → Prop) (fun _ _ _ => False) (fun _ ih => bg6_turnDay_13 ih (g6_turnDay_71 FU)) n
theorem eg6_turnDay_13 (n : Nat) (p : PM) (v1 : Int32) (v4 : Int32) : g6_turnDay_13 (n + 1) p v1 v4 = bg6_turnDay_13 (g6_turnDay_13 n) (g6_turnDay_71 FU) p v1 v4 := rfl
noncomputable def bv6_turnDay (kv13 : PM → Int32 → Int32 → Int32 × PM) (p : PM) : Int32 × PM :=
  kv13 p (cn 0) (cn 0)
noncomputable def v6_turnDay (p : PM) : Int32 × PM := bv6_turnDay (v6_turnDay_13 FU) p
noncomputable def bg6_turnDay (kg13 : PM → Int32 → Int32 → Prop) (p : PM) : Prop :=
  kg13 p (cn 0) (cn 0)
noncomputable def g6_turnDay (p : PM) : Prop := bg6_turnDay (g6_turnDay_13 FU) p
def R96 : List Row := [(0, .iconst 0, 1, 0, (0, 0, 0, 0, 0, 0)), (1, .istore_n 1, 1, 0, (0, 0, 0, 0, 0, 0)), (2, .aload_n 0, 1, 0, (0, 0, 0, 0, 0, 0)), (3, .getfield 11, 3, 0, (6, 1, 23, 2, 1, 0)), (6, .astore_n 2, 1, 0, (0, 0, 0, 0, 0, 0)), (7, .aload_n 2, 1, 0, (0, 0, 0, 0, 0, 0)), (8, .arraylength, 1, 0, (20, 40, 0, 0, 0, 40)), (9, .istore_n 3, 1, 0, (0, 0, 0, 0, 0, 0)), (10, .iconst 0, 1, 0, (0, 0, 0, 0, 0, 0)), (11, .istore 4, 2, 0, (0, 0, 0, 0, 0, 0)), (13, .iload 4, 2, 1, (0, 0, 0, 0, 0, 0)), (15, .iload_n 3, 1, 0, (0, 0, 0, 0, 0, 0)), (16, .if_icmp .ge 44, 3, 0, (0, 0, 0, 0, 0, 0)), (19, .aload_n 2, 1, 0, (0, 0, 0, 0, 0, 0)), (20, .iload 4, 2, 0, (0, 0, 0, 0, 0, 0)), (22, .aaload, 1, 0, (20, 40, 0, 1, 1, 0)), (23, .astore 5, 2, 0, (0, 0, 0, 0, 0, 0)), (25, .aload 5, 2, 0, (0, 0, 0, 0, 0, 0)), (27, .getfield 29, 3, 0, (10, 2, 0, 1, 0, 0)), (30, .ifCond .eq 24, 3, 0, (0, 0, 0, 0, 0, 0)), (33, .aload 5, 2, 0, (0, 0, 0, 0, 0, 0)), (35, .getfield 173, 3, 0, (10, 8, 0, 1, 0, 0)), (38, .aload_n 0, 1, 0, (0, 0, 0, 0, 0, 0)), (39, .getfield 36, 3, 0, (6, 3, 0, 1, 0, 0)), (42, .if_icmp .gt 12, 3, 0, (0, 0, 0, 0, 0, 0)), (45, .aload 5, 2, 0, (0, 0, 0, 0, 0, 0)), (47, .iconst 0, 1, 0, (0, 0, 0, 0, 0, 0)), (48, .putfield 29, 3, 0, (10, 2, 0, 1, 0, 0)), (51, .iinc 1 1, 3, 0, (0, 0, 0, 0, 0, 1)), (54, .iinc 4 1, 3, 0, (0, 0, 0, 0, 0, 1)), (57, .goto (-44), 3, 0, (0, 0, 0, 0, 0, 0)), (60, .aload_n 0, 1, 0, (0, 0, 0, 0, 0, 0)), (61, .getfield 17, 3, 0, (6, 0, 20, 2, 1, 0)), (64, .astore_n 2, 1, 0, (0, 0, 0, 0, 0, 0)), (65, .aload_n 2, 1, 0, (0, 0, 0, 0, 0, 0)), (66, .arraylength, 1, 0, (17, 6, 0, 0, 0, 6)), (67, .istore_n 3, 1, 0, (0, 0, 0, 0, 0, 0)), (68, .iconst 0, 1, 0, (0, 0, 0, 0, 0, 0)), (69, .istore 4, 2, 0, (0, 0, 0, 0, 0, 0)), (71, .iload 4, 2, 2, (0, 0, 0, 0, 0, 0)), (73, .iload_n 3, 1, 0, (0, 0, 0, 0, 0, 0)), (74, .if_icmp .ge 25, 3, 0, (0, 0, 0, 0, 0, 0)), (77, .aload_n 2, 1, 0, (0, 0, 0, 0, 0, 0)), (78, .iload 4, 2, 0, (0, 0, 0, 0, 0, 0)), (80, .aaload, 1, 0, (17, 6, 0, 1, 1, 0)), (81, .astore 5, 2, 0, (0, 0, 0, 0, 0, 0)), (83, .aload 5, 2, 0, (0, 0, 0, 0, 0, 0)), (85, .aload 5, 2, 0, (0, 0, 0, 0, 0, 0)), (87, .getfield 176, 3, 0, (1, 3, 0, 1, 0, 0)), (90, .putfield 179, 3, 0, (1, 4, 0, 1, 0, 0)), (93, .iinc 4 1, 3, 0, (0, 0, 0, 0, 0, 1)), (96, .goto (-25), 3, 0, (0, 0, 0, 0, 0, 0)), (99, .aload_n 0, 1, 0, (0, 0, 0, 0, 0, 0)), (100, .dup, 1, 0, (0, 0, 0, 0, 0, 0)), (101, .getfield 36, 3, 0, (6, 3, 0, 1, 0, 0)), (104, .iconst 1, 1, 0, (0, 0, 0, 0, 0, 1)), (105, .iadd, 1, 0, (0, 0, 0, 0, 0, 0)), (106, .putfield 36, 3, 0, (6, 3, 0, 1, 0, 0)), (109, .iload_n 1, 1, 0, (0, 0, 0, 0, 0, 0)), (110, .ireturn, 1, 0, (0, 0, 0, 0, 0, 0))]
set_option maxRecDepth 100000 in
theorem rk96 : R96.all (rok 0 96 1 []) = true := by decide +kernel
set_option maxRecDepth 100000 in
theorem tab96 : TabOK 0 96 1 [] R96 := tab_ok (K := K96) rfl rfl (fun h => d96 h) rk96 (by decide +kernel)
set_option maxRecDepth 100000 in
theorem pc96 : cutpc [13, 71] R96 = true := by decide +kernel
set_option maxRecDepth 100000 in
theorem r6_turnDay_71 (kv71 : PM → Int32 → Int32 → Int32 × PM) (kg71 : PM → Int32 → Int32 → Prop) (hk71 : ∀ (p : PM) (v1 : Int32) (v4 : Int32) (d5 : ZV), Gr 0 p → kg71 p v1 v4 → ZJ 0 96 71 [zR 6 1, zI v1, zR 17 1, zC 6, zI v4, d5] [] p (hwI (kv71 p v1 v4))) : ∀ (p : PM) (v1 : Int32) (v4 : Int32) (d5 : ZV), Gr 0 p → bg6_turnDay_71 kg71 p v1 v4 → ZJ 0 96 71 [zR 6 1, zI v1, zR 17 1, zC 6, zI v4, d5] [] p (hwI (bv6_turnDay_71 kv71 p v1 v4)) := by
  intro p v1 v4 d5 hg H
  exact rwI (n := 3000) (q := 71) (la := [zR 6 1, zI v1, zR 17 1, zC 6, zI v4, d5]) (sa := []) (ks := [fun _ _ s => (0, s), fun la sa s => kv71 s (ai la 1) (ai la 4)]) (gs := [fun _ _ _ => False, fun la sa s => zsw (tc2 la [(106, 1), (0, 0), (117, 1), (3, 6), (0, 0), (2, 0)] && tc2 sa []) False (kg71 s (ai la 1) (ai la 4))]) (fnil) tab96 pc96 ⟨fun _ _ _ _ H => H.elim, fun la sa s hg H => zcut H fun H => hk71 s (ai la 1) (ai la 4) (zld la 5) hg H, trivial⟩ hg H
theorem t6_turnDay_71 : ∀ (n : Nat), ∀ (p : PM) (v1 : Int32) (v4 : Int32) (d5 : ZV), Gr 0 p → g6_turnDay_71 n p v1 v4 → ZJ 0 96 71 [zR 6 1, zI v1, zR 17 1, zC 6, zI v4, d5] [] p (hwI (v6_turnDay_71 n p v1 v4)) := by
  intro n
  induction n with
  | zero =>
    intro p v1 v4 d5 hg H
    exact H.elim
  | succ n ih => exact r6_turnDay_71 (v6_turnDay_71 n) (g6_turnDay_71 n) ih
set_option maxRecDepth 100000 in
theorem r6_turnDay_13 (kv13 : PM → Int32 → Int32 → Int32 × PM) (kg13 : PM → Int32 → Int32 → Prop) (hk13 : ∀ (p : PM) (v1 : Int32) (v4 : Int32) (d5 : ZV), Gr 0 p → kg13 p v1 v4 → ZJ 0 96 13 [zR 6 1, zI v1, zR 20 1, zC 40, zI v4, d5] [] p (hwI (kv13 p v1 v4))) (kv71 : PM → Int32 → Int32 → Int32 × PM) (kg71 : PM → Int32 → Int32 → Prop) (hk71 : ∀ (p : PM) (v1 : Int32) (v4 : Int32) (d5 : ZV), Gr 0 p → kg71 p v1 v4 → ZJ 0 96 71 [zR 6 1, zI v1, zR 17 1, zC 6, zI v4, d5] [] p (hwI (kv71 p v1 v4))) : ∀ (p : PM) (v1 : Int32) (v4 : Int32) (d5 : ZV), Gr 0 p → bg6_turnDay_13 kg13 kg71 p v1 v4 → ZJ 0 96 13 [zR 6 1, zI v1, zR 20 1, zC 40, zI v4, d5] [] p (hwI (bv6_turnDay_13 kv13 kv71 p v1 v4)) := by
  intro p v1 v4 d5 hg H
  exact rwI (n := 3000) (q := 13) (la := [zR 6 1, zI v1, zR 20 1, zC 40, zI v4, d5]) (sa := []) (ks := [fun la sa s => kv13 s (ai la 1) (ai la 4), fun la sa s => kv71 s (ai la 1) (ai la 4)]) (gs := [fun la sa s => zsw (tc2 la [(106, 1), (0, 0), (120, 1), (3, 40), (0, 0), (2, 0)] && tc2 sa []) False (kg13 s (ai la 1) (ai la 4)), fun la sa s => zsw (tc2 la [(106, 1), (0, 0), (117, 1), (3, 6), (0, 0), (2, 0)] && tc2 sa []) False (kg71 s (ai la 1) (ai la 4))]) (fnil) tab96 pc96 ⟨fun la sa s hg H => zcut H fun H => hk13 s (ai la 1) (ai la 4) (zld la 5) hg H, fun la sa s hg H => zcut H fun H => hk71 s (ai la 1) (ai la 4) (zld la 5) hg H, trivial⟩ hg H
theorem t6_turnDay_13 : ∀ (n : Nat), ∀ (p : PM) (v1 : Int32) (v4 : Int32) (d5 : ZV), Gr 0 p → g6_turnDay_13 n p v1 v4 → ZJ 0 96 13 [zR 6 1, zI v1, zR 20 1, zC 40, zI v4, d5] [] p (hwI (v6_turnDay_13 n p v1 v4)) := by
  intro n
  induction n with
  | zero =>
    intro p v1 v4 d5 hg H
    exact H.elim
  | succ n ih => exact r6_turnDay_13 (v6_turnDay_13 n) (g6_turnDay_13 n) ih (v6_turnDay_71 FU) (g6_turnDay_71 FU) (t6_turnDay_71 FU)
set_option maxRecDepth 100000 in
theorem r6_turnDay (kv13 : PM → Int32 → Int32 → Int32 × PM) (kg13 : PM → Int32 → Int32 → Prop) (hk13 : ∀ (p : PM) (v1 : Int32) (v4 : Int32) (d5 : ZV), Gr 0 p → kg13 p v1 v4 → ZJ 0 96 13 [zR 6 1, zI v1, zR 20 1, zC 40, zI v4, d5] [] p (hwI (kv13 p v1 v4))) : ∀ (p : PM), Gr 0 p → bg6_turnDay kg13 p → ZJ 0 96 0 [zR 6 1, zJ, zJ, zJ, zJ, zJ] [] p (hwI (bv6_turnDay kv13 p)) := by
  intro p   hg H
  exact rwI (n := 3000) (q := 0) (la := [zR 6 1, zJ, zJ, zJ, zJ, zJ]) (sa := []) (ks := [fun la sa s => kv13 s (ai la 1) (ai la 4), fun _ _ s => (0, s)]) (gs := [fun la sa s => zsw (tc2 la [(106, 1), (0, 0), (120, 1), (3, 40), (0, 0), (2, 0)] && tc2 sa []) False (kg13 s (ai la 1) (ai la 4)), fun _ _ _ => False]) (fnil) tab96 pc96 ⟨fun la sa s hg H => zcut H fun H => hk13 s (ai la 1) (ai la 4) (zld la 5) hg H, fun _ _ _ _ H => H.elim, trivial⟩ hg H
theorem t6_turnDay : ∀ (p : PM), Gr 0 p → g6_turnDay p → ZJ 0 96 0 [zR 6 1, zJ, zJ, zJ, zJ, zJ] [] p (hwI (v6_turnDay p)) := r6_turnDay (v6_turnDay_13 FU) (g6_turnDay_13 FU) (t6_turnDay_13 FU)
def CC96 (F : PM → Int32 × PM) (G : PM → Prop) : Cal := (96, [9], 1, false, fun as p => (zI (F p ).1, (F p ).2), fun as p => zsw (tc2 as [(106, 1)]) False (G p ))
set_option maxRecDepth 100000 in
theorem okr96 (F : PM → Int32 × PM) (G : PM → Prop) (h : ∀ (p : PM), Gr 0 p → G p  → ZJ 0 96 0 [zR 6 1, zJ, zJ, zJ, zJ, zJ] [] p (hwI (F p ))) : CalOK 0 (CC96 F G) := cal_ok (m := 6) (by unfold mL; rw [mX_96]) (fun as p hg H => h p  hg H)
theorem ok96 : CalOK 0 (CC96 v6_turnDay g6_turnDay) := okr96 v6_turnDay g6_turnDay t6_turnDay
noncomputable def bv7_reprice (F107 : PM → Int32 → Nat) (F108 : PM → Nat → Int32) (p : PM) (v1 : Int32) (v2 : Int32) : Int32 × PM :=
  if (F107 p v1) = 0 then (
    ((cn 0), p))
  else (
    let x1 : Int64 := (((p.1 4 (F107 p v1) 4)).toInt64 * ((v2 - (p.1 4 (F107 p v1) 3))).toInt64)
    let p2 : PM := pI p 4 (F107 p v1) 3 v2
    let p3 : PM := pJ p2 0 (p2.2.2 4 (F107 p v1) 1) 4 ((p2.2.1 0 (p2.2.2 4 (F107 p v1) 1) 4) - x1)
    let p4 : PM := pJ p3 0 (p3.2.2 4 (F107 p v1) 2) 4 ((p3.2.1 0 (p3.2.2 4 (F107 p v1) 2) 4) + x1)
    if (F108 p4 (p4.2.2 4 (F107 p v1) 0)) = v1 then (
      let p5 : PM := pI p4 1 (p4.2.2 4 (F107 p v1) 0) 3 v2
      ((p.1 4 (F107 p v1) 3), p5))
    else (
      ((p.1 4 (F107 p v1) 3), p4)))
noncomputable def v7_reprice (p : PM) (v1 : Int32) (v2 : Int32) : Int32 × PM := bv7_reprice v7_find v7_latestOf p v1 v2
noncomputable def bg7_reprice (F107 : PM → Int32 → Nat) (G107 : PM → Int32 → Prop) (F108 : PM → Nat → Int32) (G108 : PM → Nat → Prop) (p : PM) (v1 : Int32) (v2 : Int32) : Prop :=
  (G107 p v1) ∧ (
  if (F107 p v1) = 0 then (
    True)
  else (
    (¬ (F107 p v1) = 0) ∧ (
    (¬ (F107 p v1) = 0) ∧ (
    let x1 : Int64 := (((p.1 4 (F107 p v1) 4)).toInt64 * ((v2 - (p.1 4 (F107 p v1) 3))).toInt64)
    (¬ (F107 p v1) = 0) ∧ (
    let p2 : PM := pI p 4 (F107 p v1) 3 v2
    (¬ (F107 p v1) = 0) ∧ (
    (¬ (p2.2.2 4 (F107 p v1) 1) = 0) ∧ (
    (¬ (p2.2.2 4 (F107 p v1) 1) = 0) ∧ (
    let p3 : PM := pJ p2 0 (p2.2.2 4 (F107 p v1) 1) 4 ((p2.2.1 0 (p2.2.2 4 (F107 p v1) 1) 4) - x1)
    (¬ (F107 p v1) = 0) ∧ (
    (¬ (p3.2.2 4 (F107 p v1) 2) = 0) ∧ (
    (¬ (p3.2.2 4 (F107 p v1) 2) = 0) ∧ (
    let p4 : PM := pJ p3 0 (p3.2.2 4 (F107 p v1) 2) 4 ((p3.2.1 0 (p3.2.2 4 (F107 p v1) 2) 4) + x1)
    (¬ (F107 p v1) = 0) ∧ (
    (G108 p4 (p4.2.2 4 (F107 p v1) 0)) ∧ (
    if (F108 p4 (p4.2.2 4 (F107 p v1) 0)) = v1 then (
      (¬ (F107 p v1) = 0) ∧ (
      (¬ (p4.2.2 4 (F107 p v1) 0) = 0) ∧ (
      let p5 : PM := pI p4 1 (p4.2.2 4 (F107 p v1) 0) 3 v2
      True)))
    else (
      True))))))))))))))
noncomputable def g7_reprice (p : PM) (v1 : Int32) (v2 : Int32) : Prop := bg7_reprice v7_find g7_find v7_latestOf g7_latestOf p v1 v2
def R110 : List Row := [(0, .aload_n 0, 1, 0, (0, 0, 0, 0, 0, 0)), (1, .iload_n 1, 1, 0, (0, 0, 0, 0, 0, 0)), (2, .invokevirtual 59, 3, 0, (0, 2, 0, 0, 1, 0)), (5, .astore_n 3, 1, 0, (0, 0, 0, 0, 0, 0)), (6, .aload_n 3, 1, 0, (0, 0, 0, 0, 0, 0)), (7, .ifnonnull 5, 3, 0, (0, 0, 0, 0, 0, 0)), (10, .iconst 0, 1, 0, (0, 0, 0, 0, 0, 0)), (11, .ireturn, 1, 0, (0, 0, 0, 0, 0, 0)), (12, .aload_n 3, 1, 0, (0, 0, 0, 0, 0, 0)), (13, .getfield 82, 3, 0, (4, 3, 0, 0, 0, 0)), (16, .istore 4, 2, 0, (0, 0, 0, 0, 0, 0)), (18, .aload_n 3, 1, 0, (0, 0, 0, 0, 0, 0)), (19, .getfield 79, 3, 0, (4, 4, 0, 0, 0, 0)), (22, .i2l, 1, 0, (0, 0, 0, 0, 0, 0)), (23, .iload_n 2, 1, 0, (0, 0, 0, 0, 0, 0)), (24, .iload 4, 2, 0, (0, 0, 0, 0, 0, 0)), (26, .isub, 1, 0, (0, 0, 0, 0, 0, 0)), (27, .i2l, 1, 0, (0, 0, 0, 0, 0, 0)), (28, .lmul, 1, 0, (0, 0, 0, 0, 0, 0)), (29, .lstore 5, 2, 0, (0, 0, 0, 0, 0, 0)), (31, .aload_n 3, 1, 0, (0, 0, 0, 0, 0, 0)), (32, .iload_n 2, 1, 0, (0, 0, 0, 0, 0, 0)), (33, .putfield 82, 3, 0, (4, 3, 0, 0, 0, 0)), (36, .aload_n 3, 1, 0, (0, 0, 0, 0, 0, 0)), (37, .getfield 75, 3, 0, (4, 1, 3, 0, 0, 0)), (40, .dup, 1, 0, (0, 0, 0, 0, 0, 0)), (41, .getfield 91, 3, 0, (0, 4, 2, 0, 0, 0)), (44, .lload 5, 2, 0, (0, 0, 0, 0, 0, 0)), (46, .lsub, 1, 0, (0, 0, 0, 0, 0, 0)), (47, .putfield 91, 3, 0, (0, 4, 2, 0, 0, 0)), (50, .aload_n 3, 1, 0, (0, 0, 0, 0, 0, 0)), (51, .getfield 85, 3, 0, (4, 2, 3, 0, 0, 0)), (54, .dup, 1, 0, (0, 0, 0, 0, 0, 0)), (55, .getfield 91, 3, 0, (0, 4, 2, 0, 0, 0)), (58, .lload 5, 2, 0, (0, 0, 0, 0, 0, 0)), (60, .ladd, 1, 0, (0, 0, 0, 0, 0, 0)), (61, .putfield 91, 3, 0, (0, 4, 2, 0, 0, 0)), (64, .aload_n 0, 1, 0, (0, 0, 0, 0, 0, 0)), (65, .aload_n 3, 1, 0, (0, 0, 0, 0, 0, 0)), (66, .getfield 63, 3, 0, (4, 0, 4, 0, 0, 0)), (69, .invokevirtual 71, 3, 0, (1, 2, 0, 0, 1, 0)), (72, .iload_n 1, 1, 0, (0, 0, 0, 0, 0, 0)), (73, .if_icmp .ne 11, 3, 0, (0, 0, 0, 0, 0, 0)), (76, .aload_n 3, 1, 0, (0, 0, 0, 0, 0, 0)), (77, .getfield 63, 3, 0, (4, 0, 4, 0, 0, 0)), (80, .iload_n 2, 1, 0, (0, 0, 0, 0, 0, 0)), (81, .putfield 44, 3, 0, (1, 3, 0, 0, 0, 0)), (84, .iload 4, 2, 0, (0, 0, 0, 0, 0, 0)), (86, .ireturn, 1, 0, (0, 0, 0, 0, 0, 0))]
set_option maxRecDepth 100000 in
theorem rk110 : R110.all (rok 0 110 1 [(107, [10, 0]), (108, [10, 4])]) = true := by decide +kernel
set_option maxRecDepth 100000 in
theorem tab110 {F107 : PM → Int32 → Nat} {G107 : PM → Int32 → Prop} {F108 : PM → Nat → Int32} {G108 : PM → Nat → Prop} : TabOK 0 110 1 [CC107 F107 G107, CC108 F108 G108] R110 := tab_ok (K := K110) rfl rfl (fun h => d110 h) rk110 (by decide +kernel)
set_option maxRecDepth 100000 in
theorem pc110 : cutpc [] R110 = true := by decide +kernel
set_option maxRecDepth 100000 in
theorem r7_reprice (F107 : PM → Int32 → Nat) (G107 : PM → Int32 → Prop) (o107 : CalOK 0 (CC107 F107 G107)) (F108 : PM → Nat → Int32) (G108 : PM → Nat → Prop) (o108 : CalOK 0 (CC108 F108 G108)) : ∀ (p : PM) (v1 : Int32) (v2 : Int32), Gr 0 p → bg7_reprice F107 G107 F108 G108 p v1 v2 → ZJ 0 110 0 [zR 7 1, zI v1, zI v2, zJ, zJ, zJ, zJ] [] p (hwI (bv7_reprice F107 F108 p v1 v2)) := by
  intro p v1 v2  hg H
  exact rwI (n := 3000) (q := 0) (la := [zR 7 1, zI v1, zI v2, zJ, zJ, zJ, zJ]) (sa := []) (ks := []) (gs := []) (fcons o107 (fcons o108 (fnil))) tab110 pc110 trivial hg H
theorem t7_reprice : ∀ (p : PM) (v1 : Int32) (v2 : Int32), Gr 0 p → g7_reprice p v1 v2 → ZJ 0 110 0 [zR 7 1, zI v1, zI v2, zJ, zJ, zJ, zJ] [] p (hwI (v7_reprice p v1 v2)) := r7_reprice v7_find g7_find ok107 v7_latestOf g7_latestOf ok108
def CC110 (F : PM → Int32 → Int32 → Int32 × PM) (G : PM → Int32 → Int32 → Prop) : Cal := (110, [10, 0, 0], 1, false, fun as p => (zI (F p (ai as 1) (ai as 2)).1, (F p (ai as 1) (ai as 2)).2), fun as p => zsw (tc2 as [(107, 1), (0, 0), (0, 0)]) False (G p (ai as 1) (ai as 2)))
set_option maxRecDepth 100000 in
theorem okr110 (F : PM → Int32 → Int32 → Int32 × PM) (G : PM → Int32 → Int32 → Prop) (h : ∀ (p : PM) (v1 : Int32) (v2 : Int32), Gr 0 p → G p v1 v2 → ZJ 0 110 0 [zR 7 1, zI v1, zI v2, zJ, zJ, zJ, zJ] [] p (hwI (F p v1 v2))) : CalOK 0 (CC110 F G) := cal_ok (m := 7) (by unfold mL; rw [mX_110]) (fun as p hg H => h p (ai as 1) (ai as 2) hg H)
theorem ok110 : CalOK 0 (CC110 v7_reprice g7_reprice) := okr110 v7_reprice g7_reprice t7_reprice
noncomputable def bv7_replaceSide (F5 : PM → Nat → Nat → Int32 → Int32 → PM) (F105 : PM → Int32 → Nat) (F107 : PM → Int32 → Nat) (p : PM) (v1 : Int32) (v2 : Int32) (v3 : Int32) : Int32 × PM :=
  if (F107 p v1) = 0 then (
    ((cn 0), p))
  else (
    if v2 = 0 then (
      let x1 : Nat := (p.2.2 4 (F107 p v1) 2)
      if v2 = 0 then (
        let x2 : Int32 := (-(p.1 4 (F107 p v1) 4))
        let p3 : PM := F5 p x1 (p.2.2 4 (F107 p v1) 0) (-x2) (p.1 4 (F107 p v1) 3)
        let p4 : PM := F5 p3 (F105 p v3) (p3.2.2 4 (F107 p v1) 0) x2 (p3.1 4 (F107 p v1) 3)
        if v2 = 0 then (
          let p5 : PM := pR p4 4 (F107 p v1) 2 (F105 p v3)
          ((p5.1 0 x1 0), p5))
        else (
          let p6 : PM := pR p4 4 (F107 p v1) 1 (F105 p v3)
          ((p6.1 0 x1 0), p6)))
      else (
        let p7 : PM := F5 p x1 (p.2.2 4 (F107 p v1) 0) (-(p.1 4 (F107 p v1) 4)) (p.1 4 (F107 p v1) 3)
        let p8 : PM := F5 p7 (F105 p v3) (p7.2.2 4 (F107 p v1) 0) (p.1 4 (F107 p v1) 4) (p7.1 4 (F107 p v1) 3)
        if v2 = 0 then (
          let p9 : PM := pR p8 4 (F107 p v1) 2 (F105 p v3)
          ((p9.1 0 x1 0), p9))
        else (
          let p10 : PM := pR p8 4 (F107 p v1) 1 (F105 p v3)
          ((p10.1 0 x1 0), p10))))
    else (
      let x11 : Nat := (p.2.2 4 (F107 p v1) 1)
      if v2 = 0 then (
        let x12 : Int32 := (-(p.1 4 (F107 p v1) 4))
        let p13 : PM := F5 p x11 (p.2.2 4 (F107 p v1) 0) (-x12) (p.1 4 (F107 p v1) 3)
        let p14 : PM := F5 p13 (F105 p v3) (p13.2.2 4 (F107 p v1) 0) x12 (p13.1 4 (F107 p v1) 3)
        if v2 = 0 then (
          let p15 : PM := pR p14 4 (F107 p v1) 2 (F105 p v3)
          ((p15.1 0 x11 0), p15))
        else (
          let p16 : PM := pR p14 4 (F107 p v1) 1 (F105 p v3)
          ((p16.1 0 x11 0), p16)))
      else (
        let p17 : PM := F5 p x11 (p.2.2 4 (F107 p v1) 0) (-(p.1 4 (F107 p v1) 4)) (p.1 4 (F107 p v1) 3)
        let p18 : PM := F5 p17 (F105 p v3) (p17.2.2 4 (F107 p v1) 0) (p.1 4 (F107 p v1) 4) (p17.1 4 (F107 p v1) 3)
        if v2 = 0 then (
          let p19 : PM := pR p18 4 (F107 p v1) 2 (F105 p v3)
          ((p19.1 0 x11 0), p19))
        else (
          let p20 : PM := pR p18 4 (F107 p v1) 1 (F105 p v3)
          ((p20.1 0 x11 0), p20)))))
noncomputable def v7_replaceSide (p : PM) (v1 : Int32) (v2 : Int32) (v3 : Int32) : Int32 × PM := bv7_replaceSide v0_take v7_accountAt v7_find p v1 v2 v3
noncomputable def bg7_replaceSide (F5 : PM → Nat → Nat → Int32 → Int32 → PM) (G5 : PM → Nat → Nat → Int32 → Int32 → Prop) (F105 : PM → Int32 → Nat) (G105 : PM → Int32 → Prop) (F107 : PM → Int32 → Nat) (G107 : PM → Int32 → Prop) (p : PM) (v1 : Int32) (v2 : Int32) (v3 : Int32) : Prop :=
  (G107 p v1) ∧ (
  if (F107 p v1) = 0 then (
    True)
  else (
    if v2 = 0 then (
      (¬ (F107 p v1) = 0) ∧ (
      let x1 : Nat := (p.2.2 4 (F107 p v1) 2)
      (G105 p v3) ∧ (
      if v2 = 0 then (
        (¬ (F107 p v1) = 0) ∧ (
        let x2 : Int32 := (-(p.1 4 (F107 p v1) 4))
        (¬ (F107 p v1) = 0) ∧ (
        (¬ (F107 p v1) = 0) ∧ (
        (¬ x1 = 0) ∧ (
        (G5 p x1 (p.2.2 4 (F107 p v1) 0) (-x2) (p.1 4 (F107 p v1) 3)) ∧ (
        let p3 : PM := F5 p x1 (p.2.2 4 (F107 p v1) 0) (-x2) (p.1 4 (F107 p v1) 3)
        (¬ (F107 p v1) = 0) ∧ (
        (¬ (F107 p v1) = 0) ∧ (
        (¬ (F105 p v3) = 0) ∧ (
        (G5 p3 (F105 p v3) (p3.2.2 4 (F107 p v1) 0) x2 (p3.1 4 (F107 p v1) 3)) ∧ (
        let p4 : PM := F5 p3 (F105 p v3) (p3.2.2 4 (F107 p v1) 0) x2 (p3.1 4 (F107 p v1) 3)
        if v2 = 0 then (
          (¬ (F107 p v1) = 0) ∧ (
          let p5 : PM := pR p4 4 (F107 p v1) 2 (F105 p v3)
          (¬ x1 = 0) ∧ (
          True)))
        else (
          (¬ (F107 p v1) = 0) ∧ (
          let p6 : PM := pR p4 4 (F107 p v1) 1 (F105 p v3)
          (¬ x1 = 0) ∧ (
          True)))))))))))))
      else (
        (¬ (F107 p v1) = 0) ∧ (
        (¬ (F107 p v1) = 0) ∧ (
        (¬ (F107 p v1) = 0) ∧ (
        (¬ x1 = 0) ∧ (
        (G5 p x1 (p.2.2 4 (F107 p v1) 0) (-(p.1 4 (F107 p v1) 4)) (p.1 4 (F107 p v1) 3)) ∧ (
        let p7 : PM := F5 p x1 (p.2.2 4 (F107 p v1) 0) (-(p.1 4 (F107 p v1) 4)) (p.1 4 (F107 p v1) 3)
        (¬ (F107 p v1) = 0) ∧ (
        (¬ (F107 p v1) = 0) ∧ (
        (¬ (F105 p v3) = 0) ∧ (
        (G5 p7 (F105 p v3) (p7.2.2 4 (F107 p v1) 0) (p.1 4 (F107 p v1) 4) (p7.1 4 (F107 p v1) 3)) ∧ (
        let p8 : PM := F5 p7 (F105 p v3) (p7.2.2 4 (F107 p v1) 0) (p.1 4 (F107 p v1) 4) (p7.1 4 (F107 p v1) 3)
        if v2 = 0 then (
          (¬ (F107 p v1) = 0) ∧ (
          let p9 : PM := pR p8 4 (F107 p v1) 2 (F105 p v3)
          (¬ x1 = 0) ∧ (
          True)))
        else (
          (¬ (F107 p v1) = 0) ∧ (
          let p10 : PM := pR p8 4 (F107 p v1) 1 (F105 p v3)
          (¬ x1 = 0) ∧ (
          True))))))))))))))))
    else (
      (¬ (F107 p v1) = 0) ∧ (
      let x11 : Nat := (p.2.2 4 (F107 p v1) 1)
      (G105 p v3) ∧ (
      if v2 = 0 then (
        (¬ (F107 p v1) = 0) ∧ (
        let x12 : Int32 := (-(p.1 4 (F107 p v1) 4))
        (¬ (F107 p v1) = 0) ∧ (
        (¬ (F107 p v1) = 0) ∧ (
        (¬ x11 = 0) ∧ (
        (G5 p x11 (p.2.2 4 (F107 p v1) 0) (-x12) (p.1 4 (F107 p v1) 3)) ∧ (
        let p13 : PM := F5 p x11 (p.2.2 4 (F107 p v1) 0) (-x12) (p.1 4 (F107 p v1) 3)
        (¬ (F107 p v1) = 0) ∧ (
        (¬ (F107 p v1) = 0) ∧ (
        (¬ (F105 p v3) = 0) ∧ (
        (G5 p13 (F105 p v3) (p13.2.2 4 (F107 p v1) 0) x12 (p13.1 4 (F107 p v1) 3)) ∧ (
        let p14 : PM := F5 p13 (F105 p v3) (p13.2.2 4 (F107 p v1) 0) x12 (p13.1 4 (F107 p v1) 3)
        if v2 = 0 then (
          (¬ (F107 p v1) = 0) ∧ (
          let p15 : PM := pR p14 4 (F107 p v1) 2 (F105 p v3)
          (¬ x11 = 0) ∧ (
          True)))
        else (
          (¬ (F107 p v1) = 0) ∧ (
          let p16 : PM := pR p14 4 (F107 p v1) 1 (F105 p v3)
          (¬ x11 = 0) ∧ (
          True)))))))))))))
      else (
        (¬ (F107 p v1) = 0) ∧ (
        (¬ (F107 p v1) = 0) ∧ (
        (¬ (F107 p v1) = 0) ∧ (
        (¬ x11 = 0) ∧ (
        (G5 p x11 (p.2.2 4 (F107 p v1) 0) (-(p.1 4 (F107 p v1) 4)) (p.1 4 (F107 p v1) 3)) ∧ (
        let p17 : PM := F5 p x11 (p.2.2 4 (F107 p v1) 0) (-(p.1 4 (F107 p v1) 4)) (p.1 4 (F107 p v1) 3)
        (¬ (F107 p v1) = 0) ∧ (
        (¬ (F107 p v1) = 0) ∧ (
        (¬ (F105 p v3) = 0) ∧ (
        (G5 p17 (F105 p v3) (p17.2.2 4 (F107 p v1) 0) (p.1 4 (F107 p v1) 4) (p17.1 4 (F107 p v1) 3)) ∧ (
        let p18 : PM := F5 p17 (F105 p v3) (p17.2.2 4 (F107 p v1) 0) (p.1 4 (F107 p v1) 4) (p17.1 4 (F107 p v1) 3)
        if v2 = 0 then (
          (¬ (F107 p v1) = 0) ∧ (
          let p19 : PM := pR p18 4 (F107 p v1) 2 (F105 p v3)
          (¬ x11 = 0) ∧ (
          True)))
        else (
          (¬ (F107 p v1) = 0) ∧ (
          let p20 : PM := pR p18 4 (F107 p v1) 1 (F105 p v3)
          (¬ x11 = 0) ∧ (
          True))))))))))))))))))
noncomputable def g7_replaceSide (p : PM) (v1 : Int32) (v2 : Int32) (v3 : Int32) : Prop := bg7_replaceSide v0_take g0_take v7_accountAt g7_accountAt v7_find g7_find p v1 v2 v3
def R111 : List Row := [(0, .aload_n 0, 1, 0, (0, 0, 0, 0, 0, 0)), (1, .iload_n 1, 1, 0, (0, 0, 0, 0, 0, 0)), (2, .invokevirtual 59, 3, 0, (0, 2, 0, 0, 1, 0)), (5, .astore 4, 2, 0, (0, 0, 0, 0, 0, 0)), (7, .aload 4, 2, 0, (0, 0, 0, 0, 0, 0)), (9, .ifnonnull 5, 3, 0, (0, 0, 0, 0, 0, 0)), (12, .iconst 0, 1, 0, (0, 0, 0, 0, 0, 0)), (13, .ireturn, 1, 0, (0, 0, 0, 0, 0, 0)), (14, .iload_n 2, 1, 0, (0, 0, 0, 0, 0, 0)), (15, .ifCond .eq 11, 3, 0, (0, 0, 0, 0, 0, 0)), (18, .aload 4, 2, 0, (0, 0, 0, 0, 0, 0)), (20, .getfield 75, 3, 0, (4, 1, 3, 0, 0, 0)), (23, .goto 8, 3, 0, (0, 0, 0, 0, 0, 0)), (26, .aload 4, 2, 0, (0, 0, 0, 0, 0, 0)), (28, .getfield 85, 3, 0, (4, 2, 3, 0, 0, 0)), (31, .astore 5, 2, 0, (0, 0, 0, 0, 0, 0)), (33, .aload_n 0, 1, 0, (0, 0, 0, 0, 0, 0)), (34, .iload_n 3, 1, 0, (0, 0, 0, 0, 0, 0)), (35, .invokevirtual 95, 3, 0, (1, 2, 0, 0, 1, 0)), (38, .astore 6, 2, 0, (0, 0, 0, 0, 0, 0)), (40, .iload_n 2, 1, 0, (0, 0, 0, 0, 0, 0)), (41, .ifCond .eq 11, 3, 0, (0, 0, 0, 0, 0, 0)), (44, .aload 4, 2, 0, (0, 0, 0, 0, 0, 0)), (46, .getfield 79, 3, 0, (4, 4, 0, 0, 0, 0)), (49, .goto 9, 3, 0, (0, 0, 0, 0, 0, 0)), (52, .aload 4, 2, 0, (0, 0, 0, 0, 0, 0)), (54, .getfield 79, 3, 0, (4, 4, 0, 0, 0, 0)), (57, .ineg, 1, 0, (0, 0, 0, 0, 0, 0)), (58, .istore 7, 2, 0, (0, 0, 0, 0, 0, 0)), (60, .aload 5, 2, 0, (0, 0, 0, 0, 0, 0)), (62, .aload 4, 2, 0, (0, 0, 0, 0, 0, 0)), (64, .getfield 63, 3, 0, (4, 0, 4, 0, 0, 0)), (67, .iload 7, 2, 0, (0, 0, 0, 0, 0, 0)), (69, .ineg, 1, 0, (0, 0, 0, 0, 0, 0)), (70, .aload 4, 2, 0, (0, 0, 0, 0, 0, 0)), (72, .getfield 82, 3, 0, (4, 3, 0, 0, 0, 0)), (75, .invokevirtual 49, 3, 0, (2, 4, 0, 0, 2, 0)), (78, .aload 6, 2, 0, (0, 0, 0, 0, 0, 0)), (80, .aload 4, 2, 0, (0, 0, 0, 0, 0, 0)), (82, .getfield 63, 3, 0, (4, 0, 4, 0, 0, 0)), (85, .iload 7, 2, 0, (0, 0, 0, 0, 0, 0)), (87, .aload 4, 2, 0, (0, 0, 0, 0, 0, 0)), (89, .getfield 82, 3, 0, (4, 3, 0, 0, 0, 0)), (92, .invokevirtual 49, 3, 0, (2, 4, 0, 0, 2, 0)), (95, .iload_n 2, 1, 0, (0, 0, 0, 0, 0, 0)), (96, .ifCond .eq 13, 3, 0, (0, 0, 0, 0, 0, 0)), (99, .aload 4, 2, 0, (0, 0, 0, 0, 0, 0)), (101, .aload 6, 2, 0, (0, 0, 0, 0, 0, 0)), (103, .putfield 75, 3, 0, (4, 1, 3, 0, 0, 0)), (106, .goto 10, 3, 0, (0, 0, 0, 0, 0, 0)), (109, .aload 4, 2, 0, (0, 0, 0, 0, 0, 0)), (111, .aload 6, 2, 0, (0, 0, 0, 0, 0, 0)), (113, .putfield 85, 3, 0, (4, 2, 3, 0, 0, 0)), (116, .aload 5, 2, 0, (0, 0, 0, 0, 0, 0)), (118, .getfield 99, 3, 0, (0, 0, 0, 0, 0, 0)), (121, .ireturn, 1, 0, (0, 0, 0, 0, 0, 0))]
set_option maxRecDepth 100000 in
theorem rk111 : R111.all (rok 0 111 1 [(107, [10, 0]), (105, [10, 0]), (5, [3, 4, 0, 0])]) = true := by decide +kernel
set_option maxRecDepth 100000 in
theorem tab111 {F107 : PM → Int32 → Nat} {G107 : PM → Int32 → Prop} {F105 : PM → Int32 → Nat} {G105 : PM → Int32 → Prop} {F5 : PM → Nat → Nat → Int32 → Int32 → PM} {G5 : PM → Nat → Nat → Int32 → Int32 → Prop} : TabOK 0 111 1 [CC107 F107 G107, CC105 F105 G105, CC5 F5 G5] R111 := tab_ok (K := K111) rfl rfl (fun h => d111 h) rk111 (by decide +kernel)
set_option maxRecDepth 100000 in
theorem pc111 : cutpc [] R111 = true := by decide +kernel
set_option maxRecDepth 100000 in
theorem r7_replaceSide (F107 : PM → Int32 → Nat) (G107 : PM → Int32 → Prop) (o107 : CalOK 0 (CC107 F107 G107)) (F105 : PM → Int32 → Nat) (G105 : PM → Int32 → Prop) (o105 : CalOK 0 (CC105 F105 G105)) (F5 : PM → Nat → Nat → Int32 → Int32 → PM) (G5 : PM → Nat → Nat → Int32 → Int32 → Prop) (o5 : CalOK 0 (CC5 F5 G5)) : ∀ (p : PM) (v1 : Int32) (v2 : Int32) (v3 : Int32), Gr 0 p → bg7_replaceSide F5 G5 F105 G105 F107 G107 p v1 v2 v3 → ZJ 0 111 0 [zR 7 1, zI v1, zI v2, zI v3, zJ, zJ, zJ, zJ] [] p (hwI (bv7_replaceSide F5 F105 F107 p v1 v2 v3)) := by
  intro p v1 v2 v3  hg H
  exact rwI (n := 3000) (q := 0) (la := [zR 7 1, zI v1, zI v2, zI v3, zJ, zJ, zJ, zJ]) (sa := []) (ks := []) (gs := []) (fcons o107 (fcons o105 (fcons o5 (fnil)))) tab111 pc111 trivial hg H
theorem t7_replaceSide : ∀ (p : PM) (v1 : Int32) (v2 : Int32) (v3 : Int32), Gr 0 p → g7_replaceSide p v1 v2 v3 → ZJ 0 111 0 [zR 7 1, zI v1, zI v2, zI v3, zJ, zJ, zJ, zJ] [] p (hwI (v7_replaceSide p v1 v2 v3)) := r7_replaceSide v7_find g7_find ok107 v7_accountAt g7_accountAt ok105 v0_take g0_take ok5
def CC111 (F : PM → Int32 → Int32 → Int32 → Int32 × PM) (G : PM → Int32 → Int32 → Int32 → Prop) : Cal := (111, [10, 0, 0, 0], 1, false, fun as p => (zI (F p (ai as 1) (ai as 2) (ai as 3)).1, (F p (ai as 1) (ai as 2) (ai as 3)).2), fun as p => zsw (tc2 as [(107, 1), (0, 0), (0, 0), (0, 0)]) False (G p (ai as 1) (ai as 2) (ai as 3)))
set_option maxRecDepth 100000 in
theorem okr111 (F : PM → Int32 → Int32 → Int32 → Int32 × PM) (G : PM → Int32 → Int32 → Int32 → Prop) (h : ∀ (p : PM) (v1 : Int32) (v2 : Int32) (v3 : Int32), Gr 0 p → G p v1 v2 v3 → ZJ 0 111 0 [zR 7 1, zI v1, zI v2, zI v3, zJ, zJ, zJ, zJ] [] p (hwI (F p v1 v2 v3))) : CalOK 0 (CC111 F G) := cal_ok (m := 8) (by unfold mL; rw [mX_111]) (fun as p hg H => h p (ai as 1) (ai as 2) (ai as 3) hg H)
theorem ok111 : CalOK 0 (CC111 v7_replaceSide g7_replaceSide) := okr111 v7_replaceSide g7_replaceSide t7_replaceSide
noncomputable def bv7_averageOf_20 (p : PM) (F54 : PM → Nat → Int32) (F371 : PM → Int64 → Int64 → Int64) (kv20 : Nat → Int32 → Int32 → Int64 → Int64 → Int32 → Int32) (v1 : Nat) (v2 : Int32) (v3 : Int32) (v4 : Int64) (v6 : Int64) (v10 : Int32) : Int32 :=
  if v10 < (cn 60) then (
    if v3 = 0 then (
      let x1 : Nat := (p.2.2 4 ((v10).toNatClampNeg + 1) 2)
      if (F54 p ((v10).toNatClampNeg + 1)) = 0 then (
        kv20 v1 v2 v3 v4 v6 (v10 + (cn 1)))
      else (
        if (p.1 1 (p.2.2 4 ((v10).toNatClampNeg + 1) 0) 0) = v2 then (
          if x1 = v1 then (
            let x2 : Int64 := (v4 + (((p.1 4 ((v10).toNatClampNeg + 1) 3)).toInt64 * ((p.1 4 ((v10).toNatClampNeg + 1) 4)).toInt64))
            let x3 : Int64 := (v6 + ((p.1 4 ((v10).toNatClampNeg + 1) 4)).toInt64)
            kv20 v1 v2 v3 x2 x3 (v10 + (cn 1)))
          else (
            kv20 v1 v2 v3 v4 v6 (v10 + (cn 1))))
        else (
          kv20 v1 v2 v3 v4 v6 (v10 + (cn 1)))))
    else (
      let x4 : Nat := (p.2.2 4 ((v10).toNatClampNeg + 1) 1)
      if (F54 p ((v10).toNatClampNeg + 1)) = 0 then (
        kv20 v1 v2 v3 v4 v6 (v10 + (cn 1)))
      else (
        if (p.1 1 (p.2.2 4 ((v10).toNatClampNeg + 1) 0) 0) = v2 then (
          if x4 = v1 then (
            let x5 : Int64 := (v4 + (((p.1 4 ((v10).toNatClampNeg + 1) 3)).toInt64 * ((p.1 4 ((v10).toNatClampNeg + 1) 4)).toInt64))
            let x6 : Int64 := (v6 + ((p.1 4 ((v10).toNatClampNeg + 1) 4)).toInt64)
            kv20 v1 v2 v3 x5 x6 (v10 + (cn 1)))
          else (
            kv20 v1 v2 v3 v4 v6 (v10 + (cn 1))))
        else (
          kv20 v1 v2 v3 v4 v6 (v10 + (cn 1))))))
  else (
    if 0 < (lg_cmp v6 (cl 0)) then (
      ((F371 p v4 v6)).toInt32)
    else (
      (cn (-100000))))
noncomputable def v7_averageOf_20 (p : PM) (n : Nat) : Nat → Int32 → Int32 → Int64 → Int64 → Int32 → Int32 := Nat.rec (motive := fun _ => Nat → Int32 → Int32 → Int64 → Int64 → Int32 → Int32) (fun _ _ _ _ _ _ => 0) (fun _ ih => bv7_averageOf_20 p v4_counts v14_floorDiv_f86c9 ih) n
theorem ev7_averageOf_20 (p : PM) (n : Nat) (v1 : Nat) (v2 : Int32) (v3 : Int32) (v4 : Int64) (v6 : Int64) (v10 : Int32) : v7_averageOf_20 p (n + 1) v1 v2 v3 v4 v6 v10 = bv7_averageOf_20 p v4_counts v14_floorDiv_f86c9 (v7_averageOf_20 p n) v1 v2 v3 v4 v6 v10 := rfl
noncomputable def bg7_averageOf_20 (p : PM) (F54 : PM → Nat → Int32) (G54 : PM → Nat → Prop) (F371 : PM → Int64 → Int64 → Int64) (G371 : PM → Int64 → Int64 → Prop) (kg20 : Nat → Int32 → Int32 → Int64 → Int64 → Int32 → Prop) (v1 : Nat) (v2 : Int32) (v3 : Int32) (v4 : Int64) (v6 : Int64) (v10 : Int32) : Prop :=
  if v10 < (cn 60) then (
    (inb v10 60) ∧ (
    if v3 = 0 then (
      let x1 : Nat := (p.2.2 4 ((v10).toNatClampNeg + 1) 2)
      (G54 p ((v10).toNatClampNeg + 1)) ∧ (
      if (F54 p ((v10).toNatClampNeg + 1)) = 0 then (
        kg20 v1 v2 v3 v4 v6 (v10 + (cn 1)))
      else (
        (¬ (p.2.2 4 ((v10).toNatClampNeg + 1) 0) = 0) ∧ (
        if (p.1 1 (p.2.2 4 ((v10).toNatClampNeg + 1) 0) 0) = v2 then (
          if x1 = v1 then (
            let x2 : Int64 := (v4 + (((p.1 4 ((v10).toNatClampNeg + 1) 3)).toInt64 * ((p.1 4 ((v10).toNatClampNeg + 1) 4)).toInt64))
            let x3 : Int64 := (v6 + ((p.1 4 ((v10).toNatClampNeg + 1) 4)).toInt64)
            kg20 v1 v2 v3 x2 x3 (v10 + (cn 1)))
          else (
            kg20 v1 v2 v3 v4 v6 (v10 + (cn 1))))
        else (
          kg20 v1 v2 v3 v4 v6 (v10 + (cn 1)))))))
    else (
      let x4 : Nat := (p.2.2 4 ((v10).toNatClampNeg + 1) 1)
      (G54 p ((v10).toNatClampNeg + 1)) ∧ (
      if (F54 p ((v10).toNatClampNeg + 1)) = 0 then (
        kg20 v1 v2 v3 v4 v6 (v10 + (cn 1)))
      else (
        (¬ (p.2.2 4 ((v10).toNatClampNeg + 1) 0) = 0) ∧ (
        if (p.1 1 (p.2.2 4 ((v10).toNatClampNeg + 1) 0) 0) = v2 then (
          if x4 = v1 then (
            let x5 : Int64 := (v4 + (((p.1 4 ((v10).toNatClampNeg + 1) 3)).toInt64 * ((p.1 4 ((v10).toNatClampNeg + 1) 4)).toInt64))
            let x6 : Int64 := (v6 + ((p.1 4 ((v10).toNatClampNeg + 1) 4)).toInt64)
            kg20 v1 v2 v3 x5 x6 (v10 + (cn 1)))
          else (
            kg20 v1 v2 v3 v4 v6 (v10 + (cn 1))))
        else (
          kg20 v1 v2 v3 v4 v6 (v10 + (cn 1)))))))))
  else (
    if 0 < (lg_cmp v6 (cl 0)) then (
      (G371 p v4 v6) ∧ (
      True))
    else (
      True))
noncomputable def g7_averageOf_20 (p : PM) (n : Nat) : Nat → Int32 → Int32 → Int64 → Int64 → Int32 → Prop := Nat.rec (motive := fun _ => Nat → Int32 → Int32 → Int64 → Int64 → Int32 → Prop) (fun _ _ _ _ _ _ => False) (fun _ ih => bg7_averageOf_20 p v4_counts g4_counts v14_floorDiv_f86c9 g14_floorDiv_f86c9 ih) n
theorem eg7_averageOf_20 (p : PM) (n : Nat) (v1 : Nat) (v2 : Int32) (v3 : Int32) (v4 : Int64) (v6 : Int64) (v10 : Int32) : g7_averageOf_20 p (n + 1) v1 v2 v3 v4 v6 v10 = bg7_averageOf_20 p v4_counts g4_counts v14_floorDiv_f86c9 g14_floorDiv_f86c9 (g7_averageOf_20 p n) v1 v2 v3 v4 v6 v10 := rfl
noncomputable def bv7_averageOf (p : PM) (kv20 : Nat → Int32 → Int32 → Int64 → Int64 → Int32 → Int32) (v1 : Nat) (v2 : Int32) (v3 : Int32) : Int32 :=
  kv20 v1 v2 v3 (cl 0) (cl 0) (cn 0)
noncomputable def v7_averageOf (p : PM) (v1 : Nat) (v2 : Int32) (v3 : Int32) : Int32 := bv7_averageOf p (v7_averageOf_20 p FU) v1 v2 v3
noncomputable def bg7_averageOf (p : PM) (kg20 : Nat → Int32 → Int32 → Int64 → Int64 → Int32 → Prop) (v1 : Nat) (v2 : Int32) (v3 : Int32) : Prop :=
  kg20 v1 v2 v3 (cl 0) (cl 0) (cn 0)
noncomputable def g7_averageOf (p : PM) (v1 : Nat) (v2 : Int32) (v3 : Int32) : Prop := bg7_averageOf p (g7_averageOf_20 p FU) v1 v2 v3
def R112 : List Row := [(0, .lconst 0, 1, 0, (0, 0, 0, 0, 0, 0)), (1, .lstore 4, 2, 0, (0, 0, 0, 0, 0, 0)), (3, .lconst 0, 1, 0, (0, 0, 0, 0, 0, 0)), (4, .lstore 6, 2, 0, (0, 0, 0, 0, 0, 0)), (6, .aload_n 0, 1, 0, (0, 0, 0, 0, 0, 0)), (7, .getfield 19, 3, 0, (7, 1, 21, 2, 1, 0)), (10, .astore 8, 2, 0, (0, 0, 0, 0, 0, 0)), (12, .aload 8, 2, 0, (0, 0, 0, 0, 0, 0)), (14, .arraylength, 1, 0, (18, 60, 0, 0, 0, 60)), (15, .istore 9, 2, 0, (0, 0, 0, 0, 0, 0)), (17, .iconst 0, 1, 0, (0, 0, 0, 0, 0, 0)), (18, .istore 10, 2, 0, (0, 0, 0, 0, 0, 0)), (20, .iload 10, 2, 1, (0, 0, 0, 0, 0, 0)), (22, .iload 9, 2, 0, (0, 0, 0, 0, 0, 0)), (24, .if_icmp .ge 90, 3, 0, (0, 0, 0, 0, 0, 0)), (27, .aload 8, 2, 0, (0, 0, 0, 0, 0, 0)), (29, .iload 10, 2, 0, (0, 0, 0, 0, 0, 0)), (31, .aaload, 1, 0, (18, 60, 0, 1, 1, 0)), (32, .astore 11, 2, 0, (0, 0, 0, 0, 0, 0)), (34, .iload_n 3, 1, 0, (0, 0, 0, 0, 0, 0)), (35, .ifCond .eq 11, 3, 0, (0, 0, 0, 0, 0, 0)), (38, .aload 11, 2, 0, (0, 0, 0, 0, 0, 0)), (40, .getfield 75, 3, 0, (4, 1, 3, 1, 0, 0)), (43, .goto 8, 3, 0, (0, 0, 0, 0, 0, 0)), (46, .aload 11, 2, 0, (0, 0, 0, 0, 0, 0)), (48, .getfield 85, 3, 0, (4, 2, 3, 1, 0, 0)), (51, .astore 12, 2, 0, (0, 0, 0, 0, 0, 0)), (53, .aload 11, 2, 0, (0, 0, 0, 0, 0, 0)), (55, .invokevirtual 102, 3, 0, (1, 1, 0, 0, 1, 0)), (58, .ifCond .eq 50, 3, 0, (0, 0, 0, 0, 0, 0)), (61, .aload 11, 2, 0, (0, 0, 0, 0, 0, 0)), (63, .getfield 63, 3, 0, (4, 0, 4, 1, 0, 0)), (66, .getfield 106, 3, 0, (1, 0, 0, 0, 0, 0)), (69, .iload_n 2, 1, 0, (0, 0, 0, 0, 0, 0)), (70, .if_icmp .ne 38, 3, 0, (0, 0, 0, 0, 0, 0)), (73, .aload 12, 2, 0, (0, 0, 0, 0, 0, 0)), (75, .aload_n 1, 1, 0, (0, 0, 0, 0, 0, 0)), (76, .if_acmp .ne 32, 3, 0, (0, 0, 0, 0, 0, 0)), (79, .lload 4, 2, 0, (0, 0, 0, 0, 0, 0)), (81, .aload 11, 2, 0, (0, 0, 0, 0, 0, 0)), (83, .getfield 82, 3, 0, (4, 3, 0, 1, 0, 0)), (86, .i2l, 1, 0, (0, 0, 0, 0, 0, 0)), (87, .aload 11, 2, 0, (0, 0, 0, 0, 0, 0)), (89, .getfield 79, 3, 0, (4, 4, 0, 1, 0, 0)), (92, .i2l, 1, 0, (0, 0, 0, 0, 0, 0)), (93, .lmul, 1, 0, (0, 0, 0, 0, 0, 0)), (94, .ladd, 1, 0, (0, 0, 0, 0, 0, 0)), (95, .lstore 4, 2, 0, (0, 0, 0, 0, 0, 0)), (97, .lload 6, 2, 0, (0, 0, 0, 0, 0, 0)), (99, .aload 11, 2, 0, (0, 0, 0, 0, 0, 0)), (101, .getfield 79, 3, 0, (4, 4, 0, 1, 0, 0)), (104, .i2l, 1, 0, (0, 0, 0, 0, 0, 0)), (105, .ladd, 1, 0, (0, 0, 0, 0, 0, 0)), (106, .lstore 6, 2, 0, (0, 0, 0, 0, 0, 0)), (108, .iinc 10 1, 3, 0, (0, 0, 0, 0, 0, 1)), (111, .goto (-91), 3, 0, (0, 0, 0, 0, 0, 0)), (114, .lload 6, 2, 0, (0, 0, 0, 0, 0, 0)), (116, .lconst 0, 1, 0, (0, 0, 0, 0, 0, 0)), (117, .lcmp, 1, 0, (0, 0, 0, 0, 0, 0)), (118, .ifCond .le 14, 3, 0, (0, 0, 0, 0, 0, 0)), (121, .lload 4, 2, 0, (0, 0, 0, 0, 0, 0)), (123, .lload 6, 2, 0, (0, 0, 0, 0, 0, 0)), (125, .invokestatic 107, 3, 0, (0, 2, 0, 0, 0, 0)), (128, .l2i, 1, 0, (0, 0, 0, 0, 0, 0)), (129, .goto 5, 3, 0, (0, 0, 0, 0, 0, 0)), (132, .ldc 70, 2, 0, (0, 0, 0, 0, 0, -100000)), (134, .ireturn, 1, 0, (0, 0, 0, 0, 0, 0))]
set_option maxRecDepth 100000 in
theorem rk112 : R112.all (rok 0 112 1 [(371, [1, 1]), (54, [7])]) = true := by decide +kernel
set_option maxRecDepth 100000 in
theorem tab112 {F371 : PM → Int64 → Int64 → Int64} {G371 : PM → Int64 → Int64 → Prop} {F54 : PM → Nat → Int32} {G54 : PM → Nat → Prop} : TabOK 0 112 1 [CC371 F371 G371, CC54 F54 G54] R112 := tab_ok (K := K112) rfl rfl (fun h => d112 h) rk112 (by decide +kernel)
set_option maxRecDepth 100000 in
theorem pc112 : cutpc [20] R112 = true := by decide +kernel
set_option maxRecDepth 100000 in
theorem r7_averageOf_20 (p : PM) (hg : Gr 0 p) (F371 : PM → Int64 → Int64 → Int64) (G371 : PM → Int64 → Int64 → Prop) (o371 : CalOK 0 (CC371 F371 G371)) (F54 : PM → Nat → Int32) (G54 : PM → Nat → Prop) (o54 : CalOK 0 (CC54 F54 G54)) (kv20 : Nat → Int32 → Int32 → Int64 → Int64 → Int32 → Int32) (kg20 : Nat → Int32 → Int32 → Int64 → Int64 → Int32 → Prop) (hk20 : ∀ (v1 : Nat) (v2 : Int32) (v3 : Int32) (v4 : Int64) (v6 : Int64) (v10 : Int32) (d0 d5 d7 d11 d12 : ZV), kg20 v1 v2 v3 v4 v6 v10 → ZJ 0 112 20 [d0, zR 0 v1, zI v2, zI v3, zL v4, d5, zL v6, d7, zR 18 1, zC 60, zI v10, d11, d12] [] p (hoI p (kv20 v1 v2 v3 v4 v6 v10))) : ∀ (v1 : Nat) (v2 : Int32) (v3 : Int32) (v4 : Int64) (v6 : Int64) (v10 : Int32) (d0 d5 d7 d11 d12 : ZV), bg7_averageOf_20 p F54 G54 F371 G371 kg20 v1 v2 v3 v4 v6 v10 → ZJ 0 112 20 [d0, zR 0 v1, zI v2, zI v3, zL v4, d5, zL v6, d7, zR 18 1, zC 60, zI v10, d11, d12] [] p (hoI p (bv7_averageOf_20 p F54 F371 kv20 v1 v2 v3 v4 v6 v10)) := by
  intro v1 v2 v3 v4 v6 v10 d0 d5 d7 d11 d12 H
  exact roI (n := 3000) (q := 20) (la := [d0, zR 0 v1, zI v2, zI v3, zL v4, d5, zL v6, d7, zR 18 1, zC 60, zI v10, d11, d12]) (sa := []) (ks := [fun la sa _ => kv20 (ar la 1) (ai la 2) (ai la 3) (al la 4) (al la 6) (ai la 10)]) (gs := [fun la sa _ => zsw (tc2 la [(2, 0), (4, 0), (0, 0), (0, 0), (1, 0), (2, 0), (1, 0), (2, 0), (118, 1), (3, 60), (0, 0), (2, 0), (2, 0)] && tc2 sa []) False (kg20 (ar la 1) (ai la 2) (ai la 3) (al la 4) (al la 6) (ai la 10))]) (fcons o371 (fcons o54 (fnil))) tab112 pc112 ⟨fun la sa s hg H => zcut H fun H => hk20 (ar la 1) (ai la 2) (ai la 3) (al la 4) (al la 6) (ai la 10) (zld la 0) (zld la 5) (zld la 7) (zld la 11) (zld la 12) H, trivial⟩ hg H
theorem t7_averageOf_20 (p : PM) (hg : Gr 0 p) : ∀ (n : Nat), ∀ (v1 : Nat) (v2 : Int32) (v3 : Int32) (v4 : Int64) (v6 : Int64) (v10 : Int32) (d0 d5 d7 d11 d12 : ZV), g7_averageOf_20 p n v1 v2 v3 v4 v6 v10 → ZJ 0 112 20 [d0, zR 0 v1, zI v2, zI v3, zL v4, d5, zL v6, d7, zR 18 1, zC 60, zI v10, d11, d12] [] p (hoI p (v7_averageOf_20 p n v1 v2 v3 v4 v6 v10)) := by
  intro n
  induction n with
  | zero =>
    intro v1 v2 v3 v4 v6 v10 d0 d5 d7 d11 d12 H
    exact H.elim
  | succ n ih => exact r7_averageOf_20 p hg v14_floorDiv_f86c9 g14_floorDiv_f86c9 ok371 v4_counts g4_counts ok54 (v7_averageOf_20 p n) (g7_averageOf_20 p n) ih
set_option maxRecDepth 100000 in
theorem r7_averageOf (p : PM) (hg : Gr 0 p) (F371 : PM → Int64 → Int64 → Int64) (G371 : PM → Int64 → Int64 → Prop) (o371 : CalOK 0 (CC371 F371 G371)) (F54 : PM → Nat → Int32) (G54 : PM → Nat → Prop) (o54 : CalOK 0 (CC54 F54 G54)) (kv20 : Nat → Int32 → Int32 → Int64 → Int64 → Int32 → Int32) (kg20 : Nat → Int32 → Int32 → Int64 → Int64 → Int32 → Prop) (hk20 : ∀ (v1 : Nat) (v2 : Int32) (v3 : Int32) (v4 : Int64) (v6 : Int64) (v10 : Int32) (d0 d5 d7 d11 d12 : ZV), kg20 v1 v2 v3 v4 v6 v10 → ZJ 0 112 20 [d0, zR 0 v1, zI v2, zI v3, zL v4, d5, zL v6, d7, zR 18 1, zC 60, zI v10, d11, d12] [] p (hoI p (kv20 v1 v2 v3 v4 v6 v10))) : ∀ (v1 : Nat) (v2 : Int32) (v3 : Int32), bg7_averageOf p kg20 v1 v2 v3 → ZJ 0 112 0 [zR 7 1, zR 0 v1, zI v2, zI v3, zJ, zJ, zJ, zJ, zJ, zJ, zJ, zJ, zJ] [] p (hoI p (bv7_averageOf p kv20 v1 v2 v3)) := by
  intro v1 v2 v3  H
  exact roI (n := 3000) (q := 0) (la := [zR 7 1, zR 0 v1, zI v2, zI v3, zJ, zJ, zJ, zJ, zJ, zJ, zJ, zJ, zJ]) (sa := []) (ks := [fun la sa _ => kv20 (ar la 1) (ai la 2) (ai la 3) (al la 4) (al la 6) (ai la 10)]) (gs := [fun la sa _ => zsw (tc2 la [(2, 0), (4, 0), (0, 0), (0, 0), (1, 0), (2, 0), (1, 0), (2, 0), (118, 1), (3, 60), (0, 0), (2, 0), (2, 0)] && tc2 sa []) False (kg20 (ar la 1) (ai la 2) (ai la 3) (al la 4) (al la 6) (ai la 10))]) (fcons o371 (fcons o54 (fnil))) tab112 pc112 ⟨fun la sa s hg H => zcut H fun H => hk20 (ar la 1) (ai la 2) (ai la 3) (al la 4) (al la 6) (ai la 10) (zld la 0) (zld la 5) (zld la 7) (zld la 11) (zld la 12) H, trivial⟩ hg H
theorem t7_averageOf (p : PM) (hg : Gr 0 p) : ∀ (v1 : Nat) (v2 : Int32) (v3 : Int32), g7_averageOf p v1 v2 v3 → ZJ 0 112 0 [zR 7 1, zR 0 v1, zI v2, zI v3, zJ, zJ, zJ, zJ, zJ, zJ, zJ, zJ, zJ] [] p (hoI p (v7_averageOf p v1 v2 v3)) := r7_averageOf p hg v14_floorDiv_f86c9 g14_floorDiv_f86c9 ok371 v4_counts g4_counts ok54 (v7_averageOf_20 p FU) (g7_averageOf_20 p FU) (t7_averageOf_20 p hg FU)
def CC112 (F : PM → Nat → Int32 → Int32 → Int32) (G : PM → Nat → Int32 → Int32 → Prop) : Cal := (112, [10, 3, 0, 0], 1, true, fun as p => (zI (F p (ar as 1) (ai as 2) (ai as 3)), p), fun as p => zsw (tc2 as [(107, 1), (4, 0), (0, 0), (0, 0)]) False (G p (ar as 1) (ai as 2) (ai as 3)))
set_option maxRecDepth 100000 in
theorem okr112 (F : PM → Nat → Int32 → Int32 → Int32) (G : PM → Nat → Int32 → Int32 → Prop) (h : ∀ (p : PM) (v1 : Nat) (v2 : Int32) (v3 : Int32), Gr 0 p → G p v1 v2 v3 → ZJ 0 112 0 [zR 7 1, zR 0 v1, zI v2, zI v3, zJ, zJ, zJ, zJ, zJ, zJ, zJ, zJ, zJ] [] p (hoI p (F p v1 v2 v3))) : CalOK 0 (CC112 F G) := cal_ok (m := 13) (by unfold mL; rw [mX_112]) (fun as p hg H => h p (ar as 1) (ai as 2) (ai as 3) hg H)
theorem ok112 : CalOK 0 (CC112 v7_averageOf g7_averageOf) := okr112 v7_averageOf g7_averageOf (fun p v1 v2 v3 hg H => t7_averageOf p hg v1 v2 v3 H)
noncomputable def bv7_canAllot (p : PM) (F2 : PM → Nat → Int32 → Int32) (F105 : PM → Int32 → Nat) (F112 : PM → Nat → Int32 → Int32 → Int32) (v1 : Int32) (v2 : Int32) (v3 : Int32) : Int32 :=
  let x1 : Int32 := (F2 p (F105 p v1) v2)
  if 0 < v3 then (
    if x1 < v3 then (
      (cn 0))
    else (
      if 0 < v3 then (
        if (F112 p (F105 p v1) v2 (cn 1)) = (cn (-100000)) then (
          (cn 0))
        else (
          (cn 1)))
      else (
        if (F112 p (F105 p v1) v2 (cn 0)) = (cn (-100000)) then (
          (cn 0))
        else (
          (cn 1)))))
  else (
    if v3 < x1 then (
      (cn 0))
    else (
      if 0 < v3 then (
        if (F112 p (F105 p v1) v2 (cn 1)) = (cn (-100000)) then (
          (cn 0))
        else (
          (cn 1)))
      else (
        if (F112 p (F105 p v1) v2 (cn 0)) = (cn (-100000)) then (
          (cn 0))
        else (
          (cn 1)))))
noncomputable def v7_canAllot (p : PM) (v1 : Int32) (v2 : Int32) (v3 : Int32) : Int32 := bv7_canAllot p v0_holds v7_accountAt v7_averageOf v1 v2 v3
noncomputable def bg7_canAllot (p : PM) (F2 : PM → Nat → Int32 → Int32) (G2 : PM → Nat → Int32 → Prop) (F105 : PM → Int32 → Nat) (G105 : PM → Int32 → Prop) (F112 : PM → Nat → Int32 → Int32 → Int32) (G112 : PM → Nat → Int32 → Int32 → Prop) (v1 : Int32) (v2 : Int32) (v3 : Int32) : Prop :=
  (G105 p v1) ∧ (
  (¬ (F105 p v1) = 0) ∧ (
  (G2 p (F105 p v1) v2) ∧ (
  let x1 : Int32 := (F2 p (F105 p v1) v2)
  if 0 < v3 then (
    if x1 < v3 then (
      True)
    else (
      if 0 < v3 then (
        (G112 p (F105 p v1) v2 (cn 1)) ∧ (
        if (F112 p (F105 p v1) v2 (cn 1)) = (cn (-100000)) then (
          True)
        else (
          True)))
      else (
        (G112 p (F105 p v1) v2 (cn 0)) ∧ (
        if (F112 p (F105 p v1) v2 (cn 0)) = (cn (-100000)) then (
          True)
        else (
          True)))))
  else (
    if v3 < x1 then (
      True)
    else (
      if 0 < v3 then (
        (G112 p (F105 p v1) v2 (cn 1)) ∧ (
        if (F112 p (F105 p v1) v2 (cn 1)) = (cn (-100000)) then (
          True)
        else (
          True)))
      else (
        (G112 p (F105 p v1) v2 (cn 0)) ∧ (
        if (F112 p (F105 p v1) v2 (cn 0)) = (cn (-100000)) then (
          True)
        else (
          True))))))))
noncomputable def g7_canAllot (p : PM) (v1 : Int32) (v2 : Int32) (v3 : Int32) : Prop := bg7_canAllot p v0_holds g0_holds v7_accountAt g7_accountAt v7_averageOf g7_averageOf v1 v2 v3
def R113 : List Row := [(0, .aload_n 0, 1, 0, (0, 0, 0, 0, 0, 0)), (1, .iload_n 1, 1, 0, (0, 0, 0, 0, 0, 0)), (2, .invokevirtual 95, 3, 0, (0, 2, 0, 0, 1, 0)), (5, .astore 4, 2, 0, (0, 0, 0, 0, 0, 0)), (7, .aload 4, 2, 0, (0, 0, 0, 0, 0, 0)), (9, .iload_n 2, 1, 0, (0, 0, 0, 0, 0, 0)), (10, .invokevirtual 111, 3, 0, (1, 2, 0, 0, 2, 0)), (13, .istore 5, 2, 0, (0, 0, 0, 0, 0, 0)), (15, .iload_n 3, 1, 0, (0, 0, 0, 0, 0, 0)), (16, .ifCond .le 17, 3, 0, (0, 0, 0, 0, 0, 0)), (19, .iload 5, 2, 0, (0, 0, 0, 0, 0, 0)), (21, .iload_n 3, 1, 0, (0, 0, 0, 0, 0, 0)), (22, .if_icmp .lt 7, 3, 0, (0, 0, 0, 0, 0, 0)), (25, .iconst 1, 1, 0, (0, 0, 0, 0, 0, 1)), (26, .goto 18, 3, 0, (0, 0, 0, 0, 0, 0)), (29, .iconst 0, 1, 0, (0, 0, 0, 0, 0, 0)), (30, .goto 14, 3, 0, (0, 0, 0, 0, 0, 0)), (33, .iload 5, 2, 0, (0, 0, 0, 0, 0, 0)), (35, .iload_n 3, 1, 0, (0, 0, 0, 0, 0, 0)), (36, .if_icmp .gt 7, 3, 0, (0, 0, 0, 0, 0, 0)), (39, .iconst 1, 1, 0, (0, 0, 0, 0, 0, 1)), (40, .goto 4, 3, 0, (0, 0, 0, 0, 0, 0)), (43, .iconst 0, 1, 0, (0, 0, 0, 0, 0, 0)), (44, .istore 6, 2, 0, (0, 0, 0, 0, 0, 0)), (46, .iload 6, 2, 0, (0, 0, 0, 0, 0, 0)), (48, .ifCond .eq 28, 3, 0, (0, 0, 0, 0, 0, 0)), (51, .aload_n 0, 1, 0, (0, 0, 0, 0, 0, 0)), (52, .aload 4, 2, 0, (0, 0, 0, 0, 0, 0)), (54, .iload_n 2, 1, 0, (0, 0, 0, 0, 0, 0)), (55, .iload_n 3, 1, 0, (0, 0, 0, 0, 0, 0)), (56, .ifCond .le 7, 3, 0, (0, 0, 0, 0, 0, 0)), (59, .iconst 1, 1, 0, (0, 0, 0, 0, 0, 1)), (60, .goto 4, 3, 0, (0, 0, 0, 0, 0, 0)), (63, .iconst 0, 1, 0, (0, 0, 0, 0, 0, 0)), (64, .invokevirtual 115, 3, 0, (2, 4, 0, 0, 1, 0)), (67, .ldc 70, 2, 0, (0, 0, 0, 0, 0, -100000)), (69, .if_icmp .eq 7, 3, 0, (0, 0, 0, 0, 0, 0)), (72, .iconst 1, 1, 0, (0, 0, 0, 0, 0, 1)), (73, .goto 4, 3, 0, (0, 0, 0, 0, 0, 0)), (76, .iconst 0, 1, 0, (0, 0, 0, 0, 0, 0)), (77, .ireturn, 1, 0, (1, 0, 0, 0, 0, 0))]
set_option maxRecDepth 100000 in
theorem rk113 : R113.all (rok 0 113 1 [(105, [10, 0]), (2, [3, 0]), (112, [10, 3, 0, 0])]) = true := by decide +kernel
set_option maxRecDepth 100000 in
theorem tab113 {F105 : PM → Int32 → Nat} {G105 : PM → Int32 → Prop} {F2 : PM → Nat → Int32 → Int32} {G2 : PM → Nat → Int32 → Prop} {F112 : PM → Nat → Int32 → Int32 → Int32} {G112 : PM → Nat → Int32 → Int32 → Prop} : TabOK 0 113 1 [CC105 F105 G105, CC2 F2 G2, CC112 F112 G112] R113 := tab_ok (K := K113) rfl rfl (fun h => d113 h) rk113 (by decide +kernel)
set_option maxRecDepth 100000 in
theorem pc113 : cutpc [] R113 = true := by decide +kernel
set_option maxRecDepth 100000 in
theorem r7_canAllot (p : PM) (hg : Gr 0 p) (F105 : PM → Int32 → Nat) (G105 : PM → Int32 → Prop) (o105 : CalOK 0 (CC105 F105 G105)) (F2 : PM → Nat → Int32 → Int32) (G2 : PM → Nat → Int32 → Prop) (o2 : CalOK 0 (CC2 F2 G2)) (F112 : PM → Nat → Int32 → Int32 → Int32) (G112 : PM → Nat → Int32 → Int32 → Prop) (o112 : CalOK 0 (CC112 F112 G112)) : ∀ (v1 : Int32) (v2 : Int32) (v3 : Int32), bg7_canAllot p F2 G2 F105 G105 F112 G112 v1 v2 v3 → ZJ 0 113 0 [zR 7 1, zI v1, zI v2, zI v3, zJ, zJ, zJ] [] p (hoI p (bv7_canAllot p F2 F105 F112 v1 v2 v3)) := by
  intro v1 v2 v3  H
  exact roI (n := 3000) (q := 0) (la := [zR 7 1, zI v1, zI v2, zI v3, zJ, zJ, zJ]) (sa := []) (ks := []) (gs := []) (fcons o105 (fcons o2 (fcons o112 (fnil)))) tab113 pc113 trivial hg H
theorem t7_canAllot (p : PM) (hg : Gr 0 p) : ∀ (v1 : Int32) (v2 : Int32) (v3 : Int32), g7_canAllot p v1 v2 v3 → ZJ 0 113 0 [zR 7 1, zI v1, zI v2, zI v3, zJ, zJ, zJ] [] p (hoI p (v7_canAllot p v1 v2 v3)) := r7_canAllot p hg v7_accountAt g7_accountAt ok105 v0_holds g0_holds ok2 v7_averageOf g7_averageOf ok112
def CC113 (F : PM → Int32 → Int32 → Int32 → Int32) (G : PM → Int32 → Int32 → Int32 → Prop) : Cal := (113, [10, 0, 0, 0], 1, true, fun as p => (zI (F p (ai as 1) (ai as 2) (ai as 3)), p), fun as p => zsw (tc2 as [(107, 1), (0, 0), (0, 0), (0, 0)]) False (G p (ai as 1) (ai as 2) (ai as 3)))
set_option maxRecDepth 100000 in
theorem okr113 (F : PM → Int32 → Int32 → Int32 → Int32) (G : PM → Int32 → Int32 → Int32 → Prop) (h : ∀ (p : PM) (v1 : Int32) (v2 : Int32) (v3 : Int32), Gr 0 p → G p v1 v2 v3 → ZJ 0 113 0 [zR 7 1, zI v1, zI v2, zI v3, zJ, zJ, zJ] [] p (hoI p (F p v1 v2 v3))) : CalOK 0 (CC113 F G) := cal_ok (m := 7) (by unfold mL; rw [mX_113]) (fun as p hg H => h p (ai as 1) (ai as 2) (ai as 3) hg H)
theorem ok113 : CalOK 0 (CC113 v7_canAllot g7_canAllot) := okr113 v7_canAllot g7_canAllot (fun p v1 v2 v3 hg H => t7_canAllot p hg v1 v2 v3 H)
noncomputable def bv7_allotLots (F2 : PM → Nat → Int32 → Int32) (F4 : PM → Nat → Int32 → Int32 → PM) (F105 : PM → Int32 → Nat) (F112 : PM → Nat → Int32 → Int32 → Int32) (p : PM) (v1 : Int32) (v2 : Int32) (v3 : Int32) (v4 : Int32) : Int32 × PM :=
  if 0 < v4 then (
    let x6 : Int32 := (F112 p (F105 p v1) v3 (cn 1))
    let p7 : PM := F4 p (F105 p v1) v3 ((F2 p (F105 p v1) v3) - v4)
    let p8 : PM := F4 p7 (F105 p v2) v3 ((F2 p7 (F105 p v2) v3) + v4)
    let p9 : PM := pJ p8 0 (F105 p v1) 4 ((p8.2.1 0 (F105 p v1) 4) + ((v4).toInt64 * (x6).toInt64))
    let p10 : PM := pJ p9 0 (F105 p v2) 4 ((p9.2.1 0 (F105 p v2) 4) - ((v4).toInt64 * (x6).toInt64))
    (x6, p10))
  else (
    let x1 : Int32 := (F112 p (F105 p v1) v3 (cn 0))
    let p2 : PM := F4 p (F105 p v1) v3 ((F2 p (F105 p v1) v3) - v4)
    let p3 : PM := F4 p2 (F105 p v2) v3 ((F2 p2 (F105 p v2) v3) + v4)
    let p4 : PM := pJ p3 0 (F105 p v1) 4 ((p3.2.1 0 (F105 p v1) 4) + ((v4).toInt64 * (x1).toInt64))
    let p5 : PM := pJ p4 0 (F105 p v2) 4 ((p4.2.1 0 (F105 p v2) 4) - ((v4).toInt64 * (x1).toInt64))
    (x1, p5))
noncomputable def v7_allotLots (p : PM) (v1 : Int32) (v2 : Int32) (v3 : Int32) (v4 : Int32) : Int32 × PM := bv7_allotLots v0_holds v0_put v7_accountAt v7_averageOf p v1 v2 v3 v4
noncomputable def bg7_allotLots (F2 : PM → Nat → Int32 → Int32) (G2 : PM → Nat → Int32 → Prop) (F4 : PM → Nat → Int32 → Int32 → PM) (G4 : PM → Nat → Int32 → Int32 → Prop) (F105 : PM → Int32 → Nat) (G105 : PM → Int32 → Prop) (F112 : PM → Nat → Int32 → Int32 → Int32) (G112 : PM → Nat → Int32 → Int32 → Prop) (p : PM) (v1 : Int32) (v2 : Int32) (v3 : Int32) (v4 : Int32) : Prop :=
  (G105 p v1) ∧ (
  (G105 p v2) ∧ (
  if 0 < v4 then (
    (G112 p (F105 p v1) v3 (cn 1)) ∧ (
    let x6 : Int32 := (F112 p (F105 p v1) v3 (cn 1))
    (¬ (F105 p v1) = 0) ∧ (
    (G2 p (F105 p v1) v3) ∧ (
    (¬ (F105 p v1) = 0) ∧ (
    (G4 p (F105 p v1) v3 ((F2 p (F105 p v1) v3) - v4)) ∧ (
    let p7 : PM := F4 p (F105 p v1) v3 ((F2 p (F105 p v1) v3) - v4)
    (¬ (F105 p v2) = 0) ∧ (
    (G2 p7 (F105 p v2) v3) ∧ (
    (¬ (F105 p v2) = 0) ∧ (
    (G4 p7 (F105 p v2) v3 ((F2 p7 (F105 p v2) v3) + v4)) ∧ (
    let p8 : PM := F4 p7 (F105 p v2) v3 ((F2 p7 (F105 p v2) v3) + v4)
    (¬ (F105 p v1) = 0) ∧ (
    (¬ (F105 p v1) = 0) ∧ (
    let p9 : PM := pJ p8 0 (F105 p v1) 4 ((p8.2.1 0 (F105 p v1) 4) + ((v4).toInt64 * (x6).toInt64))
    (¬ (F105 p v2) = 0) ∧ (
    (¬ (F105 p v2) = 0) ∧ (
    let p10 : PM := pJ p9 0 (F105 p v2) 4 ((p9.2.1 0 (F105 p v2) 4) - ((v4).toInt64 * (x6).toInt64))
    True))))))))))))))
  else (
    (G112 p (F105 p v1) v3 (cn 0)) ∧ (
    let x1 : Int32 := (F112 p (F105 p v1) v3 (cn 0))
    (¬ (F105 p v1) = 0) ∧ (
    (G2 p (F105 p v1) v3) ∧ (
    (¬ (F105 p v1) = 0) ∧ (
    (G4 p (F105 p v1) v3 ((F2 p (F105 p v1) v3) - v4)) ∧ (
    let p2 : PM := F4 p (F105 p v1) v3 ((F2 p (F105 p v1) v3) - v4)
    (¬ (F105 p v2) = 0) ∧ (
    (G2 p2 (F105 p v2) v3) ∧ (
    (¬ (F105 p v2) = 0) ∧ (
    (G4 p2 (F105 p v2) v3 ((F2 p2 (F105 p v2) v3) + v4)) ∧ (
    let p3 : PM := F4 p2 (F105 p v2) v3 ((F2 p2 (F105 p v2) v3) + v4)
    (¬ (F105 p v1) = 0) ∧ (
    (¬ (F105 p v1) = 0) ∧ (
    let p4 : PM := pJ p3 0 (F105 p v1) 4 ((p3.2.1 0 (F105 p v1) 4) + ((v4).toInt64 * (x1).toInt64))
    (¬ (F105 p v2) = 0) ∧ (
    (¬ (F105 p v2) = 0) ∧ (
    let p5 : PM := pJ p4 0 (F105 p v2) 4 ((p4.2.1 0 (F105 p v2) 4) - ((v4).toInt64 * (x1).toInt64))
    True))))))))))))))))
noncomputable def g7_allotLots (p : PM) (v1 : Int32) (v2 : Int32) (v3 : Int32) (v4 : Int32) : Prop := bg7_allotLots v0_holds g0_holds v0_put g0_put v7_accountAt g7_accountAt v7_averageOf g7_averageOf p v1 v2 v3 v4
def R114 : List Row := [(0, .aload_n 0, 1, 0, (0, 0, 0, 0, 0, 0)), (1, .iload_n 1, 1, 0, (0, 0, 0, 0, 0, 0)), (2, .invokevirtual 95, 3, 0, (0, 2, 0, 0, 1, 0)), (5, .astore 5, 2, 0, (0, 0, 0, 0, 0, 0)), (7, .aload_n 0, 1, 0, (0, 0, 0, 0, 0, 0)), (8, .iload_n 2, 1, 0, (0, 0, 0, 0, 0, 0)), (9, .invokevirtual 95, 3, 0, (0, 2, 0, 0, 1, 0)), (12, .astore 6, 2, 0, (0, 0, 0, 0, 0, 0)), (14, .aload_n 0, 1, 0, (0, 0, 0, 0, 0, 0)), (15, .aload 5, 2, 0, (0, 0, 0, 0, 0, 0)), (17, .iload_n 3, 1, 0, (0, 0, 0, 0, 0, 0)), (18, .iload 4, 2, 0, (0, 0, 0, 0, 0, 0)), (20, .ifCond .le 7, 3, 0, (0, 0, 0, 0, 0, 0)), (23, .iconst 1, 1, 0, (0, 0, 0, 0, 0, 1)), (24, .goto 4, 3, 0, (0, 0, 0, 0, 0, 0)), (27, .iconst 0, 1, 0, (0, 0, 0, 0, 0, 0)), (28, .invokevirtual 115, 3, 0, (1, 4, 0, 0, 1, 0)), (31, .istore 7, 2, 0, (0, 0, 0, 0, 0, 0)), (33, .aload 5, 2, 0, (0, 0, 0, 0, 0, 0)), (35, .iload_n 3, 1, 0, (0, 0, 0, 0, 0, 0)), (36, .aload 5, 2, 0, (0, 0, 0, 0, 0, 0)), (38, .iload_n 3, 1, 0, (0, 0, 0, 0, 0, 0)), (39, .invokevirtual 111, 3, 0, (2, 2, 0, 0, 2, 0)), (42, .iload 4, 2, 0, (0, 0, 0, 0, 0, 0)), (44, .isub, 1, 0, (0, 0, 0, 0, 0, 0)), (45, .invokevirtual 119, 3, 0, (3, 3, 0, 0, 2, 0)), (48, .aload 6, 2, 0, (0, 0, 0, 0, 0, 0)), (50, .iload_n 3, 1, 0, (0, 0, 0, 0, 0, 0)), (51, .aload 6, 2, 0, (0, 0, 0, 0, 0, 0)), (53, .iload_n 3, 1, 0, (0, 0, 0, 0, 0, 0)), (54, .invokevirtual 111, 3, 0, (2, 2, 0, 0, 2, 0)), (57, .iload 4, 2, 0, (0, 0, 0, 0, 0, 0)), (59, .iadd, 1, 0, (0, 0, 0, 0, 0, 0)), (60, .invokevirtual 119, 3, 0, (3, 3, 0, 0, 2, 0)), (63, .aload 5, 2, 0, (0, 0, 0, 0, 0, 0)), (65, .dup, 1, 0, (0, 0, 0, 0, 0, 0)), (66, .getfield 91, 3, 0, (0, 4, 2, 0, 0, 0)), (69, .iload 4, 2, 0, (0, 0, 0, 0, 0, 0)), (71, .i2l, 1, 0, (0, 0, 0, 0, 0, 0)), (72, .iload 7, 2, 0, (0, 0, 0, 0, 0, 0)), (74, .i2l, 1, 0, (0, 0, 0, 0, 0, 0)), (75, .lmul, 1, 0, (0, 0, 0, 0, 0, 0)), (76, .ladd, 1, 0, (0, 0, 0, 0, 0, 0)), (77, .putfield 91, 3, 0, (0, 4, 2, 0, 0, 0)), (80, .aload 6, 2, 0, (0, 0, 0, 0, 0, 0)), (82, .dup, 1, 0, (0, 0, 0, 0, 0, 0)), (83, .getfield 91, 3, 0, (0, 4, 2, 0, 0, 0)), (86, .iload 4, 2, 0, (0, 0, 0, 0, 0, 0)), (88, .i2l, 1, 0, (0, 0, 0, 0, 0, 0)), (89, .iload 7, 2, 0, (0, 0, 0, 0, 0, 0)), (91, .i2l, 1, 0, (0, 0, 0, 0, 0, 0)), (92, .lmul, 1, 0, (0, 0, 0, 0, 0, 0)), (93, .lsub, 1, 0, (0, 0, 0, 0, 0, 0)), (94, .putfield 91, 3, 0, (0, 4, 2, 0, 0, 0)), (97, .iload 7, 2, 0, (0, 0, 0, 0, 0, 0)), (99, .ireturn, 1, 0, (0, 0, 0, 0, 0, 0))]
set_option maxRecDepth 100000 in
theorem rk114 : R114.all (rok 0 114 1 [(105, [10, 0]), (112, [10, 3, 0, 0]), (2, [3, 0]), (4, [3, 0, 0])]) = true := by decide +kernel
set_option maxRecDepth 100000 in
theorem tab114 {F105 : PM → Int32 → Nat} {G105 : PM → Int32 → Prop} {F112 : PM → Nat → Int32 → Int32 → Int32} {G112 : PM → Nat → Int32 → Int32 → Prop} {F2 : PM → Nat → Int32 → Int32} {G2 : PM → Nat → Int32 → Prop} {F4 : PM → Nat → Int32 → Int32 → PM} {G4 : PM → Nat → Int32 → Int32 → Prop} : TabOK 0 114 1 [CC105 F105 G105, CC112 F112 G112, CC2 F2 G2, CC4 F4 G4] R114 := tab_ok (K := K114) rfl rfl (fun h => d114 h) rk114 (by decide +kernel)
set_option maxRecDepth 100000 in
theorem pc114 : cutpc [] R114 = true := by decide +kernel
set_option maxRecDepth 100000 in
theorem r7_allotLots (F105 : PM → Int32 → Nat) (G105 : PM → Int32 → Prop) (o105 : CalOK 0 (CC105 F105 G105)) (F112 : PM → Nat → Int32 → Int32 → Int32) (G112 : PM → Nat → Int32 → Int32 → Prop) (o112 : CalOK 0 (CC112 F112 G112)) (F2 : PM → Nat → Int32 → Int32) (G2 : PM → Nat → Int32 → Prop) (o2 : CalOK 0 (CC2 F2 G2)) (F4 : PM → Nat → Int32 → Int32 → PM) (G4 : PM → Nat → Int32 → Int32 → Prop) (o4 : CalOK 0 (CC4 F4 G4)) : ∀ (p : PM) (v1 : Int32) (v2 : Int32) (v3 : Int32) (v4 : Int32), Gr 0 p → bg7_allotLots F2 G2 F4 G4 F105 G105 F112 G112 p v1 v2 v3 v4 → ZJ 0 114 0 [zR 7 1, zI v1, zI v2, zI v3, zI v4, zJ, zJ, zJ] [] p (hwI (bv7_allotLots F2 F4 F105 F112 p v1 v2 v3 v4)) := by
  intro p v1 v2 v3 v4  hg H
  exact rwI (n := 3000) (q := 0) (la := [zR 7 1, zI v1, zI v2, zI v3, zI v4, zJ, zJ, zJ]) (sa := []) (ks := []) (gs := []) (fcons o105 (fcons o112 (fcons o2 (fcons o4 (fnil))))) tab114 pc114 trivial hg H
theorem t7_allotLots : ∀ (p : PM) (v1 : Int32) (v2 : Int32) (v3 : Int32) (v4 : Int32), Gr 0 p → g7_allotLots p v1 v2 v3 v4 → ZJ 0 114 0 [zR 7 1, zI v1, zI v2, zI v3, zI v4, zJ, zJ, zJ] [] p (hwI (v7_allotLots p v1 v2 v3 v4)) := r7_allotLots v7_accountAt g7_accountAt ok105 v7_averageOf g7_averageOf ok112 v0_holds g0_holds ok2 v0_put g0_put ok4
def CC114 (F : PM → Int32 → Int32 → Int32 → Int32 → Int32 × PM) (G : PM → Int32 → Int32 → Int32 → Int32 → Prop) : Cal := (114, [10, 0, 0, 0, 0], 1, false, fun as p => (zI (F p (ai as 1) (ai as 2) (ai as 3) (ai as 4)).1, (F p (ai as 1) (ai as 2) (ai as 3) (ai as 4)).2), fun as p => zsw (tc2 as [(107, 1), (0, 0), (0, 0), (0, 0), (0, 0)]) False (G p (ai as 1) (ai as 2) (ai as 3) (ai as 4)))
set_option maxRecDepth 100000 in
theorem okr114 (F : PM → Int32 → Int32 → Int32 → Int32 → Int32 × PM) (G : PM → Int32 → Int32 → Int32 → Int32 → Prop) (h : ∀ (p : PM) (v1 : Int32) (v2 : Int32) (v3 : Int32) (v4 : Int32), Gr 0 p → G p v1 v2 v3 v4 → ZJ 0 114 0 [zR 7 1, zI v1, zI v2, zI v3, zI v4, zJ, zJ, zJ] [] p (hwI (F p v1 v2 v3 v4))) : CalOK 0 (CC114 F G) := cal_ok (m := 8) (by unfold mL; rw [mX_114]) (fun as p hg H => h p (ai as 1) (ai as 2) (ai as 3) (ai as 4) hg H)
theorem ok114 : CalOK 0 (CC114 v7_allotLots g7_allotLots) := okr114 v7_allotLots g7_allotLots t7_allotLots
noncomputable def bv14_floorMod_7cf53 (p : PM) (v0 : Int32) (v1 : Int32) : Int32 :=
  if (v0 ^^^ v1) < 0 then (
    if (irm v0 v1) = 0 then (
      (irm v0 v1))
    else (
      ((irm v0 v1) + v1)))
  else (
    (irm v0 v1))
noncomputable def v14_floorMod_7cf53 (p : PM) (v0 : Int32) (v1 : Int32) : Int32 := bv14_floorMod_7cf53 p v0 v1
noncomputable def bg14_floorMod_7cf53 (p : PM) (v0 : Int32) (v1 : Int32) : Prop :=
  (¬ v1 = 0) ∧ (
  if (v0 ^^^ v1) < 0 then (
    if (irm v0 v1) = 0 then (
      True)
    else (
      True))
  else (
    True))
noncomputable def g14_floorMod_7cf53 (p : PM) (v0 : Int32) (v1 : Int32) : Prop := bg14_floorMod_7cf53 p v0 v1
def R372 : List Row := [(0, .iload_n 0, 1, 0, (0, 0, 0, 0, 0, 0)), (1, .iload_n 1, 1, 0, (0, 0, 0, 0, 0, 0)), (2, .irem, 1, 0, (0, 0, 0, 0, 0, 0)), (3, .istore_n 2, 1, 0, (0, 0, 0, 0, 0, 0)), (4, .iload_n 0, 1, 0, (0, 0, 0, 0, 0, 0)), (5, .iload_n 1, 1, 0, (0, 0, 0, 0, 0, 0)), (6, .ixor, 1, 0, (0, 0, 0, 0, 0, 0)), (7, .ifCond .ge 11, 3, 0, (0, 0, 0, 0, 0, 0)), (10, .iload_n 2, 1, 0, (0, 0, 0, 0, 0, 0)), (11, .ifCond .eq 7, 3, 0, (0, 0, 0, 0, 0, 0)), (14, .iload_n 2, 1, 0, (0, 0, 0, 0, 0, 0)), (15, .iload_n 1, 1, 0, (0, 0, 0, 0, 0, 0)), (16, .iadd, 1, 0, (0, 0, 0, 0, 0, 0)), (17, .ireturn, 1, 0, (0, 0, 0, 0, 0, 0)), (18, .iload_n 2, 1, 0, (0, 0, 0, 0, 0, 0)), (19, .ireturn, 1, 0, (0, 0, 0, 0, 0, 0))]
set_option maxRecDepth 100000 in
theorem rk372 : R372.all (rok 0 372 1 []) = true := by decide +kernel
set_option maxRecDepth 100000 in
theorem tab372 : TabOK 0 372 1 [] R372 := tab_ok (K := K372) rfl rfl (fun h => d372 h) rk372 (by decide +kernel)
set_option maxRecDepth 100000 in
theorem pc372 : cutpc [] R372 = true := by decide +kernel
set_option maxRecDepth 100000 in
theorem r14_floorMod_7cf53 (p : PM) (hg : Gr 0 p) : ∀ (v0 : Int32) (v1 : Int32), bg14_floorMod_7cf53 p v0 v1 → ZJ 0 372 0 [zI v0, zI v1, zJ] [] p (hoI p (bv14_floorMod_7cf53 p v0 v1)) := by
  intro v0 v1  H
  exact roI (n := 3000) (q := 0) (la := [zI v0, zI v1, zJ]) (sa := []) (ks := []) (gs := []) (fnil) tab372 pc372 trivial hg H
theorem t14_floorMod_7cf53 (p : PM) (hg : Gr 0 p) : ∀ (v0 : Int32) (v1 : Int32), g14_floorMod_7cf53 p v0 v1 → ZJ 0 372 0 [zI v0, zI v1, zJ] [] p (hoI p (v14_floorMod_7cf53 p v0 v1)) := r14_floorMod_7cf53 p hg
def CC372 (F : PM → Int32 → Int32 → Int32) (G : PM → Int32 → Int32 → Prop) : Cal := (372, [0, 0], 1, true, fun as p => (zI (F p (ai as 0) (ai as 1)), p), fun as p => zsw (tc2 as [(0, 0), (0, 0)]) False (G p (ai as 0) (ai as 1)))
set_option maxRecDepth 100000 in
theorem okr372 (F : PM → Int32 → Int32 → Int32) (G : PM → Int32 → Int32 → Prop) (h : ∀ (p : PM) (v0 : Int32) (v1 : Int32), Gr 0 p → G p v0 v1 → ZJ 0 372 0 [zI v0, zI v1, zJ] [] p (hoI p (F p v0 v1))) : CalOK 0 (CC372 F G) := cal_ok (m := 3) (by unfold mL; rw [mX_372]) (fun as p hg H => h p (ai as 0) (ai as 1) hg H)
theorem ok372 : CalOK 0 (CC372 v14_floorMod_7cf53 g14_floorMod_7cf53) := okr372 v14_floorMod_7cf53 g14_floorMod_7cf53 (fun p v0 v1 hg H => t14_floorMod_7cf53 p hg v0 v1 H)
noncomputable def bv7_assign_79 (F2 : PM → Nat → Int32 → Int32) (F4 : PM → Nat → Int32 → Int32 → PM) (F375 : PM → Int32 → Int32 → Int32) (kv79 : PM → Int64 → Int32 → Int32 × PM) (p : PM) (v4 : Int64) (v8 : Int32) : Int32 × PM :=
  if v8 < (cn 9) then (
    let x1 : Int32 := (F375 p (cn 0) (-(F2 p ((v8).toNatClampNeg + 1) (cn 3))))
    if (lg_cmp v4 (x1).toInt64) < 0 then (
      let p2 : PM := F4 p ((v8).toNatClampNeg + 1) (cn 3) ((F2 p ((v8).toNatClampNeg + 1) (cn 3)) + (cn 1))
      let p3 : PM := F4 p2 ((v8).toNatClampNeg + 1) (cn 0) ((F2 p2 ((v8).toNatClampNeg + 1) (cn 0)) - (cn 1))
      let p4 : PM := pJ p3 0 ((v8).toNatClampNeg + 1) 4 ((p3.2.1 0 ((v8).toNatClampNeg + 1) 4) + (cl 100))
      ((p4.1 0 ((v8).toNatClampNeg + 1) 0), p4))
    else (
      kv79 p (v4 - (x1).toInt64) (v8 + (cn 1))))
  else (
    ((cn 0), p))
noncomputable def v7_assign_79 (n : Nat) : PM → Int64 → Int32 → Int32 × PM := Nat.rec (motive := fun _ => PM → Int64 → Int32 → Int32 × PM) (fun p _ _ => (0, p)) (fun _ ih => bv7_assign_79 v0_holds v0_put v14_max_7cf53 ih) n
theorem ev7_assign_79 (n : Nat) (p : PM) (v4 : Int64) (v8 : Int32) : v7_assign_79 (n + 1) p v4 v8 = bv7_assign_79 v0_holds v0_put v14_max_7cf53 (v7_assign_79 n) p v4 v8 := rfl
noncomputable def bg7_assign_79 (F2 : PM → Nat → Int32 → Int32) (G2 : PM → Nat → Int32 → Prop) (F4 : PM → Nat → Int32 → Int32 → PM) (G4 : PM → Nat → Int32 → Int32 → Prop) (F375 : PM → Int32 → Int32 → Int32) (G375 : PM → Int32 → Int32 → Prop) (kg79 : PM → Int64 → Int32 → Prop) (p : PM) (v4 : Int64) (v8 : Int32) : Prop :=
  if v8 < (cn 9) then (
    (inb v8 9) ∧ (
    (G2 p ((v8).toNatClampNeg + 1) (cn 3)) ∧ (
    (G375 p (cn 0) (-(F2 p ((v8).toNatClampNeg + 1) (cn 3)))) ∧ (
    let x1 : Int32 := (F375 p (cn 0) (-(F2 p ((v8).toNatClampNeg + 1) (cn 3))))
    if (lg_cmp v4 (x1).toInt64) < 0 then (
      (G2 p ((v8).toNatClampNeg + 1) (cn 3)) ∧ (
      (G4 p ((v8).toNatClampNeg + 1) (cn 3) ((F2 p ((v8).toNatClampNeg + 1) (cn 3)) + (cn 1))) ∧ (
      let p2 : PM := F4 p ((v8).toNatClampNeg + 1) (cn 3) ((F2 p ((v8).toNatClampNeg + 1) (cn 3)) + (cn 1))
      (G2 p2 ((v8).toNatClampNeg + 1) (cn 0)) ∧ (
      (G4 p2 ((v8).toNatClampNeg + 1) (cn 0) ((F2 p2 ((v8).toNatClampNeg + 1) (cn 0)) - (cn 1))) ∧ (
      let p3 : PM := F4 p2 ((v8).toNatClampNeg + 1) (cn 0) ((F2 p2 ((v8).toNatClampNeg + 1) (cn 0)) - (cn 1))
      let p4 : PM := pJ p3 0 ((v8).toNatClampNeg + 1) 4 ((p3.2.1 0 ((v8).toNatClampNeg + 1) 4) + (cl 100))
      True)))))
    else (
      kg79 p (v4 - (x1).toInt64) (v8 + (cn 1)))))))
  else (
    True)
noncomputable def g7_assign_79 (n : Nat) : PM → Int64 → Int32 → Prop := Nat.rec (motive := fun _ => PM → Int64 → Int32 → Prop) (fun _ _ _ => False) (fun _ ih => bg7_assign_79 v0_holds g0_holds v0_put g0_put v14_max_7cf53 g14_max_7cf53 ih) n
theorem eg7_assign_79 (n : Nat) (p : PM) (v4 : Int64) (v8 : Int32) : g7_assign_79 (n + 1) p v4 v8 = bg7_assign_79 v0_holds g0_holds v0_put g0_put v14_max_7cf53 g14_max_7cf53 (g7_assign_79 n) p v4 v8 := rfl
noncomputable def bv7_assign_16 (F2 : PM → Nat → Int32 → Int32) (F375 : PM → Int32 → Int32 → Int32) (kv16 : PM → Int32 → Int64 → Int32 → Int32 × PM) (kv79 : PM → Int64 → Int32 → Int32 × PM) (p : PM) (v1 : Int32) (v2 : Int64) (v6 : Int32) : Int32 × PM :=
  if v6 < (cn 9) then (
    let x1 : Int64 := (v2 + ((F375 p (cn 0) (-(F2 p ((v6).toNatClampNeg + 1) (cn 3))))).toInt64)
    kv16 p v1 x1 (v6 + (cn 1)))
  else (
    if 0 < (lg_cmp v2 (cl 0)) then (
      kv79 p (lrm (v1).toInt64 v2) (cn 0))
    else (
      ((cn 0), p)))
noncomputable def v7_assign_16 (n : Nat) : PM → Int32 → Int64 → Int32 → Int32 × PM := Nat.rec (motive := fun _ => PM → Int32 → Int64 → Int32 → Int32 × PM) (fun p _ _ _ => (0, p)) (fun _ ih => bv7_assign_16 v0_holds v14_max_7cf53 ih (v7_assign_79 FU)) n
theorem ev7_assign_16 (n : Nat) (p : PM) (v1 : Int32) (v2 : Int64) (v6 : Int32) : v7_assign_16 (n + 1) p v1 v2 v6 = bv7_assign_16 v0_holds v14_max_7cf53 (v7_assign_16 n) (v7_assign_79 FU) p v1 v2 v6 := rfl
noncomputable def bg7_assign_16 (F2 : PM → Nat → Int32 → Int32) (G2 : PM → Nat → Int32 → Prop) (F375 : PM → Int32 → Int32 → Int32) (G375 : PM → Int32 → Int32 → Prop) (kg16 : PM → Int32 → Int64 → Int32 → Prop) (kg79 : PM → Int64 → Int32 → Prop) (p : PM) (v1 : Int32) (v2 : Int64) (v6 : Int32) : Prop :=
  if v6 < (cn 9) then (
    (inb v6 9) ∧ (
    (G2 p ((v6).toNatClampNeg + 1) (cn 3)) ∧ (
    (G375 p (cn 0) (-(F2 p ((v6).toNatClampNeg + 1) (cn 3)))) ∧ (
    let x1 : Int64 := (v2 + ((F375 p (cn 0) (-(F2 p ((v6).toNatClampNeg + 1) (cn 3))))).toInt64)
    kg16 p v1 x1 (v6 + (cn 1))))))
  else (
    if 0 < (lg_cmp v2 (cl 0)) then (
      (¬ v2 = 0) ∧ (
      kg79 p (lrm (v1).toInt64 v2) (cn 0)))
    else (
      True))
noncomputable def g7_assign_16 (n : Nat) : PM → Int32 → Int64 → Int32 → Prop := Nat.rec (motive := fun _ => PM → Int32 → Int64 → Int32 → Prop) (fun _ _ _ _ => False) (fun _ ih => bg7_assign_16 v0_holds g0_holds v14_max_7cf53 g14_max_7cf53 ih (g7_assign_79 FU)) n
theorem eg7_assign_16 (n : Nat) (p : PM) (v1 : Int32) (v2 : Int64) (v6 : Int32) : g7_assign_16 (n + 1) p v1 v2 v6 = bg7_assign_16 v0_holds g0_holds v14_max_7cf53 g14_max_7cf53 (g7_assign_16 n) (g7_assign_79 FU) p v1 v2 v6 := rfl
noncomputable def bv7_assign (kv16 : PM → Int32 → Int64 → Int32 → Int32 × PM) (p : PM) (v1 : Int32) : Int32 × PM :=
  kv16 p v1 (cl 0) (cn 0)
noncomputable def v7_assign (p : PM) (v1 : Int32) : Int32 × PM := bv7_assign (v7_assign_16 FU) p v1
noncomputable def bg7_assign (kg16 : PM → Int32 → Int64 → Int32 → Prop) (p : PM) (v1 : Int32) : Prop :=
  kg16 p v1 (cl 0) (cn 0)
noncomputable def g7_assign (p : PM) (v1 : Int32) : Prop := bg7_assign (g7_assign_16 FU) p v1
def R116 : List Row := [(0, .lconst 0, 1, 0, (0, 0, 0, 0, 0, 0)), (1, .lstore_n 2, 1, 0, (0, 0, 0, 0, 0, 0)), (2, .aload_n 0, 1, 0, (0, 0, 0, 0, 0, 0)), (3, .getfield 11, 3, 0, (7, 0, 19, 2, 1, 0)), (6, .astore 4, 2, 0, (0, 0, 0, 0, 0, 0)), (8, .aload 4, 2, 0, (0, 0, 0, 0, 0, 0)), (10, .arraylength, 1, 0, (16, 9, 0, 0, 0, 9)), (11, .istore 5, 2, 0, (0, 0, 0, 0, 0, 0)), (13, .iconst 0, 1, 0, (0, 0, 0, 0, 0, 0)), (14, .istore 6, 2, 0, (0, 0, 0, 0, 0, 0)), (16, .iload 6, 2, 1, (0, 0, 0, 0, 0, 0)), (18, .iload 5, 2, 0, (0, 0, 0, 0, 0, 0)), (20, .if_icmp .ge 31, 3, 0, (0, 0, 0, 0, 0, 0)), (23, .aload 4, 2, 0, (0, 0, 0, 0, 0, 0)), (25, .iload 6, 2, 0, (0, 0, 0, 0, 0, 0)), (27, .aaload, 1, 0, (16, 9, 0, 1, 1, 0)), (28, .astore 7, 2, 0, (0, 0, 0, 0, 0, 0)), (30, .lload_n 2, 1, 0, (0, 0, 0, 0, 0, 0)), (31, .iconst 0, 1, 0, (0, 0, 0, 0, 0, 0)), (32, .aload 7, 2, 0, (0, 0, 0, 0, 0, 0)), (34, .iconst 3, 1, 0, (0, 0, 0, 0, 0, 3)), (35, .invokevirtual 111, 3, 0, (0, 2, 0, 0, 1, 0)), (38, .ineg, 1, 0, (0, 0, 0, 0, 0, 0)), (39, .invokestatic 53, 3, 0, (1, 2, 0, 0, 0, 0)), (42, .i2l, 1, 0, (0, 0, 0, 0, 0, 0)), (43, .ladd, 1, 0, (0, 0, 0, 0, 0, 0)), (44, .lstore_n 2, 1, 0, (0, 0, 0, 0, 0, 0)), (45, .iinc 6 1, 3, 0, (0, 0, 0, 0, 0, 1)), (48, .goto (-32), 3, 0, (0, 0, 0, 0, 0, 0)), (51, .lload_n 2, 1, 0, (0, 0, 0, 0, 0, 0)), (52, .lconst 0, 1, 0, (0, 0, 0, 0, 0, 0)), (53, .lcmp, 1, 0, (0, 0, 0, 0, 0, 0)), (54, .ifCond .gt 5, 3, 0, (0, 0, 0, 0, 0, 0)), (57, .iconst 0, 1, 0, (0, 0, 0, 0, 0, 0)), (58, .ireturn, 1, 0, (0, 0, 0, 0, 0, 0)), (59, .iload_n 1, 1, 0, (0, 0, 0, 0, 0, 0)), (60, .i2l, 1, 0, (0, 0, 0, 0, 0, 0)), (61, .lload_n 2, 1, 0, (0, 0, 0, 0, 0, 0)), (62, .lrem, 1, 0, (0, 0, 0, 0, 0, 0)), (63, .lstore 4, 2, 0, (0, 0, 0, 0, 0, 0)), (65, .aload_n 0, 1, 0, (0, 0, 0, 0, 0, 0)), (66, .getfield 11, 3, 0, (7, 0, 19, 2, 1, 0)), (69, .astore 6, 2, 0, (0, 0, 0, 0, 0, 0)), (71, .aload 6, 2, 0, (0, 0, 0, 0, 0, 0)), (73, .arraylength, 1, 0, (16, 9, 0, 0, 0, 9)), (74, .istore 7, 2, 0, (0, 0, 0, 0, 0, 0)), (76, .iconst 0, 1, 0, (0, 0, 0, 0, 0, 0)), (77, .istore 8, 2, 0, (0, 0, 0, 0, 0, 0)), (79, .iload 8, 2, 2, (0, 0, 0, 0, 0, 0)), (81, .iload 7, 2, 0, (0, 0, 0, 0, 0, 0)), (83, .if_icmp .ge 93, 3, 0, (0, 0, 0, 0, 0, 0)), (86, .aload 6, 2, 0, (0, 0, 0, 0, 0, 0)), (88, .iload 8, 2, 0, (0, 0, 0, 0, 0, 0)), (90, .aaload, 1, 0, (16, 9, 0, 1, 1, 0)), (91, .astore 9, 2, 0, (0, 0, 0, 0, 0, 0)), (93, .iconst 0, 1, 0, (0, 0, 0, 0, 0, 0)), (94, .aload 9, 2, 0, (0, 0, 0, 0, 0, 0)), (96, .iconst 3, 1, 0, (0, 0, 0, 0, 0, 3)), (97, .invokevirtual 111, 3, 0, (0, 2, 0, 0, 1, 0)), (100, .ineg, 1, 0, (0, 0, 0, 0, 0, 0)), (101, .invokestatic 53, 3, 0, (1, 2, 0, 0, 0, 0)), (104, .istore 10, 2, 0, (0, 0, 0, 0, 0, 0)), (106, .lload 4, 2, 0, (0, 0, 0, 0, 0, 0)), (108, .iload 10, 2, 0, (0, 0, 0, 0, 0, 0)), (110, .i2l, 1, 0, (0, 0, 0, 0, 0, 0)), (111, .lcmp, 1, 0, (0, 0, 0, 0, 0, 0)), (112, .ifCond .ge 50, 3, 0, (0, 0, 0, 0, 0, 0)), (115, .aload 9, 2, 0, (0, 0, 0, 0, 0, 0)), (117, .iconst 3, 1, 0, (0, 0, 0, 0, 0, 3)), (118, .aload 9, 2, 0, (0, 0, 0, 0, 0, 0)), (120, .iconst 3, 1, 0, (0, 0, 0, 0, 0, 3)), (121, .invokevirtual 111, 3, 0, (0, 2, 0, 0, 1, 0)), (124, .iconst 1, 1, 0, (0, 0, 0, 0, 0, 1)), (125, .iadd, 1, 0, (0, 0, 0, 0, 0, 0)), (126, .invokevirtual 119, 3, 0, (2, 3, 0, 0, 1, 0)), (129, .aload 9, 2, 0, (0, 0, 0, 0, 0, 0)), (131, .iconst 0, 1, 0, (0, 0, 0, 0, 0, 0)), (132, .aload 9, 2, 0, (0, 0, 0, 0, 0, 0)), (134, .iconst 0, 1, 0, (0, 0, 0, 0, 0, 0)), (135, .invokevirtual 111, 3, 0, (0, 2, 0, 0, 1, 0)), (138, .iconst 1, 1, 0, (0, 0, 0, 0, 0, 1)), (139, .isub, 1, 0, (0, 0, 0, 0, 0, 0)), (140, .invokevirtual 119, 3, 0, (2, 3, 0, 0, 1, 0)), (143, .aload 9, 2, 0, (0, 0, 0, 0, 0, 0)), (145, .dup, 1, 0, (0, 0, 0, 0, 0, 0)), (146, .getfield 91, 3, 0, (0, 4, 2, 1, 0, 0)), (149, .ldc2_w 123, 3, 0, (0, 0, 0, 0, 0, 100)), (152, .ladd, 1, 0, (0, 0, 0, 0, 0, 0)), (153, .putfield 91, 3, 0, (0, 4, 2, 1, 0, 0)), (156, .aload 9, 2, 0, (0, 0, 0, 0, 0, 0)), (158, .getfield 99, 3, 0, (0, 0, 0, 1, 0, 0)), (161, .ireturn, 1, 0, (0, 0, 0, 0, 0, 0)), (162, .lload 4, 2, 0, (0, 0, 0, 0, 0, 0)), (164, .iload 10, 2, 0, (0, 0, 0, 0, 0, 0)), (166, .i2l, 1, 0, (0, 0, 0, 0, 0, 0)), (167, .lsub, 1, 0, (0, 0, 0, 0, 0, 0)), (168, .lstore 4, 2, 0, (0, 0, 0, 0, 0, 0)), (170, .iinc 8 1, 3, 0, (0, 0, 0, 0, 0, 1)), (173, .goto (-94), 3, 0, (0, 0, 0, 0, 0, 0)), (176, .iconst 0, 1, 0, (0, 0, 0, 0, 0, 0)), (177, .ireturn, 1, 0, (0, 0, 0, 0, 0, 0))]
set_option maxRecDepth 100000 in
theorem rk116 : R116.all (rok 0 116 1 [(2, [3, 0]), (375, [0, 0]), (4, [3, 0, 0])]) = true := by decide +kernel
set_option maxRecDepth 100000 in
theorem tab116 {F2 : PM → Nat → Int32 → Int32} {G2 : PM → Nat → Int32 → Prop} {F375 : PM → Int32 → Int32 → Int32} {G375 : PM → Int32 → Int32 → Prop} {F4 : PM → Nat → Int32 → Int32 → PM} {G4 : PM → Nat → Int32 → Int32 → Prop} : TabOK 0 116 1 [CC2 F2 G2, CC375 F375 G375, CC4 F4 G4] R116 := tab_ok (K := K116) rfl rfl (fun h => d116 h) rk116 (by decide +kernel)
set_option maxRecDepth 100000 in
theorem pc116 : cutpc [16, 79] R116 = true := by decide +kernel
set_option maxRecDepth 100000 in
theorem r7_assign_79 (F2 : PM → Nat → Int32 → Int32) (G2 : PM → Nat → Int32 → Prop) (o2 : CalOK 0 (CC2 F2 G2)) (F375 : PM → Int32 → Int32 → Int32) (G375 : PM → Int32 → Int32 → Prop) (o375 : CalOK 0 (CC375 F375 G375)) (F4 : PM → Nat → Int32 → Int32 → PM) (G4 : PM → Nat → Int32 → Int32 → Prop) (o4 : CalOK 0 (CC4 F4 G4)) (kv79 : PM → Int64 → Int32 → Int32 × PM) (kg79 : PM → Int64 → Int32 → Prop) (hk79 : ∀ (p : PM) (v4 : Int64) (v8 : Int32) (d0 d1 d2 d3 d5 d9 d10 : ZV), Gr 0 p → kg79 p v4 v8 → ZJ 0 116 79 [d0, d1, d2, d3, zL v4, d5, zR 16 1, zC 9, zI v8, d9, d10] [] p (hwI (kv79 p v4 v8))) : ∀ (p : PM) (v4 : Int64) (v8 : Int32) (d0 d1 d2 d3 d5 d9 d10 : ZV), Gr 0 p → bg7_assign_79 F2 G2 F4 G4 F375 G375 kg79 p v4 v8 → ZJ 0 116 79 [d0, d1, d2, d3, zL v4, d5, zR 16 1, zC 9, zI v8, d9, d10] [] p (hwI (bv7_assign_79 F2 F4 F375 kv79 p v4 v8)) := by
  intro p v4 v8 d0 d1 d2 d3 d5 d9 d10 hg H
  exact rwI (n := 3000) (q := 79) (la := [d0, d1, d2, d3, zL v4, d5, zR 16 1, zC 9, zI v8, d9, d10]) (sa := []) (ks := [fun _ _ s => (0, s), fun la sa s => kv79 s (al la 4) (ai la 8)]) (gs := [fun _ _ _ => False, fun la sa s => zsw (tc2 la [(2, 0), (2, 0), (2, 0), (2, 0), (1, 0), (2, 0), (116, 1), (3, 9), (0, 0), (2, 0), (2, 0)] && tc2 sa []) False (kg79 s (al la 4) (ai la 8))]) (fcons o2 (fcons o375 (fcons o4 (fnil)))) tab116 pc116 ⟨fun _ _ _ _ H => H.elim, fun la sa s hg H => zcut H fun H => hk79 s (al la 4) (ai la 8) (zld la 0) (zld la 1) (zld la 2) (zld la 3) (zld la 5) (zld la 9) (zld la 10) hg H, trivial⟩ hg H
theorem t7_assign_79 : ∀ (n : Nat), ∀ (p : PM) (v4 : Int64) (v8 : Int32) (d0 d1 d2 d3 d5 d9 d10 : ZV), Gr 0 p → g7_assign_79 n p v4 v8 → ZJ 0 116 79 [d0, d1, d2, d3, zL v4, d5, zR 16 1, zC 9, zI v8, d9, d10] [] p (hwI (v7_assign_79 n p v4 v8)) := by
  intro n
  induction n with
  | zero =>
    intro p v4 v8 d0 d1 d2 d3 d5 d9 d10 hg H
    exact H.elim
  | succ n ih => exact r7_assign_79 v0_holds g0_holds ok2 v14_max_7cf53 g14_max_7cf53 ok375 v0_put g0_put ok4 (v7_assign_79 n) (g7_assign_79 n) ih
set_option maxRecDepth 100000 in
theorem r7_assign_16 (F2 : PM → Nat → Int32 → Int32) (G2 : PM → Nat → Int32 → Prop) (o2 : CalOK 0 (CC2 F2 G2)) (F375 : PM → Int32 → Int32 → Int32) (G375 : PM → Int32 → Int32 → Prop) (o375 : CalOK 0 (CC375 F375 G375)) (F4 : PM → Nat → Int32 → Int32 → PM) (G4 : PM → Nat → Int32 → Int32 → Prop) (o4 : CalOK 0 (CC4 F4 G4)) (kv16 : PM → Int32 → Int64 → Int32 → Int32 × PM) (kg16 : PM → Int32 → Int64 → Int32 → Prop) (hk16 : ∀ (p : PM) (v1 : Int32) (v2 : Int64) (v6 : Int32) (d3 d7 d8 d9 d10 : ZV), Gr 0 p → kg16 p v1 v2 v6 → ZJ 0 116 16 [zR 7 1, zI v1, zL v2, d3, zR 16 1, zC 9, zI v6, d7, d8, d9, d10] [] p (hwI (kv16 p v1 v2 v6))) (kv79 : PM → Int64 → Int32 → Int32 × PM) (kg79 : PM → Int64 → Int32 → Prop) (hk79 : ∀ (p : PM) (v4 : Int64) (v8 : Int32) (d0 d1 d2 d3 d5 d9 d10 : ZV), Gr 0 p → kg79 p v4 v8 → ZJ 0 116 79 [d0, d1, d2, d3, zL v4, d5, zR 16 1, zC 9, zI v8, d9, d10] [] p (hwI (kv79 p v4 v8))) : ∀ (p : PM) (v1 : Int32) (v2 : Int64) (v6 : Int32) (d3 d7 d8 d9 d10 : ZV), Gr 0 p → bg7_assign_16 F2 G2 F375 G375 kg16 kg79 p v1 v2 v6 → ZJ 0 116 16 [zR 7 1, zI v1, zL v2, d3, zR 16 1, zC 9, zI v6, d7, d8, d9, d10] [] p (hwI (bv7_assign_16 F2 F375 kv16 kv79 p v1 v2 v6)) := by
  intro p v1 v2 v6 d3 d7 d8 d9 d10 hg H
  exact rwI (n := 3000) (q := 16) (la := [zR 7 1, zI v1, zL v2, d3, zR 16 1, zC 9, zI v6, d7, d8, d9, d10]) (sa := []) (ks := [fun la sa s => kv16 s (ai la 1) (al la 2) (ai la 6), fun la sa s => kv79 s (al la 4) (ai la 8)]) (gs := [fun la sa s => zsw (tc2 la [(107, 1), (0, 0), (1, 0), (2, 0), (116, 1), (3, 9), (0, 0), (2, 0), (2, 0), (2, 0), (2, 0)] && tc2 sa []) False (kg16 s (ai la 1) (al la 2) (ai la 6)), fun la sa s => zsw (tc2 la [(2, 0), (2, 0), (2, 0), (2, 0), (1, 0), (2, 0), (116, 1), (3, 9), (0, 0), (2, 0), (2, 0)] && tc2 sa []) False (kg79 s (al la 4) (ai la 8))]) (fcons o2 (fcons o375 (fcons o4 (fnil)))) tab116 pc116 ⟨fun la sa s hg H => zcut H fun H => hk16 s (ai la 1) (al la 2) (ai la 6) (zld la 3) (zld la 7) (zld la 8) (zld la 9) (zld la 10) hg H, fun la sa s hg H => zcut H fun H => hk79 s (al la 4) (ai la 8) (zld la 0) (zld la 1) (zld la 2) (zld la 3) (zld la 5) (zld la 9) (zld la 10) hg H, trivial⟩ hg H
theorem t7_assign_16 : ∀ (n : Nat), ∀ (p : PM) (v1 : Int32) (v2 : Int64) (v6 : Int32) (d3 d7 d8 d9 d10 : ZV), Gr 0 p → g7_assign_16 n p v1 v2 v6 → ZJ 0 116 16 [zR 7 1, zI v1, zL v2, d3, zR 16 1, zC 9, zI v6, d7, d8, d9, d10] [] p (hwI (v7_assign_16 n p v1 v2 v6)) := by
  intro n
  induction n with
  | zero =>
    intro p v1 v2 v6 d3 d7 d8 d9 d10 hg H
    exact H.elim
  | succ n ih => exact r7_assign_16 v0_holds g0_holds ok2 v14_max_7cf53 g14_max_7cf53 ok375 v0_put g0_put ok4 (v7_assign_16 n) (g7_assign_16 n) ih (v7_assign_79 FU) (g7_assign_79 FU) (t7_assign_79 FU)
set_option maxRecDepth 100000 in
theorem r7_assign (F2 : PM → Nat → Int32 → Int32) (G2 : PM → Nat → Int32 → Prop) (o2 : CalOK 0 (CC2 F2 G2)) (F375 : PM → Int32 → Int32 → Int32) (G375 : PM → Int32 → Int32 → Prop) (o375 : CalOK 0 (CC375 F375 G375)) (F4 : PM → Nat → Int32 → Int32 → PM) (G4 : PM → Nat → Int32 → Int32 → Prop) (o4 : CalOK 0 (CC4 F4 G4)) (kv16 : PM → Int32 → Int64 → Int32 → Int32 × PM) (kg16 : PM → Int32 → Int64 → Int32 → Prop) (hk16 : ∀ (p : PM) (v1 : Int32) (v2 : Int64) (v6 : Int32) (d3 d7 d8 d9 d10 : ZV), Gr 0 p → kg16 p v1 v2 v6 → ZJ 0 116 16 [zR 7 1, zI v1, zL v2, d3, zR 16 1, zC 9, zI v6, d7, d8, d9, d10] [] p (hwI (kv16 p v1 v2 v6))) : ∀ (p : PM) (v1 : Int32), Gr 0 p → bg7_assign kg16 p v1 → ZJ 0 116 0 [zR 7 1, zI v1, zJ, zJ, zJ, zJ, zJ, zJ, zJ, zJ, zJ] [] p (hwI (bv7_assign kv16 p v1)) := by
  intro p v1  hg H
  exact rwI (n := 3000) (q := 0) (la := [zR 7 1, zI v1, zJ, zJ, zJ, zJ, zJ, zJ, zJ, zJ, zJ]) (sa := []) (ks := [fun la sa s => kv16 s (ai la 1) (al la 2) (ai la 6), fun _ _ s => (0, s)]) (gs := [fun la sa s => zsw (tc2 la [(107, 1), (0, 0), (1, 0), (2, 0), (116, 1), (3, 9), (0, 0), (2, 0), (2, 0), (2, 0), (2, 0)] && tc2 sa []) False (kg16 s (ai la 1) (al la 2) (ai la 6)), fun _ _ _ => False]) (fcons o2 (fcons o375 (fcons o4 (fnil)))) tab116 pc116 ⟨fun la sa s hg H => zcut H fun H => hk16 s (ai la 1) (al la 2) (ai la 6) (zld la 3) (zld la 7) (zld la 8) (zld la 9) (zld la 10) hg H, fun _ _ _ _ H => H.elim, trivial⟩ hg H
theorem t7_assign : ∀ (p : PM) (v1 : Int32), Gr 0 p → g7_assign p v1 → ZJ 0 116 0 [zR 7 1, zI v1, zJ, zJ, zJ, zJ, zJ, zJ, zJ, zJ, zJ] [] p (hwI (v7_assign p v1)) := r7_assign v0_holds g0_holds ok2 v14_max_7cf53 g14_max_7cf53 ok375 v0_put g0_put ok4 (v7_assign_16 FU) (g7_assign_16 FU) (t7_assign_16 FU)
def CC116 (F : PM → Int32 → Int32 × PM) (G : PM → Int32 → Prop) : Cal := (116, [10, 0], 1, false, fun as p => (zI (F p (ai as 1)).1, (F p (ai as 1)).2), fun as p => zsw (tc2 as [(107, 1), (0, 0)]) False (G p (ai as 1)))
set_option maxRecDepth 100000 in
theorem okr116 (F : PM → Int32 → Int32 × PM) (G : PM → Int32 → Prop) (h : ∀ (p : PM) (v1 : Int32), Gr 0 p → G p v1 → ZJ 0 116 0 [zR 7 1, zI v1, zJ, zJ, zJ, zJ, zJ, zJ, zJ, zJ, zJ] [] p (hwI (F p v1))) : CalOK 0 (CC116 F G) := cal_ok (m := 11) (by unfold mL; rw [mX_116]) (fun as p hg H => h p (ai as 1) hg H)
theorem ok116 : CalOK 0 (CC116 v7_assign g7_assign) := okr116 v7_assign g7_assign t7_assign
noncomputable def bv7_exerciseLots_60 (F116 : PM → Int32 → Int32 × PM) (F372 : PM → Int32 → Int32 → Int32) (kv60 : PM → Int32 → Int32 → Int32 → Int32 → Int32 × PM) (p : PM) (v2 : Int32) (v5 : Int32) (v6 : Int32) (v7 : Int32) : Int32 × PM :=
  if v7 < v2 then (
    let x1 : Int32 := (F372 p (((cn 421) * v6) + (cn 1663)) (cn 7875))
    let r2 : Int32 × PM := F116 p x1
    kv60 r2.2 v2 r2.1 x1 (v7 + (cn 1)))
  else (
    (v5, p))
noncomputable def v7_exerciseLots_60 (n : Nat) : PM → Int32 → Int32 → Int32 → Int32 → Int32 × PM := Nat.rec (motive := fun _ => PM → Int32 → Int32 → Int32 → Int32 → Int32 × PM) (fun p _ _ _ _ => (0, p)) (fun _ ih => bv7_exerciseLots_60 v7_assign v14_floorMod_7cf53 ih) n
theorem ev7_exerciseLots_60 (n : Nat) (p : PM) (v2 : Int32) (v5 : Int32) (v6 : Int32) (v7 : Int32) : v7_exerciseLots_60 (n + 1) p v2 v5 v6 v7 = bv7_exerciseLots_60 v7_assign v14_floorMod_7cf53 (v7_exerciseLots_60 n) p v2 v5 v6 v7 := rfl
noncomputable def bg7_exerciseLots_60 (F116 : PM → Int32 → Int32 × PM) (G116 : PM → Int32 → Prop) (F372 : PM → Int32 → Int32 → Int32) (G372 : PM → Int32 → Int32 → Prop) (kg60 : PM → Int32 → Int32 → Int32 → Int32 → Prop) (p : PM) (v2 : Int32) (v5 : Int32) (v6 : Int32) (v7 : Int32) : Prop :=
  if v7 < v2 then (
    (G372 p (((cn 421) * v6) + (cn 1663)) (cn 7875)) ∧ (
    let x1 : Int32 := (F372 p (((cn 421) * v6) + (cn 1663)) (cn 7875))
    (G116 p x1) ∧ (
    let r2 : Int32 × PM := F116 p x1
    kg60 r2.2 v2 r2.1 x1 (v7 + (cn 1)))))
  else (
    True)
noncomputable def g7_exerciseLots_60 (n : Nat) : PM → Int32 → Int32 → Int32 → Int32 → Prop := Nat.rec (motive := fun _ => PM → Int32 → Int32 → Int32 → Int32 → Prop) (fun _ _ _ _ _ => False) (fun _ ih => bg7_exerciseLots_60 v7_assign g7_assign v14_floorMod_7cf53 g14_floorMod_7cf53 ih) n
theorem eg7_exerciseLots_60 (n : Nat) (p : PM) (v2 : Int32) (v5 : Int32) (v6 : Int32) (v7 : Int32) : g7_exerciseLots_60 (n + 1) p v2 v5 v6 v7 = bg7_exerciseLots_60 v7_assign g7_assign v14_floorMod_7cf53 g14_floorMod_7cf53 (g7_exerciseLots_60 n) p v2 v5 v6 v7 := rfl
noncomputable def bv7_exerciseLots (F2 : PM → Nat → Int32 → Int32) (F4 : PM → Nat → Int32 → Int32 → PM) (F105 : PM → Int32 → Nat) (kv60 : PM → Int32 → Int32 → Int32 → Int32 → Int32 × PM) (p : PM) (v1 : Int32) (v2 : Int32) (v3 : Int32) : Int32 × PM :=
  let p1 : PM := F4 p (F105 p v1) (cn 3) ((F2 p (F105 p v1) (cn 3)) - v2)
  let p2 : PM := F4 p1 (F105 p v1) (cn 0) ((F2 p1 (F105 p v1) (cn 0)) + v2)
  let p3 : PM := pJ p2 0 (F105 p v1) 4 ((p2.2.1 0 (F105 p v1) 4) - ((v2).toInt64 * (cl 100)))
  kv60 p3 v2 (cn 0) v3 (cn 0)
noncomputable def v7_exerciseLots (p : PM) (v1 : Int32) (v2 : Int32) (v3 : Int32) : Int32 × PM := bv7_exerciseLots v0_holds v0_put v7_accountAt (v7_exerciseLots_60 FU) p v1 v2 v3
noncomputable def bg7_exerciseLots (F2 : PM → Nat → Int32 → Int32) (G2 : PM → Nat → Int32 → Prop) (F4 : PM → Nat → Int32 → Int32 → PM) (G4 : PM → Nat → Int32 → Int32 → Prop) (F105 : PM → Int32 → Nat) (G105 : PM → Int32 → Prop) (kg60 : PM → Int32 → Int32 → Int32 → Int32 → Prop) (p : PM) (v1 : Int32) (v2 : Int32) (v3 : Int32) : Prop :=
  (G105 p v1) ∧ (
  (¬ (F105 p v1) = 0) ∧ (
  (G2 p (F105 p v1) (cn 3)) ∧ (
  (¬ (F105 p v1) = 0) ∧ (
  (G4 p (F105 p v1) (cn 3) ((F2 p (F105 p v1) (cn 3)) - v2)) ∧ (
  let p1 : PM := F4 p (F105 p v1) (cn 3) ((F2 p (F105 p v1) (cn 3)) - v2)
  (¬ (F105 p v1) = 0) ∧ (
  (G2 p1 (F105 p v1) (cn 0)) ∧ (
  (¬ (F105 p v1) = 0) ∧ (
  (G4 p1 (F105 p v1) (cn 0) ((F2 p1 (F105 p v1) (cn 0)) + v2)) ∧ (
  let p2 : PM := F4 p1 (F105 p v1) (cn 0) ((F2 p1 (F105 p v1) (cn 0)) + v2)
  (¬ (F105 p v1) = 0) ∧ (
  (¬ (F105 p v1) = 0) ∧ (
  let p3 : PM := pJ p2 0 (F105 p v1) 4 ((p2.2.1 0 (F105 p v1) 4) - ((v2).toInt64 * (cl 100)))
  kg60 p3 v2 (cn 0) v3 (cn 0))))))))))))
noncomputable def g7_exerciseLots (p : PM) (v1 : Int32) (v2 : Int32) (v3 : Int32) : Prop := bg7_exerciseLots v0_holds g0_holds v0_put g0_put v7_accountAt g7_accountAt (g7_exerciseLots_60 FU) p v1 v2 v3
def R115 : List Row := [(0, .aload_n 0, 1, 0, (0, 0, 0, 0, 0, 0)), (1, .iload_n 1, 1, 0, (0, 0, 0, 0, 0, 0)), (2, .invokevirtual 95, 3, 0, (0, 2, 0, 0, 1, 0)), (5, .astore 4, 2, 0, (0, 0, 0, 0, 0, 0)), (7, .aload 4, 2, 0, (0, 0, 0, 0, 0, 0)), (9, .iconst 3, 1, 0, (0, 0, 0, 0, 0, 3)), (10, .aload 4, 2, 0, (0, 0, 0, 0, 0, 0)), (12, .iconst 3, 1, 0, (0, 0, 0, 0, 0, 3)), (13, .invokevirtual 111, 3, 0, (1, 2, 0, 0, 2, 0)), (16, .iload_n 2, 1, 0, (0, 0, 0, 0, 0, 0)), (17, .isub, 1, 0, (0, 0, 0, 0, 0, 0)), (18, .invokevirtual 119, 3, 0, (2, 3, 0, 0, 2, 0)), (21, .aload 4, 2, 0, (0, 0, 0, 0, 0, 0)), (23, .iconst 0, 1, 0, (0, 0, 0, 0, 0, 0)), (24, .aload 4, 2, 0, (0, 0, 0, 0, 0, 0)), (26, .iconst 0, 1, 0, (0, 0, 0, 0, 0, 0)), (27, .invokevirtual 111, 3, 0, (1, 2, 0, 0, 2, 0)), (30, .iload_n 2, 1, 0, (0, 0, 0, 0, 0, 0)), (31, .iadd, 1, 0, (0, 0, 0, 0, 0, 0)), (32, .invokevirtual 119, 3, 0, (2, 3, 0, 0, 2, 0)), (35, .aload 4, 2, 0, (0, 0, 0, 0, 0, 0)), (37, .dup, 1, 0, (0, 0, 0, 0, 0, 0)), (38, .getfield 91, 3, 0, (0, 4, 2, 0, 0, 0)), (41, .iload_n 2, 1, 0, (0, 0, 0, 0, 0, 0)), (42, .i2l, 1, 0, (0, 0, 0, 0, 0, 0)), (43, .ldc2_w 123, 3, 0, (0, 0, 0, 0, 0, 100)), (46, .lmul, 1, 0, (0, 0, 0, 0, 0, 0)), (47, .lsub, 1, 0, (0, 0, 0, 0, 0, 0)), (48, .putfield 91, 3, 0, (0, 4, 2, 0, 0, 0)), (51, .iconst 0, 1, 0, (0, 0, 0, 0, 0, 0)), (52, .istore 5, 2, 0, (0, 0, 0, 0, 0, 0)), (54, .iload_n 3, 1, 0, (0, 0, 0, 0, 0, 0)), (55, .istore 6, 2, 0, (0, 0, 0, 0, 0, 0)), (57, .iconst 0, 1, 0, (0, 0, 0, 0, 0, 0)), (58, .istore 7, 2, 0, (0, 0, 0, 0, 0, 0)), (60, .iload 7, 2, 1, (0, 0, 0, 0, 0, 0)), (62, .iload_n 2, 1, 0, (0, 0, 0, 0, 0, 0)), (63, .if_icmp .ge 35, 3, 0, (0, 0, 0, 0, 0, 0)), (66, .sipush 421, 3, 0, (0, 0, 0, 0, 0, 421)), (69, .iload 6, 2, 0, (0, 0, 0, 0, 0, 0)), (71, .imul, 1, 0, (0, 0, 0, 0, 0, 0)), (72, .sipush 1663, 3, 0, (0, 0, 0, 0, 0, 1663)), (75, .iadd, 1, 0, (0, 0, 0, 0, 0, 0)), (76, .sipush 7875, 3, 0, (0, 0, 0, 0, 0, 7875)), (79, .invokestatic 125, 3, 0, (3, 2, 0, 0, 0, 0)), (82, .istore 6, 2, 0, (0, 0, 0, 0, 0, 0)), (84, .aload_n 0, 1, 0, (0, 0, 0, 0, 0, 0)), (85, .iload 6, 2, 0, (0, 0, 0, 0, 0, 0)), (87, .invokevirtual 128, 3, 0, (4, 2, 0, 0, 1, 0)), (90, .istore 5, 2, 0, (0, 0, 0, 0, 0, 0)), (92, .iinc 7 1, 3, 0, (0, 0, 0, 0, 0, 1)), (95, .goto (-35), 3, 0, (0, 0, 0, 0, 0, 0)), (98, .iload 5, 2, 0, (0, 0, 0, 0, 0, 0)), (100, .ireturn, 1, 0, (0, 0, 0, 0, 0, 0))]
set_option maxRecDepth 100000 in
theorem rk115 : R115.all (rok 0 115 1 [(105, [10, 0]), (2, [3, 0]), (4, [3, 0, 0]), (372, [0, 0]), (116, [10, 0])]) = true := by decide +kernel
set_option maxRecDepth 100000 in
theorem tab115 {F105 : PM → Int32 → Nat} {G105 : PM → Int32 → Prop} {F2 : PM → Nat → Int32 → Int32} {G2 : PM → Nat → Int32 → Prop} {F4 : PM → Nat → Int32 → Int32 → PM} {G4 : PM → Nat → Int32 → Int32 → Prop} {F372 : PM → Int32 → Int32 → Int32} {G372 : PM → Int32 → Int32 → Prop} {F116 : PM → Int32 → Int32 × PM} {G116 : PM → Int32 → Prop} : TabOK 0 115 1 [CC105 F105 G105, CC2 F2 G2, CC4 F4 G4, CC372 F372 G372, CC116 F116 G116] R115 := tab_ok (K := K115) rfl rfl (fun h => d115 h) rk115 (by decide +kernel)
set_option maxRecDepth 100000 in
theorem pc115 : cutpc [60] R115 = true := by decide +kernel
set_option maxRecDepth 100000 in
theorem r7_exerciseLots_60 (F105 : PM → Int32 → Nat) (G105 : PM → Int32 → Prop) (o105 : CalOK 0 (CC105 F105 G105)) (F2 : PM → Nat → Int32 → Int32) (G2 : PM → Nat → Int32 → Prop) (o2 : CalOK 0 (CC2 F2 G2)) (F4 : PM → Nat → Int32 → Int32 → PM) (G4 : PM → Nat → Int32 → Int32 → Prop) (o4 : CalOK 0 (CC4 F4 G4)) (F372 : PM → Int32 → Int32 → Int32) (G372 : PM → Int32 → Int32 → Prop) (o372 : CalOK 0 (CC372 F372 G372)) (F116 : PM → Int32 → Int32 × PM) (G116 : PM → Int32 → Prop) (o116 : CalOK 0 (CC116 F116 G116)) (kv60 : PM → Int32 → Int32 → Int32 → Int32 → Int32 × PM) (kg60 : PM → Int32 → Int32 → Int32 → Int32 → Prop) (hk60 : ∀ (p : PM) (v2 : Int32) (v5 : Int32) (v6 : Int32) (v7 : Int32) (d1 d3 d4 : ZV), Gr 0 p → kg60 p v2 v5 v6 v7 → ZJ 0 115 60 [zR 7 1, d1, zI v2, d3, d4, zI v5, zI v6, zI v7] [] p (hwI (kv60 p v2 v5 v6 v7))) : ∀ (p : PM) (v2 : Int32) (v5 : Int32) (v6 : Int32) (v7 : Int32) (d1 d3 d4 : ZV), Gr 0 p → bg7_exerciseLots_60 F116 G116 F372 G372 kg60 p v2 v5 v6 v7 → ZJ 0 115 60 [zR 7 1, d1, zI v2, d3, d4, zI v5, zI v6, zI v7] [] p (hwI (bv7_exerciseLots_60 F116 F372 kv60 p v2 v5 v6 v7)) := by
  intro p v2 v5 v6 v7 d1 d3 d4 hg H
  exact rwI (n := 3000) (q := 60) (la := [zR 7 1, d1, zI v2, d3, d4, zI v5, zI v6, zI v7]) (sa := []) (ks := [fun la sa s => kv60 s (ai la 2) (ai la 5) (ai la 6) (ai la 7)]) (gs := [fun la sa s => zsw (tc2 la [(107, 1), (2, 0), (0, 0), (2, 0), (2, 0), (0, 0), (0, 0), (0, 0)] && tc2 sa []) False (kg60 s (ai la 2) (ai la 5) (ai la 6) (ai la 7))]) (fcons o105 (fcons o2 (fcons o4 (fcons o372 (fcons o116 (fnil)))))) tab115 pc115 ⟨fun la sa s hg H => zcut H fun H => hk60 s (ai la 2) (ai la 5) (ai la 6) (ai la 7) (zld la 1) (zld la 3) (zld la 4) hg H, trivial⟩ hg H
theorem t7_exerciseLots_60 : ∀ (n : Nat), ∀ (p : PM) (v2 : Int32) (v5 : Int32) (v6 : Int32) (v7 : Int32) (d1 d3 d4 : ZV), Gr 0 p → g7_exerciseLots_60 n p v2 v5 v6 v7 → ZJ 0 115 60 [zR 7 1, d1, zI v2, d3, d4, zI v5, zI v6, zI v7] [] p (hwI (v7_exerciseLots_60 n p v2 v5 v6 v7)) := by
  intro n
  induction n with
  | zero =>
    intro p v2 v5 v6 v7 d1 d3 d4 hg H
    exact H.elim
  | succ n ih => exact r7_exerciseLots_60 v7_accountAt g7_accountAt ok105 v0_holds g0_holds ok2 v0_put g0_put ok4 v14_floorMod_7cf53 g14_floorMod_7cf53 ok372 v7_assign g7_assign ok116 (v7_exerciseLots_60 n) (g7_exerciseLots_60 n) ih
set_option maxRecDepth 100000 in
theorem r7_exerciseLots (F105 : PM → Int32 → Nat) (G105 : PM → Int32 → Prop) (o105 : CalOK 0 (CC105 F105 G105)) (F2 : PM → Nat → Int32 → Int32) (G2 : PM → Nat → Int32 → Prop) (o2 : CalOK 0 (CC2 F2 G2)) (F4 : PM → Nat → Int32 → Int32 → PM) (G4 : PM → Nat → Int32 → Int32 → Prop) (o4 : CalOK 0 (CC4 F4 G4)) (F372 : PM → Int32 → Int32 → Int32) (G372 : PM → Int32 → Int32 → Prop) (o372 : CalOK 0 (CC372 F372 G372)) (F116 : PM → Int32 → Int32 × PM) (G116 : PM → Int32 → Prop) (o116 : CalOK 0 (CC116 F116 G116)) (kv60 : PM → Int32 → Int32 → Int32 → Int32 → Int32 × PM) (kg60 : PM → Int32 → Int32 → Int32 → Int32 → Prop) (hk60 : ∀ (p : PM) (v2 : Int32) (v5 : Int32) (v6 : Int32) (v7 : Int32) (d1 d3 d4 : ZV), Gr 0 p → kg60 p v2 v5 v6 v7 → ZJ 0 115 60 [zR 7 1, d1, zI v2, d3, d4, zI v5, zI v6, zI v7] [] p (hwI (kv60 p v2 v5 v6 v7))) : ∀ (p : PM) (v1 : Int32) (v2 : Int32) (v3 : Int32), Gr 0 p → bg7_exerciseLots F2 G2 F4 G4 F105 G105 kg60 p v1 v2 v3 → ZJ 0 115 0 [zR 7 1, zI v1, zI v2, zI v3, zJ, zJ, zJ, zJ] [] p (hwI (bv7_exerciseLots F2 F4 F105 kv60 p v1 v2 v3)) := by
  intro p v1 v2 v3  hg H
  exact rwI (n := 3000) (q := 0) (la := [zR 7 1, zI v1, zI v2, zI v3, zJ, zJ, zJ, zJ]) (sa := []) (ks := [fun la sa s => kv60 s (ai la 2) (ai la 5) (ai la 6) (ai la 7)]) (gs := [fun la sa s => zsw (tc2 la [(107, 1), (2, 0), (0, 0), (2, 0), (2, 0), (0, 0), (0, 0), (0, 0)] && tc2 sa []) False (kg60 s (ai la 2) (ai la 5) (ai la 6) (ai la 7))]) (fcons o105 (fcons o2 (fcons o4 (fcons o372 (fcons o116 (fnil)))))) tab115 pc115 ⟨fun la sa s hg H => zcut H fun H => hk60 s (ai la 2) (ai la 5) (ai la 6) (ai la 7) (zld la 1) (zld la 3) (zld la 4) hg H, trivial⟩ hg H
theorem t7_exerciseLots : ∀ (p : PM) (v1 : Int32) (v2 : Int32) (v3 : Int32), Gr 0 p → g7_exerciseLots p v1 v2 v3 → ZJ 0 115 0 [zR 7 1, zI v1, zI v2, zI v3, zJ, zJ, zJ, zJ] [] p (hwI (v7_exerciseLots p v1 v2 v3)) := r7_exerciseLots v7_accountAt g7_accountAt ok105 v0_holds g0_holds ok2 v0_put g0_put ok4 v14_floorMod_7cf53 g14_floorMod_7cf53 ok372 v7_assign g7_assign ok116 (v7_exerciseLots_60 FU) (g7_exerciseLots_60 FU) (t7_exerciseLots_60 FU)
def CC115 (F : PM → Int32 → Int32 → Int32 → Int32 × PM) (G : PM → Int32 → Int32 → Int32 → Prop) : Cal := (115, [10, 0, 0, 0], 1, false, fun as p => (zI (F p (ai as 1) (ai as 2) (ai as 3)).1, (F p (ai as 1) (ai as 2) (ai as 3)).2), fun as p => zsw (tc2 as [(107, 1), (0, 0), (0, 0), (0, 0)]) False (G p (ai as 1) (ai as 2) (ai as 3)))
set_option maxRecDepth 100000 in
theorem okr115 (F : PM → Int32 → Int32 → Int32 → Int32 × PM) (G : PM → Int32 → Int32 → Int32 → Prop) (h : ∀ (p : PM) (v1 : Int32) (v2 : Int32) (v3 : Int32), Gr 0 p → G p v1 v2 v3 → ZJ 0 115 0 [zR 7 1, zI v1, zI v2, zI v3, zJ, zJ, zJ, zJ] [] p (hwI (F p v1 v2 v3))) : CalOK 0 (CC115 F G) := cal_ok (m := 8) (by unfold mL; rw [mX_115]) (fun as p hg H => h p (ai as 1) (ai as 2) (ai as 3) hg H)
theorem ok115 : CalOK 0 (CC115 v7_exerciseLots g7_exerciseLots) := okr115 v7_exerciseLots g7_exerciseLots t7_exerciseLots
noncomputable def bv7_canConvert_3 (p : PM) (F2 : PM → Nat → Int32 → Int32) (F105 : PM → Int32 → Nat) (F118 : PM → Int32 → Int32 → Int32 → Int64) (F374 : PM → Int64 → Int64) (kv3 : Int32 → Int32 → Int32 → Int32 → Int32) (v1 : Int32) (v2 : Int32) (v3 : Int32) (v4 : Int32) : Int32 :=
  if v4 < (cn 8) then (
    if 0 < (lg_cmp (F374 p (F118 p (F2 p (F105 p v4) v1) v2 v3)) (cl 1000000)) then (
      (cn 0))
    else (
      kv3 v1 v2 v3 (v4 + (cn 1))))
  else (
    (cn 1))
noncomputable def v7_canConvert_3 (p : PM) (n : Nat) : Int32 → Int32 → Int32 → Int32 → Int32 := Nat.rec (motive := fun _ => Int32 → Int32 → Int32 → Int32 → Int32) (fun _ _ _ _ => 0) (fun _ ih => bv7_canConvert_3 p v0_holds v7_accountAt v7_scaled v14_abs_067f4 ih) n
theorem ev7_canConvert_3 (p : PM) (n : Nat) (v1 : Int32) (v2 : Int32) (v3 : Int32) (v4 : Int32) : v7_canConvert_3 p (n + 1) v1 v2 v3 v4 = bv7_canConvert_3 p v0_holds v7_accountAt v7_scaled v14_abs_067f4 (v7_canConvert_3 p n) v1 v2 v3 v4 := rfl
noncomputable def bg7_canConvert_3 (p : PM) (F2 : PM → Nat → Int32 → Int32) (G2 : PM → Nat → Int32 → Prop) (F105 : PM → Int32 → Nat) (G105 : PM → Int32 → Prop) (F118 : PM → Int32 → Int32 → Int32 → Int64) (G118 : PM → Int32 → Int32 → Int32 → Prop) (F374 : PM → Int64 → Int64) (G374 : PM → Int64 → Prop) (kg3 : Int32 → Int32 → Int32 → Int32 → Prop) (v1 : Int32) (v2 : Int32) (v3 : Int32) (v4 : Int32) : Prop :=
  if v4 < (cn 8) then (
    (G105 p v4) ∧ (
    (¬ (F105 p v4) = 0) ∧ (
    (G2 p (F105 p v4) v1) ∧ (
    (G118 p (F2 p (F105 p v4) v1) v2 v3) ∧ (
    (G374 p (F118 p (F2 p (F105 p v4) v1) v2 v3)) ∧ (
    if 0 < (lg_cmp (F374 p (F118 p (F2 p (F105 p v4) v1) v2 v3)) (cl 1000000)) then (
      True)
    else (
      kg3 v1 v2 v3 (v4 + (cn 1)))))))))
  else (
    True)
noncomputable def g7_canConvert_3 (p : PM) (n : Nat) : Int32 → Int32 → Int32 → Int32 → Prop := Nat.rec (motive := fun _ => Int32 → Int32 → Int32 → Int32 → Prop) (fun _ _ _ _ => False) (fun _ ih => bg7_canConvert_3 p v0_holds g0_holds v7_accountAt g7_accountAt v7_scaled g7_scaled v14_abs_067f4 g14_abs_067f4 ih) n
theorem eg7_canConvert_3 (p : PM) (n : Nat) (v1 : Int32) (v2 : Int32) (v3 : Int32) (v4 : Int32) : g7_canConvert_3 p (n + 1) v1 v2 v3 v4 = bg7_canConvert_3 p v0_holds g0_holds v7_accountAt g7_accountAt v7_scaled g7_scaled v14_abs_067f4 g14_abs_067f4 (g7_canConvert_3 p n) v1 v2 v3 v4 := rfl
noncomputable def bv7_canConvert (p : PM) (kv3 : Int32 → Int32 → Int32 → Int32 → Int32) (v1 : Int32) (v2 : Int32) (v3 : Int32) : Int32 :=
  kv3 v1 v2 v3 (cn 0)
noncomputable def v7_canConvert (p : PM) (v1 : Int32) (v2 : Int32) (v3 : Int32) : Int32 := bv7_canConvert p (v7_canConvert_3 p FU) v1 v2 v3
noncomputable def bg7_canConvert (p : PM) (kg3 : Int32 → Int32 → Int32 → Int32 → Prop) (v1 : Int32) (v2 : Int32) (v3 : Int32) : Prop :=
  kg3 v1 v2 v3 (cn 0)
noncomputable def g7_canConvert (p : PM) (v1 : Int32) (v2 : Int32) (v3 : Int32) : Prop := bg7_canConvert p (g7_canConvert_3 p FU) v1 v2 v3
def R117 : List Row := [(0, .iconst 0, 1, 0, (0, 0, 0, 0, 0, 0)), (1, .istore 4, 2, 0, (0, 0, 0, 0, 0, 0)), (3, .iload 4, 2, 1, (0, 0, 0, 0, 0, 0)), (5, .bipush 8, 2, 0, (0, 0, 0, 0, 0, 8)), (7, .if_icmp .ge 36, 3, 0, (0, 0, 0, 0, 0, 0)), (10, .aload_n 0, 1, 0, (0, 0, 0, 0, 0, 0)), (11, .iload 4, 2, 0, (0, 0, 0, 0, 0, 0)), (13, .invokevirtual 95, 3, 0, (0, 2, 0, 0, 1, 0)), (16, .iload_n 1, 1, 0, (0, 0, 0, 0, 0, 0)), (17, .invokevirtual 111, 3, 0, (1, 2, 0, 0, 2, 0)), (20, .iload_n 2, 1, 0, (0, 0, 0, 0, 0, 0)), (21, .iload_n 3, 1, 0, (0, 0, 0, 0, 0, 0)), (22, .invokestatic 131, 3, 0, (2, 3, 0, 0, 0, 0)), (25, .invokestatic 135, 3, 0, (3, 1, 0, 0, 0, 0)), (28, .ldc2_w 139, 3, 0, (0, 0, 0, 0, 0, 1000000)), (31, .lcmp, 1, 0, (0, 0, 0, 0, 0, 0)), (32, .ifCond .le 5, 3, 0, (0, 0, 0, 0, 0, 0)), (35, .iconst 0, 1, 0, (0, 0, 0, 0, 0, 0)), (36, .ireturn, 1, 0, (1, 0, 0, 0, 0, 0)), (37, .iinc 4 1, 3, 0, (0, 0, 0, 0, 0, 1)), (40, .goto (-37), 3, 0, (0, 0, 0, 0, 0, 0)), (43, .iconst 1, 1, 0, (0, 0, 0, 0, 0, 1)), (44, .ireturn, 1, 0, (1, 0, 0, 0, 0, 0))]
set_option maxRecDepth 100000 in
theorem rk117 : R117.all (rok 0 117 1 [(105, [10, 0]), (2, [3, 0]), (118, [0, 0, 0]), (374, [1])]) = true := by decide +kernel
set_option maxRecDepth 100000 in
theorem tab117 {F105 : PM → Int32 → Nat} {G105 : PM → Int32 → Prop} {F2 : PM → Nat → Int32 → Int32} {G2 : PM → Nat → Int32 → Prop} {F118 : PM → Int32 → Int32 → Int32 → Int64} {G118 : PM → Int32 → Int32 → Int32 → Prop} {F374 : PM → Int64 → Int64} {G374 : PM → Int64 → Prop} : TabOK 0 117 1 [CC105 F105 G105, CC2 F2 G2, CC118 F118 G118, CC374 F374 G374] R117 := tab_ok (K := K117) rfl rfl (fun h => d117 h) rk117 (by decide +kernel)
set_option maxRecDepth 100000 in
theorem pc117 : cutpc [3] R117 = true := by decide +kernel
set_option maxRecDepth 100000 in
theorem r7_canConvert_3 (p : PM) (hg : Gr 0 p) (F105 : PM → Int32 → Nat) (G105 : PM → Int32 → Prop) (o105 : CalOK 0 (CC105 F105 G105)) (F2 : PM → Nat → Int32 → Int32) (G2 : PM → Nat → Int32 → Prop) (o2 : CalOK 0 (CC2 F2 G2)) (F118 : PM → Int32 → Int32 → Int32 → Int64) (G118 : PM → Int32 → Int32 → Int32 → Prop) (o118 : CalOK 0 (CC118 F118 G118)) (F374 : PM → Int64 → Int64) (G374 : PM → Int64 → Prop) (o374 : CalOK 0 (CC374 F374 G374)) (kv3 : Int32 → Int32 → Int32 → Int32 → Int32) (kg3 : Int32 → Int32 → Int32 → Int32 → Prop) (hk3 : ∀ (v1 : Int32) (v2 : Int32) (v3 : Int32) (v4 : Int32), kg3 v1 v2 v3 v4 → ZJ 0 117 3 [zR 7 1, zI v1, zI v2, zI v3, zI v4] [] p (hoI p (kv3 v1 v2 v3 v4))) : ∀ (v1 : Int32) (v2 : Int32) (v3 : Int32) (v4 : Int32), bg7_canConvert_3 p F2 G2 F105 G105 F118 G118 F374 G374 kg3 v1 v2 v3 v4 → ZJ 0 117 3 [zR 7 1, zI v1, zI v2, zI v3, zI v4] [] p (hoI p (bv7_canConvert_3 p F2 F105 F118 F374 kv3 v1 v2 v3 v4)) := by
  intro v1 v2 v3 v4  H
  exact roI (n := 3000) (q := 3) (la := [zR 7 1, zI v1, zI v2, zI v3, zI v4]) (sa := []) (ks := [fun la sa _ => kv3 (ai la 1) (ai la 2) (ai la 3) (ai la 4)]) (gs := [fun la sa _ => zsw (tc2 la [(107, 1), (0, 0), (0, 0), (0, 0), (0, 0)] && tc2 sa []) False (kg3 (ai la 1) (ai la 2) (ai la 3) (ai la 4))]) (fcons o105 (fcons o2 (fcons o118 (fcons o374 (fnil))))) tab117 pc117 ⟨fun la sa s hg H => zcut H fun H => hk3 (ai la 1) (ai la 2) (ai la 3) (ai la 4) H, trivial⟩ hg H
theorem t7_canConvert_3 (p : PM) (hg : Gr 0 p) : ∀ (n : Nat), ∀ (v1 : Int32) (v2 : Int32) (v3 : Int32) (v4 : Int32), g7_canConvert_3 p n v1 v2 v3 v4 → ZJ 0 117 3 [zR 7 1, zI v1, zI v2, zI v3, zI v4] [] p (hoI p (v7_canConvert_3 p n v1 v2 v3 v4)) := by
  intro n
  induction n with
  | zero =>
    intro v1 v2 v3 v4  H
    exact H.elim
  | succ n ih => exact r7_canConvert_3 p hg v7_accountAt g7_accountAt ok105 v0_holds g0_holds ok2 v7_scaled g7_scaled ok118 v14_abs_067f4 g14_abs_067f4 ok374 (v7_canConvert_3 p n) (g7_canConvert_3 p n) ih
set_option maxRecDepth 100000 in
theorem r7_canConvert (p : PM) (hg : Gr 0 p) (F105 : PM → Int32 → Nat) (G105 : PM → Int32 → Prop) (o105 : CalOK 0 (CC105 F105 G105)) (F2 : PM → Nat → Int32 → Int32) (G2 : PM → Nat → Int32 → Prop) (o2 : CalOK 0 (CC2 F2 G2)) (F118 : PM → Int32 → Int32 → Int32 → Int64) (G118 : PM → Int32 → Int32 → Int32 → Prop) (o118 : CalOK 0 (CC118 F118 G118)) (F374 : PM → Int64 → Int64) (G374 : PM → Int64 → Prop) (o374 : CalOK 0 (CC374 F374 G374)) (kv3 : Int32 → Int32 → Int32 → Int32 → Int32) (kg3 : Int32 → Int32 → Int32 → Int32 → Prop) (hk3 : ∀ (v1 : Int32) (v2 : Int32) (v3 : Int32) (v4 : Int32), kg3 v1 v2 v3 v4 → ZJ 0 117 3 [zR 7 1, zI v1, zI v2, zI v3, zI v4] [] p (hoI p (kv3 v1 v2 v3 v4))) : ∀ (v1 : Int32) (v2 : Int32) (v3 : Int32), bg7_canConvert p kg3 v1 v2 v3 → ZJ 0 117 0 [zR 7 1, zI v1, zI v2, zI v3, zJ] [] p (hoI p (bv7_canConvert p kv3 v1 v2 v3)) := by
  intro v1 v2 v3  H
  exact roI (n := 3000) (q := 0) (la := [zR 7 1, zI v1, zI v2, zI v3, zJ]) (sa := []) (ks := [fun la sa _ => kv3 (ai la 1) (ai la 2) (ai la 3) (ai la 4)]) (gs := [fun la sa _ => zsw (tc2 la [(107, 1), (0, 0), (0, 0), (0, 0), (0, 0)] && tc2 sa []) False (kg3 (ai la 1) (ai la 2) (ai la 3) (ai la 4))]) (fcons o105 (fcons o2 (fcons o118 (fcons o374 (fnil))))) tab117 pc117 ⟨fun la sa s hg H => zcut H fun H => hk3 (ai la 1) (ai la 2) (ai la 3) (ai la 4) H, trivial⟩ hg H
theorem t7_canConvert (p : PM) (hg : Gr 0 p) : ∀ (v1 : Int32) (v2 : Int32) (v3 : Int32), g7_canConvert p v1 v2 v3 → ZJ 0 117 0 [zR 7 1, zI v1, zI v2, zI v3, zJ] [] p (hoI p (v7_canConvert p v1 v2 v3)) := r7_canConvert p hg v7_accountAt g7_accountAt ok105 v0_holds g0_holds ok2 v7_scaled g7_scaled ok118 v14_abs_067f4 g14_abs_067f4 ok374 (v7_canConvert_3 p FU) (g7_canConvert_3 p FU) (t7_canConvert_3 p hg FU)
def CC117 (F : PM → Int32 → Int32 → Int32 → Int32) (G : PM → Int32 → Int32 → Int32 → Prop) : Cal := (117, [10, 0, 0, 0], 1, true, fun as p => (zI (F p (ai as 1) (ai as 2) (ai as 3)), p), fun as p => zsw (tc2 as [(107, 1), (0, 0), (0, 0), (0, 0)]) False (G p (ai as 1) (ai as 2) (ai as 3)))
set_option maxRecDepth 100000 in
theorem okr117 (F : PM → Int32 → Int32 → Int32 → Int32) (G : PM → Int32 → Int32 → Int32 → Prop) (h : ∀ (p : PM) (v1 : Int32) (v2 : Int32) (v3 : Int32), Gr 0 p → G p v1 v2 v3 → ZJ 0 117 0 [zR 7 1, zI v1, zI v2, zI v3, zJ] [] p (hoI p (F p v1 v2 v3))) : CalOK 0 (CC117 F G) := cal_ok (m := 5) (by unfold mL; rw [mX_117]) (fun as p hg H => h p (ai as 1) (ai as 2) (ai as 3) hg H)
theorem ok117 : CalOK 0 (CC117 v7_canConvert g7_canConvert) := okr117 v7_canConvert g7_canConvert (fun p v1 v2 v3 hg H => t7_canConvert p hg v1 v2 v3 H)
noncomputable def bv12_thrown (p : PM) : Int32 :=
  (p.1 12 1 0)
noncomputable def v12_thrown (p : PM) : Int32 := bv12_thrown p
noncomputable def bg12_thrown (p : PM) : Prop :=
  True
noncomputable def g12_thrown (p : PM) : Prop := bg12_thrown p
def R213 : List Row := [(0, .aload_n 0, 1, 0, (0, 0, 0, 0, 0, 0)), (1, .getfield 180, 3, 0, (12, 0, 0, 1, 0, 0)), (4, .ireturn, 1, 0, (0, 0, 0, 0, 0, 0))]
set_option maxRecDepth 100000 in
theorem rk213 : R213.all (rok 2 213 1 []) = true := by decide +kernel
set_option maxRecDepth 100000 in
theorem tab213 : TabOK 2 213 1 [] R213 := tab_ok (K := K213) rfl rfl (fun h => d213 h) rk213 (by decide +kernel)
set_option maxRecDepth 100000 in
theorem pc213 : cutpc [] R213 = true := by decide +kernel
set_option maxRecDepth 100000 in
theorem r12_thrown (p : PM) (hg : Gr 2 p) : bg12_thrown p → ZJ 2 213 0 [zR 12 1] [] p (hoI p (bv12_thrown p)) := by
  intro   H
  exact roI (n := 3000) (q := 0) (la := [zR 12 1]) (sa := []) (ks := []) (gs := []) (fnil) tab213 pc213 trivial hg H
theorem t12_thrown (p : PM) (hg : Gr 2 p) : g12_thrown p → ZJ 2 213 0 [zR 12 1] [] p (hoI p (v12_thrown p)) := r12_thrown p hg
def CC213 (F : PM → Int32) (G : PM → Prop) : Cal := (213, [15], 1, true, fun as p => (zI (F p ), p), fun as p => zsw (tc2 as [(112, 1)]) False (G p ))
set_option maxRecDepth 100000 in
theorem okr213 (F : PM → Int32) (G : PM → Prop) (h : ∀ (p : PM), Gr 2 p → G p  → ZJ 2 213 0 [zR 12 1] [] p (hoI p (F p ))) : CalOK 2 (CC213 F G) := cal_ok (m := 1) (by unfold mL; rw [mX_213]) (fun as p hg H => h p  hg H)
theorem ok213 : CalOK 2 (CC213 v12_thrown g12_thrown) := okr213 v12_thrown g12_thrown (fun p  hg H => t12_thrown p hg  H)
noncomputable def bv12_resets_230 (kv230 : PM → Int32 → PM) (p : PM) (v1 : Int32) : PM :=
  if v1 < (cn 4) then (
    let p9 : PM := pI p 13 36 (v1).toNatClampNeg (cn 0)
    let p10 : PM := pI p9 13 37 (v1).toNatClampNeg (cn 0)
    let p11 : PM := pI p10 13 38 (v1).toNatClampNeg (cn 200)
    let p12 : PM := pI p11 15 9 (v1).toNatClampNeg (cn 0)
    let p13 : PM := pI p12 15 10 (v1).toNatClampNeg (cn 0)
    kv230 p13 (v1 + (cn 1)))
  else (
    let p1 : PM := pI p 12 1 50 (cn 0)
    let p2 : PM := pI p1 12 1 57 (cn (-1))
    let p3 : PM := pI p2 12 1 58 (cn 500)
    let p4 : PM := pI p3 12 1 17 (cn 0)
    let p5 : PM := pI p4 12 1 18 (cn 0)
    let p6 : PM := pI p5 12 1 39 (cn 0)
    let p7 : PM := pI p6 12 1 40 (cn 0)
    let p8 : PM := pI p7 12 1 48 (cn 0)
    p8)
noncomputable def v12_resets_230 (n : Nat) : PM → Int32 → PM := Nat.rec (motive := fun _ => PM → Int32 → PM) (fun p _ => p) (fun _ ih => bv12_resets_230 ih) n
theorem ev12_resets_230 (n : Nat) (p : PM) (v1 : Int32) : v12_resets_230 (n + 1) p v1 = bv12_resets_230 (v12_resets_230 n) p v1 := rfl
noncomputable def bg12_resets_230 (kg230 : PM → Int32 → Prop) (p : PM) (v1 : Int32) : Prop :=
  if v1 < (cn 4) then (
    (inb v1 4) ∧ (
    let p9 : PM := pI p 13 36 (v1).toNatClampNeg (cn 0)
    (inb v1 4) ∧ (
    let p10 : PM := pI p9 13 37 (v1).toNatClampNeg (cn 0)
    (inb v1 4) ∧ (
    let p11 : PM := pI p10 13 38 (v1).toNatClampNeg (cn 200)
    (inb v1 4) ∧ (
    let p12 : PM := pI p11 15 9 (v1).toNatClampNeg (cn 0)
    (inb v1 4) ∧ (
    let p13 : PM := pI p12 15 10 (v1).toNatClampNeg (cn 0)
    kg230 p13 (v1 + (cn 1))))))))
  else (
    let p1 : PM := pI p 12 1 50 (cn 0)
    let p2 : PM := pI p1 12 1 57 (cn (-1))
    let p3 : PM := pI p2 12 1 58 (cn 500)
    let p4 : PM := pI p3 12 1 17 (cn 0)
    let p5 : PM := pI p4 12 1 18 (cn 0)
    let p6 : PM := pI p5 12 1 39 (cn 0)
    let p7 : PM := pI p6 12 1 40 (cn 0)
    let p8 : PM := pI p7 12 1 48 (cn 0)
    True)
noncomputable def g12_resets_230 (n : Nat) : PM → Int32 → Prop := Nat.rec (motive := fun _ => PM → Int32 → Prop) (fun _ _ => False) (fun _ ih => bg12_resets_230 ih) n
theorem eg12_resets_230 (n : Nat) (p : PM) (v1 : Int32) : g12_resets_230 (n + 1) p v1 = bg12_resets_230 (g12_resets_230 n) p v1 := rfl
noncomputable def bv12_resets_209 (kv209 : PM → Int32 → PM) (kv230 : PM → Int32 → PM) (p : PM) (v1 : Int32) : PM :=
  if v1 < (cn 16) then (
    let p1 : PM := pI p 13 35 (v1).toNatClampNeg (cn 0)
    kv209 p1 (v1 + (cn 1)))
  else (
    kv230 p (cn 0))
noncomputable def v12_resets_209 (n : Nat) : PM → Int32 → PM := Nat.rec (motive := fun _ => PM → Int32 → PM) (fun p _ => p) (fun _ ih => bv12_resets_209 ih (v12_resets_230 FU)) n
theorem ev12_resets_209 (n : Nat) (p : PM) (v1 : Int32) : v12_resets_209 (n + 1) p v1 = bv12_resets_209 (v12_resets_209 n) (v12_resets_230 FU) p v1 := rfl
noncomputable def bg12_resets_209 (kg209 : PM → Int32 → Prop) (kg230 : PM → Int32 → Prop) (p : PM) (v1 : Int32) : Prop :=
  if v1 < (cn 16) then (
    (inb v1 16) ∧ (
    let p1 : PM := pI p 13 35 (v1).toNatClampNeg (cn 0)
    kg209 p1 (v1 + (cn 1))))
  else (
    kg230 p (cn 0))
noncomputable def g12_resets_209 (n : Nat) : PM → Int32 → Prop := Nat.rec (motive := fun _ => PM → Int32 → Prop) (fun _ _ => False) (fun _ ih => bg12_resets_209 ih (g12_resets_230 FU)) n
theorem eg12_resets_209 (n : Nat) (p : PM) (v1 : Int32) : g12_resets_209 (n + 1) p v1 = bg12_resets_209 (g12_resets_209 n) (g12_resets_230 FU) p v1 := rfl
noncomputable def bv12_resets_188 (kv188 : PM → Int32 → PM) (kv209 : PM → Int32 → PM) (p : PM) (v1 : Int32) : PM :=
  if v1 < (cn 44) then (
    let p1 : PM := pI p 15 3 (v1).toNatClampNeg (cn 0)
    kv188 p1 (v1 + (cn 1)))
  else (
    kv209 p (cn 0))
noncomputable def v12_resets_188 (n : Nat) : PM → Int32 → PM := Nat.rec (motive := fun _ => PM → Int32 → PM) (fun p _ => p) (fun _ ih => bv12_resets_188 ih (v12_resets_209 FU)) n
theorem ev12_resets_188 (n : Nat) (p : PM) (v1 : Int32) : v12_resets_188 (n + 1) p v1 = bv12_resets_188 (v12_resets_188 n) (v12_resets_209 FU) p v1 := rfl
noncomputable def bg12_resets_188 (kg188 : PM → Int32 → Prop) (kg209 : PM → Int32 → Prop) (p : PM) (v1 : Int32) : Prop :=
  if v1 < (cn 44) then (
    (inb v1 44) ∧ (
    let p1 : PM := pI p 15 3 (v1).toNatClampNeg (cn 0)
    kg188 p1 (v1 + (cn 1))))
  else (
    kg209 p (cn 0))
noncomputable def g12_resets_188 (n : Nat) : PM → Int32 → Prop := Nat.rec (motive := fun _ => PM → Int32 → Prop) (fun _ _ => False) (fun _ ih => bg12_resets_188 ih (g12_resets_209 FU)) n
theorem eg12_resets_188 (n : Nat) (p : PM) (v1 : Int32) : g12_resets_188 (n + 1) p v1 = bg12_resets_188 (g12_resets_188 n) (g12_resets_209 FU) p v1 := rfl
noncomputable def bv12_resets_109 (kv109 : PM → Int32 → PM) (kv188 : PM → Int32 → PM) (p : PM) (v1 : Int32) : PM :=
  if v1 < (cn 6) then (
    let p1 : PM := pI p 13 6 (v1).toNatClampNeg (cn 0)
    let p2 : PM := pI p1 13 7 (v1).toNatClampNeg (cn 0)
    let p3 : PM := pI p2 13 8 (v1).toNatClampNeg (cn 0)
    let p4 : PM := pI p3 13 9 (v1).toNatClampNeg (cn 0)
    if v1 < (cn 4) then (
      let p8 : PM := pI p4 13 10 (v1).toNatClampNeg (cn 100)
      let p9 : PM := pI p8 13 11 (v1).toNatClampNeg (p8.1 13 10 (v1).toNatClampNeg)
      let p10 : PM := pI p9 13 12 (v1).toNatClampNeg (cn (-100000))
      kv109 p10 (v1 + (cn 1)))
    else (
      let p5 : PM := pI p4 13 10 (v1).toNatClampNeg (cn 0)
      let p6 : PM := pI p5 13 11 (v1).toNatClampNeg (p5.1 13 10 (v1).toNatClampNeg)
      let p7 : PM := pI p6 13 12 (v1).toNatClampNeg (cn (-100000))
      kv109 p7 (v1 + (cn 1))))
  else (
    kv188 p (cn 0))
noncomputable def v12_resets_109 (n : Nat) : PM → Int32 → PM := Nat.rec (motive := fun _ => PM → Int32 → PM) (fun p _ => p) (fun _ ih => bv12_resets_109 ih (v12_resets_188 FU)) n
theorem ev12_resets_109 (n : Nat) (p : PM) (v1 : Int32) : v12_resets_109 (n + 1) p v1 = bv12_resets_109 (v12_resets_109 n) (v12_resets_188 FU) p v1 := rfl
noncomputable def bg12_resets_109 (kg109 : PM → Int32 → Prop) (kg188 : PM → Int32 → Prop) (p : PM) (v1 : Int32) : Prop :=
  if v1 < (cn 6) then (
    (inb v1 6) ∧ (
    let p1 : PM := pI p 13 6 (v1).toNatClampNeg (cn 0)
    (inb v1 6) ∧ (
    let p2 : PM := pI p1 13 7 (v1).toNatClampNeg (cn 0)
    (inb v1 6) ∧ (
    let p3 : PM := pI p2 13 8 (v1).toNatClampNeg (cn 0)
    (inb v1 6) ∧ (
    let p4 : PM := pI p3 13 9 (v1).toNatClampNeg (cn 0)
    if v1 < (cn 4) then (
      (inb v1 6) ∧ (
      let p8 : PM := pI p4 13 10 (v1).toNatClampNeg (cn 100)
      (inb v1 6) ∧ (
      (inb v1 6) ∧ (
      let p9 : PM := pI p8 13 11 (v1).toNatClampNeg (p8.1 13 10 (v1).toNatClampNeg)
      (inb v1 6) ∧ (
      let p10 : PM := pI p9 13 12 (v1).toNatClampNeg (cn (-100000))
      kg109 p10 (v1 + (cn 1)))))))
    else (
      (inb v1 6) ∧ (
      let p5 : PM := pI p4 13 10 (v1).toNatClampNeg (cn 0)
      (inb v1 6) ∧ (
      (inb v1 6) ∧ (
      let p6 : PM := pI p5 13 11 (v1).toNatClampNeg (p5.1 13 10 (v1).toNatClampNeg)
      (inb v1 6) ∧ (
      let p7 : PM := pI p6 13 12 (v1).toNatClampNeg (cn (-100000))
      kg109 p7 (v1 + (cn 1))))))))))))
  else (
    kg188 p (cn 0))
noncomputable def g12_resets_109 (n : Nat) : PM → Int32 → Prop := Nat.rec (motive := fun _ => PM → Int32 → Prop) (fun _ _ => False) (fun _ ih => bg12_resets_109 ih (g12_resets_188 FU)) n
theorem eg12_resets_109 (n : Nat) (p : PM) (v1 : Int32) : g12_resets_109 (n + 1) p v1 = bg12_resets_109 (g12_resets_109 n) (g12_resets_188 FU) p v1 := rfl
noncomputable def bv12_resets_67 (kv67 : PM → Int32 → PM) (kv109 : PM → Int32 → PM) (p : PM) (v1 : Int32) : PM :=
  if v1 < (cn 8) then (
    let p1 : PM := pI p 13 3 (v1).toNatClampNeg (cn 0)
    let p2 : PM := pI p1 13 4 (v1).toNatClampNeg (cn 0)
    let p3 : PM := pI p2 15 1 (v1).toNatClampNeg (cn 0)
    let p4 : PM := pI p3 13 5 (v1).toNatClampNeg (cn 0)
    kv67 p4 (v1 + (cn 1)))
  else (
    kv109 p (cn 0))
noncomputable def v12_resets_67 (n : Nat) : PM → Int32 → PM := Nat.rec (motive := fun _ => PM → Int32 → PM) (fun p _ => p) (fun _ ih => bv12_resets_67 ih (v12_resets_109 FU)) n
theorem ev12_resets_67 (n : Nat) (p : PM) (v1 : Int32) : v12_resets_67 (n + 1) p v1 = bv12_resets_67 (v12_resets_67 n) (v12_resets_109 FU) p v1 := rfl
noncomputable def bg12_resets_67 (kg67 : PM → Int32 → Prop) (kg109 : PM → Int32 → Prop) (p : PM) (v1 : Int32) : Prop :=
  if v1 < (cn 8) then (
    (inb v1 8) ∧ (
    let p1 : PM := pI p 13 3 (v1).toNatClampNeg (cn 0)
    (inb v1 8) ∧ (
    let p2 : PM := pI p1 13 4 (v1).toNatClampNeg (cn 0)
    (inb v1 8) ∧ (
    let p3 : PM := pI p2 15 1 (v1).toNatClampNeg (cn 0)
    (inb v1 8) ∧ (
    let p4 : PM := pI p3 13 5 (v1).toNatClampNeg (cn 0)
    kg67 p4 (v1 + (cn 1)))))))
  else (
    kg109 p (cn 0))
noncomputable def g12_resets_67 (n : Nat) : PM → Int32 → Prop := Nat.rec (motive := fun _ => PM → Int32 → Prop) (fun _ _ => False) (fun _ ih => bg12_resets_67 ih (g12_resets_109 FU)) n
theorem eg12_resets_67 (n : Nat) (p : PM) (v1 : Int32) : g12_resets_67 (n + 1) p v1 = bg12_resets_67 (g12_resets_67 n) (g12_resets_109 FU) p v1 := rfl
noncomputable def bv12_resets_44 (kv44 : PM → Int32 → PM) (kv67 : PM → Int32 → PM) (p : PM) (v1 : Int32) : PM :=
  if v1 < (cn 32) then (
    let p1 : PM := pI p 13 2 (v1).toNatClampNeg (cn 999)
    kv44 p1 (v1 + (cn 1)))
  else (
    kv67 p (cn 0))
noncomputable def v12_resets_44 (n : Nat) : PM → Int32 → PM := Nat.rec (motive := fun _ => PM → Int32 → PM) (fun p _ => p) (fun _ ih => bv12_resets_44 ih (v12_resets_67 FU)) n
theorem ev12_resets_44 (n : Nat) (p : PM) (v1 : Int32) : v12_resets_44 (n + 1) p v1 = bv12_resets_44 (v12_resets_44 n) (v12_resets_67 FU) p v1 := rfl
noncomputable def bg12_resets_44 (kg44 : PM → Int32 → Prop) (kg67 : PM → Int32 → Prop) (p : PM) (v1 : Int32) : Prop :=
  if v1 < (cn 32) then (
    (inb v1 32) ∧ (
    let p1 : PM := pI p 13 2 (v1).toNatClampNeg (cn 999)
    kg44 p1 (v1 + (cn 1))))
  else (
    kg67 p (cn 0))
noncomputable def g12_resets_44 (n : Nat) : PM → Int32 → Prop := Nat.rec (motive := fun _ => PM → Int32 → Prop) (fun _ _ => False) (fun _ ih => bg12_resets_44 ih (g12_resets_67 FU)) n
theorem eg12_resets_44 (n : Nat) (p : PM) (v1 : Int32) : g12_resets_44 (n + 1) p v1 = bg12_resets_44 (g12_resets_44 n) (g12_resets_67 FU) p v1 := rfl
noncomputable def bv12_resets_23 (kv23 : PM → Int32 → PM) (kv44 : PM → Int32 → PM) (p : PM) (v1 : Int32) : PM :=
  if v1 < (cn 9) then (
    let p1 : PM := pJ p 14 1 (v1).toNatClampNeg (cl 0)
    kv23 p1 (v1 + (cn 1)))
  else (
    kv44 p (cn 0))
noncomputable def v12_resets_23 (n : Nat) : PM → Int32 → PM := Nat.rec (motive := fun _ => PM → Int32 → PM) (fun p _ => p) (fun _ ih => bv12_resets_23 ih (v12_resets_44 FU)) n
theorem ev12_resets_23 (n : Nat) (p : PM) (v1 : Int32) : v12_resets_23 (n + 1) p v1 = bv12_resets_23 (v12_resets_23 n) (v12_resets_44 FU) p v1 := rfl
noncomputable def bg12_resets_23 (kg23 : PM → Int32 → Prop) (kg44 : PM → Int32 → Prop) (p : PM) (v1 : Int32) : Prop :=
  if v1 < (cn 9) then (
    (inb v1 9) ∧ (
    let p1 : PM := pJ p 14 1 (v1).toNatClampNeg (cl 0)
    kg23 p1 (v1 + (cn 1))))
  else (
    kg44 p (cn 0))
noncomputable def g12_resets_23 (n : Nat) : PM → Int32 → Prop := Nat.rec (motive := fun _ => PM → Int32 → Prop) (fun _ _ => False) (fun _ ih => bg12_resets_23 ih (g12_resets_44 FU)) n
theorem eg12_resets_23 (n : Nat) (p : PM) (v1 : Int32) : g12_resets_23 (n + 1) p v1 = bg12_resets_23 (g12_resets_23 n) (g12_resets_44 FU) p v1 := rfl
noncomputable def bv12_resets_2 (kv2 : PM → Int32 → PM) (kv23 : PM → Int32 → PM) (p : PM) (v1 : Int32) : PM :=
  if v1 < (cn 36) then (
    let p1 : PM := pI p 13 1 (v1).toNatClampNeg (cn 0)
    kv2 p1 (v1 + (cn 1)))
  else (
    kv23 p (cn 0))
noncomputable def v12_resets_2 (n : Nat) : PM → Int32 → PM := Nat.rec (motive := fun _ => PM → Int32 → PM) (fun p _ => p) (fun _ ih => bv12_resets_2 ih (v12_resets_23 FU)) n
theorem ev12_resets_2 (n : Nat) (p : PM) (v1 : Int32) : v12_resets_2 (n + 1) p v1 = bv12_resets_2 (v12_resets_2 n) (v12_resets_23 FU) p v1 := rfl
noncomputable def bg12_resets_2 (kg2 : PM → Int32 → Prop) (kg23 : PM → Int32 → Prop) (p : PM) (v1 : Int32) : Prop :=
  if v1 < (cn 36) then (
    (inb v1 36) ∧ (
    let p1 : PM := pI p 13 1 (v1).toNatClampNeg (cn 0)
    kg2 p1 (v1 + (cn 1))))
  else (
    kg23 p (cn 0))
noncomputable def g12_resets_2 (n : Nat) : PM → Int32 → Prop := Nat.rec (motive := fun _ => PM → Int32 → Prop) (fun _ _ => False) (fun _ ih => bg12_resets_2 ih (g12_resets_23 FU)) n
theorem eg12_resets_2 (n : Nat) (p : PM) (v1 : Int32) : g12_resets_2 (n + 1) p v1 = bg12_resets_2 (g12_resets_2 n) (g12_resets_23 FU) p v1 := rfl
noncomputable def bv12_resets (kv2 : PM → Int32 → PM) (p : PM) : PM :=
  kv2 p (cn 0)
noncomputable def v12_resets (p : PM) : PM := bv12_resets (v12_resets_2 FU) p
noncomputable def bg12_resets (kg2 : PM → Int32 → Prop) (p : PM) : Prop :=
  kg2 p (cn 0)
noncomputable def g12_resets (p : PM) : Prop := bg12_resets (g12_resets_2 FU) p
def R214 : List Row := [(0, .iconst 0, 1, 0, (0, 0, 0, 0, 0, 0)), (1, .istore_n 1, 1, 0, (0, 0, 0, 0, 0, 0)), (2, .iload_n 1, 1, 1, (0, 0, 0, 0, 0, 0)), (3, .bipush 36, 2, 0, (0, 0, 0, 0, 0, 36)), (5, .if_icmp .ge 16, 3, 0, (0, 0, 0, 0, 0, 0)), (8, .aload_n 0, 1, 0, (0, 0, 0, 0, 0, 0)), (9, .getfield 7, 3, 0, (12, 1, 16, 2, 1, 0)), (12, .iload_n 1, 1, 0, (0, 0, 0, 0, 0, 0)), (13, .iconst 0, 1, 0, (0, 0, 0, 0, 0, 0)), (14, .iastore, 1, 0, (13, 36, 0, 0, 0, 0)), (15, .iinc 1 1, 3, 0, (0, 0, 0, 0, 0, 1)), (18, .goto (-16), 3, 0, (0, 0, 0, 0, 0, 0)), (21, .iconst 0, 1, 0, (0, 0, 0, 0, 0, 0)), (22, .istore_n 1, 1, 0, (0, 0, 0, 0, 0, 0)), (23, .iload_n 1, 1, 2, (0, 0, 0, 0, 0, 0)), (24, .bipush 9, 2, 0, (0, 0, 0, 0, 0, 9)), (26, .if_icmp .ge 16, 3, 0, (0, 0, 0, 0, 0, 0)), (29, .aload_n 0, 1, 0, (0, 0, 0, 0, 0, 0)), (30, .getfield 13, 3, 0, (12, 2, 17, 2, 1, 0)), (33, .iload_n 1, 1, 0, (0, 0, 0, 0, 0, 0)), (34, .lconst 0, 1, 0, (0, 0, 0, 0, 0, 0)), (35, .lastore, 1, 0, (14, 9, 0, 0, 0, 0)), (36, .iinc 1 1, 3, 0, (0, 0, 0, 0, 0, 1)), (39, .goto (-16), 3, 0, (0, 0, 0, 0, 0, 0)), (42, .iconst 0, 1, 0, (0, 0, 0, 0, 0, 0)), (43, .istore_n 1, 1, 0, (0, 0, 0, 0, 0, 0)), (44, .iload_n 1, 1, 3, (0, 0, 0, 0, 0, 0)), (45, .bipush 32, 2, 0, (0, 0, 0, 0, 0, 32)), (47, .if_icmp .ge 18, 3, 0, (0, 0, 0, 0, 0, 0)), (50, .aload_n 0, 1, 0, (0, 0, 0, 0, 0, 0)), (51, .getfield 17, 3, 0, (12, 3, 16, 2, 2, 0)), (54, .iload_n 1, 1, 0, (0, 0, 0, 0, 0, 0)), (55, .sipush 999, 3, 0, (0, 0, 0, 0, 0, 999)), (58, .iastore, 1, 0, (13, 32, 0, 0, 0, 0)), (59, .iinc 1 1, 3, 0, (0, 0, 0, 0, 0, 1)), (62, .goto (-18), 3, 0, (0, 0, 0, 0, 0, 0)), (65, .iconst 0, 1, 0, (0, 0, 0, 0, 0, 0)), (66, .istore_n 1, 1, 0, (0, 0, 0, 0, 0, 0)), (67, .iload_n 1, 1, 4, (0, 0, 0, 0, 0, 0)), (68, .bipush 8, 2, 0, (0, 0, 0, 0, 0, 8)), (70, .if_icmp .ge 37, 3, 0, (0, 0, 0, 0, 0, 0)), (73, .aload_n 0, 1, 0, (0, 0, 0, 0, 0, 0)), (74, .getfield 20, 3, 0, (12, 4, 16, 2, 3, 0)), (77, .iload_n 1, 1, 0, (0, 0, 0, 0, 0, 0)), (78, .iconst 0, 1, 0, (0, 0, 0, 0, 0, 0)), (79, .iastore, 1, 0, (13, 8, 0, 0, 0, 0)), (80, .aload_n 0, 1, 0, (0, 0, 0, 0, 0, 0)), (81, .getfield 23, 3, 0, (12, 5, 16, 2, 4, 0)), (84, .iload_n 1, 1, 0, (0, 0, 0, 0, 0, 0)), (85, .iconst 0, 1, 0, (0, 0, 0, 0, 0, 0)), (86, .iastore, 1, 0, (13, 8, 0, 0, 0, 0)), (87, .aload_n 0, 1, 0, (0, 0, 0, 0, 0, 0)), (88, .getfield 26, 3, 0, (12, 6, 18, 2, 1, 0)), (91, .iload_n 1, 1, 0, (0, 0, 0, 0, 0, 0)), (92, .iconst 0, 1, 0, (0, 0, 0, 0, 0, 0)), (93, .bastore, 1, 0, (15, 8, 0, 0, 0, 0)), (94, .aload_n 0, 1, 0, (0, 0, 0, 0, 0, 0)), (95, .getfield 30, 3, 0, (12, 7, 16, 2, 5, 0)), (98, .iload_n 1, 1, 0, (0, 0, 0, 0, 0, 0)), (99, .iconst 0, 1, 0, (0, 0, 0, 0, 0, 0)), (100, .iastore, 1, 0, (13, 8, 0, 0, 0, 0)), (101, .iinc 1 1, 3, 0, (0, 0, 0, 0, 0, 1)), (104, .goto (-37), 3, 0, (0, 0, 0, 0, 0, 0)), (107, .iconst 0, 1, 0, (0, 0, 0, 0, 0, 0)), (108, .istore_n 1, 1, 0, (0, 0, 0, 0, 0, 0)), (109, .iload_n 1, 1, 5, (0, 0, 0, 0, 0, 0)), (110, .bipush 6, 2, 0, (0, 0, 0, 0, 0, 6)), (112, .if_icmp .ge 74, 3, 0, (0, 0, 0, 0, 0, 0)), (115, .aload_n 0, 1, 0, (0, 0, 0, 0, 0, 0)), (116, .getfield 33, 3, 0, (12, 8, 16, 2, 6, 0)), (119, .iload_n 1, 1, 0, (0, 0, 0, 0, 0, 0)), (120, .iconst 0, 1, 0, (0, 0, 0, 0, 0, 0)), (121, .iastore, 1, 0, (13, 6, 0, 0, 0, 0)), (122, .aload_n 0, 1, 0, (0, 0, 0, 0, 0, 0)), (123, .getfield 36, 3, 0, (12, 9, 16, 2, 7, 0)), (126, .iload_n 1, 1, 0, (0, 0, 0, 0, 0, 0)), (127, .iconst 0, 1, 0, (0, 0, 0, 0, 0, 0)), (128, .iastore, 1, 0, (13, 6, 0, 0, 0, 0)), (129, .aload_n 0, 1, 0, (0, 0, 0, 0, 0, 0)), (130, .getfield 39, 3, 0, (12, 10, 16, 2, 8, 0)), (133, .iload_n 1, 1, 0, (0, 0, 0, 0, 0, 0)), (134, .iconst 0, 1, 0, (0, 0, 0, 0, 0, 0)), (135, .iastore, 1, 0, (13, 6, 0, 0, 0, 0)), (136, .aload_n 0, 1, 0, (0, 0, 0, 0, 0, 0)), (137, .getfield 42, 3, 0, (12, 11, 16, 2, 9, 0)), (140, .iload_n 1, 1, 0, (0, 0, 0, 0, 0, 0)), (141, .iconst 0, 1, 0, (0, 0, 0, 0, 0, 0)), (142, .iastore, 1, 0, (13, 6, 0, 0, 0, 0)), (143, .aload_n 0, 1, 0, (0, 0, 0, 0, 0, 0)), (144, .getfield 45, 3, 0, (12, 12, 16, 2, 10, 0)), (147, .iload_n 1, 1, 0, (0, 0, 0, 0, 0, 0)), (148, .iload_n 1, 1, 0, (0, 0, 0, 0, 0, 0)), (149, .iconst 4, 1, 0, (0, 0, 0, 0, 0, 4)), (150, .if_icmp .ge 8, 3, 0, (0, 0, 0, 0, 0, 0)), (153, .bipush 100, 2, 0, (0, 0, 0, 0, 0, 100)), (155, .goto 4, 3, 0, (0, 0, 0, 0, 0, 0)), (158, .iconst 0, 1, 0, (0, 0, 0, 0, 0, 0)), (159, .iastore, 1, 0, (13, 6, 0, 0, 0, 0)), (160, .aload_n 0, 1, 0, (0, 0, 0, 0, 0, 0)), (161, .getfield 48, 3, 0, (12, 13, 16, 2, 11, 0)), (164, .iload_n 1, 1, 0, (0, 0, 0, 0, 0, 0)), (165, .aload_n 0, 1, 0, (0, 0, 0, 0, 0, 0)), (166, .getfield 45, 3, 0, (12, 12, 16, 2, 10, 0)), (169, .iload_n 1, 1, 0, (0, 0, 0, 0, 0, 0)), (170, .iaload, 1, 0, (13, 6, 0, 0, 0, 0)), (171, .iastore, 1, 0, (13, 6, 0, 0, 0, 0)), (172, .aload_n 0, 1, 0, (0, 0, 0, 0, 0, 0)), (173, .getfield 51, 3, 0, (12, 14, 16, 2, 12, 0)), (176, .iload_n 1, 1, 0, (0, 0, 0, 0, 0, 0)), (177, .ldc 184, 2, 0, (0, 0, 0, 0, 0, -100000)), (179, .iastore, 1, 0, (13, 6, 0, 0, 0, 0)), (180, .iinc 1 1, 3, 0, (0, 0, 0, 0, 0, 1)), (183, .goto (-74), 3, 0, (0, 0, 0, 0, 0, 0)), (186, .iconst 0, 1, 0, (0, 0, 0, 0, 0, 0)), (187, .istore_n 1, 1, 0, (0, 0, 0, 0, 0, 0)), (188, .iload_n 1, 1, 6, (0, 0, 0, 0, 0, 0)), (189, .bipush 44, 2, 0, (0, 0, 0, 0, 0, 44)), (191, .if_icmp .ge 16, 3, 0, (0, 0, 0, 0, 0, 0)), (194, .aload_n 0, 1, 0, (0, 0, 0, 0, 0, 0)), (195, .getfield 60, 3, 0, (12, 19, 18, 2, 3, 0)), (198, .iload_n 1, 1, 0, (0, 0, 0, 0, 0, 0)), (199, .iconst 0, 1, 0, (0, 0, 0, 0, 0, 0)), (200, .bastore, 1, 0, (15, 44, 0, 0, 0, 0)), (201, .iinc 1 1, 3, 0, (0, 0, 0, 0, 0, 1)), (204, .goto (-16), 3, 0, (0, 0, 0, 0, 0, 0)), (207, .iconst 0, 1, 0, (0, 0, 0, 0, 0, 0)), (208, .istore_n 1, 1, 0, (0, 0, 0, 0, 0, 0)), (209, .iload_n 1, 1, 7, (0, 0, 0, 0, 0, 0)), (210, .bipush 16, 2, 0, (0, 0, 0, 0, 0, 16)), (212, .if_icmp .ge 16, 3, 0, (0, 0, 0, 0, 0, 0)), (215, .aload_n 0, 1, 0, (0, 0, 0, 0, 0, 0)), (216, .getfield 141, 3, 0, (12, 49, 16, 2, 35, 0)), (219, .iload_n 1, 1, 0, (0, 0, 0, 0, 0, 0)), (220, .iconst 0, 1, 0, (0, 0, 0, 0, 0, 0)), (221, .iastore, 1, 0, (13, 16, 0, 0, 0, 0)), (222, .iinc 1 1, 3, 0, (0, 0, 0, 0, 0, 1)), (225, .goto (-16), 3, 0, (0, 0, 0, 0, 0, 0)), (228, .iconst 0, 1, 0, (0, 0, 0, 0, 0, 0)), (229, .istore_n 1, 1, 0, (0, 0, 0, 0, 0, 0)), (230, .iload_n 1, 1, 8, (0, 0, 0, 0, 0, 0)), (231, .iconst 4, 1, 0, (0, 0, 0, 0, 0, 4)), (232, .if_icmp .ge 46, 3, 0, (0, 0, 0, 0, 0, 0)), (235, .aload_n 0, 1, 0, (0, 0, 0, 0, 0, 0)), (236, .getfield 144, 3, 0, (12, 51, 16, 2, 36, 0)), (239, .iload_n 1, 1, 0, (0, 0, 0, 0, 0, 0)), (240, .iconst 0, 1, 0, (0, 0, 0, 0, 0, 0)), (241, .iastore, 1, 0, (13, 4, 0, 0, 0, 0)), (242, .aload_n 0, 1, 0, (0, 0, 0, 0, 0, 0)), (243, .getfield 147, 3, 0, (12, 52, 16, 2, 37, 0)), (246, .iload_n 1, 1, 0, (0, 0, 0, 0, 0, 0)), (247, .iconst 0, 1, 0, (0, 0, 0, 0, 0, 0)), (248, .iastore, 1, 0, (13, 4, 0, 0, 0, 0)), (249, .aload_n 0, 1, 0, (0, 0, 0, 0, 0, 0)), (250, .getfield 150, 3, 0, (12, 53, 16, 2, 38, 0)), (253, .iload_n 1, 1, 0, (0, 0, 0, 0, 0, 0)), (254, .sipush 200, 3, 0, (0, 0, 0, 0, 0, 200)), (257, .iastore, 1, 0, (13, 4, 0, 0, 0, 0)), (258, .aload_n 0, 1, 0, (0, 0, 0, 0, 0, 0)), (259, .getfield 153, 3, 0, (12, 54, 18, 2, 9, 0)), (262, .iload_n 1, 1, 0, (0, 0, 0, 0, 0, 0)), (263, .iconst 0, 1, 0, (0, 0, 0, 0, 0, 0)), (264, .bastore, 1, 0, (15, 4, 0, 0, 0, 0)), (265, .aload_n 0, 1, 0, (0, 0, 0, 0, 0, 0)), (266, .getfield 156, 3, 0, (12, 55, 18, 2, 10, 0)), (269, .iload_n 1, 1, 0, (0, 0, 0, 0, 0, 0)), (270, .iconst 0, 1, 0, (0, 0, 0, 0, 0, 0)), (271, .bastore, 1, 0, (15, 4, 0, 0, 0, 0)), (272, .iinc 1 1, 3, 0, (0, 0, 0, 0, 0, 1)), (275, .goto (-45), 3, 0, (0, 0, 0, 0, 0, 0)), (278, .aload_n 0, 1, 0, (0, 0, 0, 0, 0, 0)), (279, .iconst 0, 1, 0, (0, 0, 0, 0, 0, 0)), (280, .putfield 185, 3, 0, (12, 50, 0, 1, 0, 0)), (283, .aload_n 0, 1, 0, (0, 0, 0, 0, 0, 0)), (284, .iconst (-1), 1, 0, (0, 0, 0, 0, 0, -1)), (285, .putfield 188, 3, 0, (12, 57, 0, 1, 0, 0)), (288, .aload_n 0, 1, 0, (0, 0, 0, 0, 0, 0)), (289, .sipush 500, 3, 0, (0, 0, 0, 0, 0, 500)), (292, .putfield 191, 3, 0, (12, 58, 0, 1, 0, 0)), (295, .aload_n 0, 1, 0, (0, 0, 0, 0, 0, 0)), (296, .iconst 0, 1, 0, (0, 0, 0, 0, 0, 0)), (297, .putfield 194, 3, 0, (12, 17, 0, 1, 0, 0)), (300, .aload_n 0, 1, 0, (0, 0, 0, 0, 0, 0)), (301, .iconst 0, 1, 0, (0, 0, 0, 0, 0, 0)), (302, .putfield 197, 3, 0, (12, 18, 0, 1, 0, 0)), (305, .aload_n 0, 1, 0, (0, 0, 0, 0, 0, 0)), (306, .iconst 0, 1, 0, (0, 0, 0, 0, 0, 0)), (307, .putfield 200, 3, 0, (12, 39, 0, 1, 0, 0)), (310, .aload_n 0, 1, 0, (0, 0, 0, 0, 0, 0)), (311, .iconst 0, 1, 0, (0, 0, 0, 0, 0, 0)), (312, .putfield 203, 3, 0, (12, 40, 0, 1, 0, 0)), (315, .aload_n 0, 1, 0, (0, 0, 0, 0, 0, 0)), (316, .iconst 0, 1, 0, (0, 0, 0, 0, 0, 0)), (317, .putfield 206, 3, 0, (12, 48, 0, 1, 0, 0)), (320, .return_, 1, 0, (0, 0, 0, 0, 0, 0))]
set_option maxRecDepth 100000 in
theorem rk214 : R214.all (rok 2 214 0 []) = true := by decide +kernel
set_option maxRecDepth 100000 in
theorem tab214 : TabOK 2 214 0 [] R214 := tab_ok (K := K214) rfl rfl (fun h => d214 h) rk214 (by decide +kernel)
set_option maxRecDepth 100000 in
theorem pc214 : cutpc [2, 23, 44, 67, 109, 188, 209, 230] R214 = true := by decide +kernel
set_option maxRecDepth 100000 in
theorem r12_resets_230 (kv230 : PM → Int32 → PM) (kg230 : PM → Int32 → Prop) (hk230 : ∀ (p : PM) (v1 : Int32), Gr 2 p → kg230 p v1 → ZJ 2 214 230 [zR 12 1, zI v1] [] p (hwV (kv230 p v1))) : ∀ (p : PM) (v1 : Int32), Gr 2 p → bg12_resets_230 kg230 p v1 → ZJ 2 214 230 [zR 12 1, zI v1] [] p (hwV (bv12_resets_230 kv230 p v1)) := by
  intro p v1  hg H
  exact rwV (n := 3000) (q := 230) (la := [zR 12 1, zI v1]) (sa := []) (ks := [fun _ _ s => s, fun _ _ s => s, fun _ _ s => s, fun _ _ s => s, fun _ _ s => s, fun _ _ s => s, fun _ _ s => s, fun la sa s => kv230 s (ai la 1)]) (gs := [fun _ _ _ => False, fun _ _ _ => False, fun _ _ _ => False, fun _ _ _ => False, fun _ _ _ => False, fun _ _ _ => False, fun _ _ _ => False, fun la sa s => zsw (tc2 la [(112, 1), (0, 0)] && tc2 sa []) False (kg230 s (ai la 1))]) (fnil) tab214 pc214 ⟨fun _ _ _ _ H => H.elim, fun _ _ _ _ H => H.elim, fun _ _ _ _ H => H.elim, fun _ _ _ _ H => H.elim, fun _ _ _ _ H => H.elim, fun _ _ _ _ H => H.elim, fun _ _ _ _ H => H.elim, fun la sa s hg H => zcut H fun H => hk230 s (ai la 1) hg H, trivial⟩ hg H
theorem t12_resets_230 : ∀ (n : Nat), ∀ (p : PM) (v1 : Int32), Gr 2 p → g12_resets_230 n p v1 → ZJ 2 214 230 [zR 12 1, zI v1] [] p (hwV (v12_resets_230 n p v1)) := by
  intro n
  induction n with
  | zero =>
    intro p v1  hg H
    exact H.elim
  | succ n ih => exact r12_resets_230 (v12_resets_230 n) (g12_resets_230 n) ih
set_option maxRecDepth 100000 in
theorem r12_resets_209 (kv209 : PM → Int32 → PM) (kg209 : PM → Int32 → Prop) (hk209 : ∀ (p : PM) (v1 : Int32), Gr 2 p → kg209 p v1 → ZJ 2 214 209 [zR 12 1, zI v1] [] p (hwV (kv209 p v1))) (kv230 : PM → Int32 → PM) (kg230 : PM → Int32 → Prop) (hk230 : ∀ (p : PM) (v1 : Int32), Gr 2 p → kg230 p v1 → ZJ 2 214 230 [zR 12 1, zI v1] [] p (hwV (kv230 p v1))) : ∀ (p : PM) (v1 : Int32), Gr 2 p → bg12_resets_209 kg209 kg230 p v1 → ZJ 2 214 209 [zR 12 1, zI v1] [] p (hwV (bv12_resets_209 kv209 kv230 p v1)) := by
  intro p v1  hg H
  exact rwV (n := 3000) (q := 209) (la := [zR 12 1, zI v1]) (sa := []) (ks := [fun _ _ s => s, fun _ _ s => s, fun _ _ s => s, fun _ _ s => s, fun _ _ s => s, fun _ _ s => s, fun la sa s => kv209 s (ai la 1), fun la sa s => kv230 s (ai la 1)]) (gs := [fun _ _ _ => False, fun _ _ _ => False, fun _ _ _ => False, fun _ _ _ => False, fun _ _ _ => False, fun _ _ _ => False, fun la sa s => zsw (tc2 la [(112, 1), (0, 0)] && tc2 sa []) False (kg209 s (ai la 1)), fun la sa s => zsw (tc2 la [(112, 1), (0, 0)] && tc2 sa []) False (kg230 s (ai la 1))]) (fnil) tab214 pc214 ⟨fun _ _ _ _ H => H.elim, fun _ _ _ _ H => H.elim, fun _ _ _ _ H => H.elim, fun _ _ _ _ H => H.elim, fun _ _ _ _ H => H.elim, fun _ _ _ _ H => H.elim, fun la sa s hg H => zcut H fun H => hk209 s (ai la 1) hg H, fun la sa s hg H => zcut H fun H => hk230 s (ai la 1) hg H, trivial⟩ hg H
theorem t12_resets_209 : ∀ (n : Nat), ∀ (p : PM) (v1 : Int32), Gr 2 p → g12_resets_209 n p v1 → ZJ 2 214 209 [zR 12 1, zI v1] [] p (hwV (v12_resets_209 n p v1)) := by
  intro n
  induction n with
  | zero =>
    intro p v1  hg H
    exact H.elim
  | succ n ih => exact r12_resets_209 (v12_resets_209 n) (g12_resets_209 n) ih (v12_resets_230 FU) (g12_resets_230 FU) (t12_resets_230 FU)
set_option maxRecDepth 100000 in
theorem r12_resets_188 (kv188 : PM → Int32 → PM) (kg188 : PM → Int32 → Prop) (hk188 : ∀ (p : PM) (v1 : Int32), Gr 2 p → kg188 p v1 → ZJ 2 214 188 [zR 12 1, zI v1] [] p (hwV (kv188 p v1))) (kv209 : PM → Int32 → PM) (kg209 : PM → Int32 → Prop) (hk209 : ∀ (p : PM) (v1 : Int32), Gr 2 p → kg209 p v1 → ZJ 2 214 209 [zR 12 1, zI v1] [] p (hwV (kv209 p v1))) : ∀ (p : PM) (v1 : Int32), Gr 2 p → bg12_resets_188 kg188 kg209 p v1 → ZJ 2 214 188 [zR 12 1, zI v1] [] p (hwV (bv12_resets_188 kv188 kv209 p v1)) := by
  intro p v1  hg H
  exact rwV (n := 3000) (q := 188) (la := [zR 12 1, zI v1]) (sa := []) (ks := [fun _ _ s => s, fun _ _ s => s, fun _ _ s => s, fun _ _ s => s, fun _ _ s => s, fun la sa s => kv188 s (ai la 1), fun la sa s => kv209 s (ai la 1), fun _ _ s => s]) (gs := [fun _ _ _ => False, fun _ _ _ => False, fun _ _ _ => False, fun _ _ _ => False, fun _ _ _ => False, fun la sa s => zsw (tc2 la [(112, 1), (0, 0)] && tc2 sa []) False (kg188 s (ai la 1)), fun la sa s => zsw (tc2 la [(112, 1), (0, 0)] && tc2 sa []) False (kg209 s (ai la 1)), fun _ _ _ => False]) (fnil) tab214 pc214 ⟨fun _ _ _ _ H => H.elim, fun _ _ _ _ H => H.elim, fun _ _ _ _ H => H.elim, fun _ _ _ _ H => H.elim, fun _ _ _ _ H => H.elim, fun la sa s hg H => zcut H fun H => hk188 s (ai la 1) hg H, fun la sa s hg H => zcut H fun H => hk209 s (ai la 1) hg H, fun _ _ _ _ H => H.elim, trivial⟩ hg H
theorem t12_resets_188 : ∀ (n : Nat), ∀ (p : PM) (v1 : Int32), Gr 2 p → g12_resets_188 n p v1 → ZJ 2 214 188 [zR 12 1, zI v1] [] p (hwV (v12_resets_188 n p v1)) := by
  intro n
  induction n with
  | zero =>
    intro p v1  hg H
    exact H.elim
  | succ n ih => exact r12_resets_188 (v12_resets_188 n) (g12_resets_188 n) ih (v12_resets_209 FU) (g12_resets_209 FU) (t12_resets_209 FU)
set_option maxRecDepth 100000 in
theorem r12_resets_109 (kv109 : PM → Int32 → PM) (kg109 : PM → Int32 → Prop) (hk109 : ∀ (p : PM) (v1 : Int32), Gr 2 p → kg109 p v1 → ZJ 2 214 109 [zR 12 1, zI v1] [] p (hwV (kv109 p v1))) (kv188 : PM → Int32 → PM) (kg188 : PM → Int32 → Prop) (hk188 : ∀ (p : PM) (v1 : Int32), Gr 2 p → kg188 p v1 → ZJ 2 214 188 [zR 12 1, zI v1] [] p (hwV (kv188 p v1))) : ∀ (p : PM) (v1 : Int32), Gr 2 p → bg12_resets_109 kg109 kg188 p v1 → ZJ 2 214 109 [zR 12 1, zI v1] [] p (hwV (bv12_resets_109 kv109 kv188 p v1)) := by
  intro p v1  hg H
  exact rwV (n := 3000) (q := 109) (la := [zR 12 1, zI v1]) (sa := []) (ks := [fun _ _ s => s, fun _ _ s => s, fun _ _ s => s, fun _ _ s => s, fun la sa s => kv109 s (ai la 1), fun la sa s => kv188 s (ai la 1), fun _ _ s => s, fun _ _ s => s]) (gs := [fun _ _ _ => False, fun _ _ _ => False, fun _ _ _ => False, fun _ _ _ => False, fun la sa s => zsw (tc2 la [(112, 1), (0, 0)] && tc2 sa []) False (kg109 s (ai la 1)), fun la sa s => zsw (tc2 la [(112, 1), (0, 0)] && tc2 sa []) False (kg188 s (ai la 1)), fun _ _ _ => False, fun _ _ _ => False]) (fnil) tab214 pc214 ⟨fun _ _ _ _ H => H.elim, fun _ _ _ _ H => H.elim, fun _ _ _ _ H => H.elim, fun _ _ _ _ H => H.elim, fun la sa s hg H => zcut H fun H => hk109 s (ai la 1) hg H, fun la sa s hg H => zcut H fun H => hk188 s (ai la 1) hg H, fun _ _ _ _ H => H.elim, fun _ _ _ _ H => H.elim, trivial⟩ hg H
theorem t12_resets_109 : ∀ (n : Nat), ∀ (p : PM) (v1 : Int32), Gr 2 p → g12_resets_109 n p v1 → ZJ 2 214 109 [zR 12 1, zI v1] [] p (hwV (v12_resets_109 n p v1)) := by
  intro n
  induction n with
  | zero =>
    intro p v1  hg H
    exact H.elim
  | succ n ih => exact r12_resets_109 (v12_resets_109 n) (g12_resets_109 n) ih (v12_resets_188 FU) (g12_resets_188 FU) (t12_resets_188 FU)
set_option maxRecDepth 100000 in
theorem r12_resets_67 (kv67 : PM → Int32 → PM) (kg67 : PM → Int32 → Prop) (hk67 : ∀ (p : PM) (v1 : Int32), Gr 2 p → kg67 p v1 → ZJ 2 214 67 [zR 12 1, zI v1] [] p (hwV (kv67 p v1))) (kv109 : PM → Int32 → PM) (kg109 : PM → Int32 → Prop) (hk109 : ∀ (p : PM) (v1 : Int32), Gr 2 p → kg109 p v1 → ZJ 2 214 109 [zR 12 1, zI v1] [] p (hwV (kv109 p v1))) : ∀ (p : PM) (v1 : Int32), Gr 2 p → bg12_resets_67 kg67 kg109 p v1 → ZJ 2 214 67 [zR 12 1, zI v1] [] p (hwV (bv12_resets_67 kv67 kv109 p v1)) := by
  intro p v1  hg H
  exact rwV (n := 3000) (q := 67) (la := [zR 12 1, zI v1]) (sa := []) (ks := [fun _ _ s => s, fun _ _ s => s, fun _ _ s => s, fun la sa s => kv67 s (ai la 1), fun la sa s => kv109 s (ai la 1), fun _ _ s => s, fun _ _ s => s, fun _ _ s => s]) (gs := [fun _ _ _ => False, fun _ _ _ => False, fun _ _ _ => False, fun la sa s => zsw (tc2 la [(112, 1), (0, 0)] && tc2 sa []) False (kg67 s (ai la 1)), fun la sa s => zsw (tc2 la [(112, 1), (0, 0)] && tc2 sa []) False (kg109 s (ai la 1)), fun _ _ _ => False, fun _ _ _ => False, fun _ _ _ => False]) (fnil) tab214 pc214 ⟨fun _ _ _ _ H => H.elim, fun _ _ _ _ H => H.elim, fun _ _ _ _ H => H.elim, fun la sa s hg H => zcut H fun H => hk67 s (ai la 1) hg H, fun la sa s hg H => zcut H fun H => hk109 s (ai la 1) hg H, fun _ _ _ _ H => H.elim, fun _ _ _ _ H => H.elim, fun _ _ _ _ H => H.elim, trivial⟩ hg H
theorem t12_resets_67 : ∀ (n : Nat), ∀ (p : PM) (v1 : Int32), Gr 2 p → g12_resets_67 n p v1 → ZJ 2 214 67 [zR 12 1, zI v1] [] p (hwV (v12_resets_67 n p v1)) := by
  intro n
  induction n with
  | zero =>
    intro p v1  hg H
    exact H.elim
  | succ n ih => exact r12_resets_67 (v12_resets_67 n) (g12_resets_67 n) ih (v12_resets_109 FU) (g12_resets_109 FU) (t12_resets_109 FU)
set_option maxRecDepth 100000 in
theorem r12_resets_44 (kv44 : PM → Int32 → PM) (kg44 : PM → Int32 → Prop) (hk44 : ∀ (p : PM) (v1 : Int32), Gr 2 p → kg44 p v1 → ZJ 2 214 44 [zR 12 1, zI v1] [] p (hwV (kv44 p v1))) (kv67 : PM → Int32 → PM) (kg67 : PM → Int32 → Prop) (hk67 : ∀ (p : PM) (v1 : Int32), Gr 2 p → kg67 p v1 → ZJ 2 214 67 [zR 12 1, zI v1] [] p (hwV (kv67 p v1))) : ∀ (p : PM) (v1 : Int32), Gr 2 p → bg12_resets_44 kg44 kg67 p v1 → ZJ 2 214 44 [zR 12 1, zI v1] [] p (hwV (bv12_resets_44 kv44 kv67 p v1)) := by
  intro p v1  hg H
  exact rwV (n := 3000) (q := 44) (la := [zR 12 1, zI v1]) (sa := []) (ks := [fun _ _ s => s, fun _ _ s => s, fun la sa s => kv44 s (ai la 1), fun la sa s => kv67 s (ai la 1), fun _ _ s => s, fun _ _ s => s, fun _ _ s => s, fun _ _ s => s]) (gs := [fun _ _ _ => False, fun _ _ _ => False, fun la sa s => zsw (tc2 la [(112, 1), (0, 0)] && tc2 sa []) False (kg44 s (ai la 1)), fun la sa s => zsw (tc2 la [(112, 1), (0, 0)] && tc2 sa []) False (kg67 s (ai la 1)), fun _ _ _ => False, fun _ _ _ => False, fun _ _ _ => False, fun _ _ _ => False]) (fnil) tab214 pc214 ⟨fun _ _ _ _ H => H.elim, fun _ _ _ _ H => H.elim, fun la sa s hg H => zcut H fun H => hk44 s (ai la 1) hg H, fun la sa s hg H => zcut H fun H => hk67 s (ai la 1) hg H, fun _ _ _ _ H => H.elim, fun _ _ _ _ H => H.elim, fun _ _ _ _ H => H.elim, fun _ _ _ _ H => H.elim, trivial⟩ hg H
theorem t12_resets_44 : ∀ (n : Nat), ∀ (p : PM) (v1 : Int32), Gr 2 p → g12_resets_44 n p v1 → ZJ 2 214 44 [zR 12 1, zI v1] [] p (hwV (v12_resets_44 n p v1)) := by
  intro n
  induction n with
  | zero =>
    intro p v1  hg H
    exact H.elim
  | succ n ih => exact r12_resets_44 (v12_resets_44 n) (g12_resets_44 n) ih (v12_resets_67 FU) (g12_resets_67 FU) (t12_resets_67 FU)
set_option maxRecDepth 100000 in
theorem r12_resets_23 (kv23 : PM → Int32 → PM) (kg23 : PM → Int32 → Prop) (hk23 : ∀ (p : PM) (v1 : Int32), Gr 2 p → kg23 p v1 → ZJ 2 214 23 [zR 12 1, zI v1] [] p (hwV (kv23 p v1))) (kv44 : PM → Int32 → PM) (kg44 : PM → Int32 → Prop) (hk44 : ∀ (p : PM) (v1 : Int32), Gr 2 p → kg44 p v1 → ZJ 2 214 44 [zR 12 1, zI v1] [] p (hwV (kv44 p v1))) : ∀ (p : PM) (v1 : Int32), Gr 2 p → bg12_resets_23 kg23 kg44 p v1 → ZJ 2 214 23 [zR 12 1, zI v1] [] p (hwV (bv12_resets_23 kv23 kv44 p v1)) := by
  intro p v1  hg H
  exact rwV (n := 3000) (q := 23) (la := [zR 12 1, zI v1]) (sa := []) (ks := [fun _ _ s => s, fun la sa s => kv23 s (ai la 1), fun la sa s => kv44 s (ai la 1), fun _ _ s => s, fun _ _ s => s, fun _ _ s => s, fun _ _ s => s, fun _ _ s => s]) (gs := [fun _ _ _ => False, fun la sa s => zsw (tc2 la [(112, 1), (0, 0)] && tc2 sa []) False (kg23 s (ai la 1)), fun la sa s => zsw (tc2 la [(112, 1), (0, 0)] && tc2 sa []) False (kg44 s (ai la 1)), fun _ _ _ => False, fun _ _ _ => False, fun _ _ _ => False, fun _ _ _ => False, fun _ _ _ => False]) (fnil) tab214 pc214 ⟨fun _ _ _ _ H => H.elim, fun la sa s hg H => zcut H fun H => hk23 s (ai la 1) hg H, fun la sa s hg H => zcut H fun H => hk44 s (ai la 1) hg H, fun _ _ _ _ H => H.elim, fun _ _ _ _ H => H.elim, fun _ _ _ _ H => H.elim, fun _ _ _ _ H => H.elim, fun _ _ _ _ H => H.elim, trivial⟩ hg H
theorem t12_resets_23 : ∀ (n : Nat), ∀ (p : PM) (v1 : Int32), Gr 2 p → g12_resets_23 n p v1 → ZJ 2 214 23 [zR 12 1, zI v1] [] p (hwV (v12_resets_23 n p v1)) := by
  intro n
  induction n with
  | zero =>
    intro p v1  hg H
    exact H.elim
  | succ n ih => exact r12_resets_23 (v12_resets_23 n) (g12_resets_23 n) ih (v12_resets_44 FU) (g12_resets_44 FU) (t12_resets_44 FU)
set_option maxRecDepth 100000 in
theorem r12_resets_2 (kv2 : PM → Int32 → PM) (kg2 : PM → Int32 → Prop) (hk2 : ∀ (p : PM) (v1 : Int32), Gr 2 p → kg2 p v1 → ZJ 2 214 2 [zR 12 1, zI v1] [] p (hwV (kv2 p v1))) (kv23 : PM → Int32 → PM) (kg23 : PM → Int32 → Prop) (hk23 : ∀ (p : PM) (v1 : Int32), Gr 2 p → kg23 p v1 → ZJ 2 214 23 [zR 12 1, zI v1] [] p (hwV (kv23 p v1))) : ∀ (p : PM) (v1 : Int32), Gr 2 p → bg12_resets_2 kg2 kg23 p v1 → ZJ 2 214 2 [zR 12 1, zI v1] [] p (hwV (bv12_resets_2 kv2 kv23 p v1)) := by
  intro p v1  hg H
  exact rwV (n := 3000) (q := 2) (la := [zR 12 1, zI v1]) (sa := []) (ks := [fun la sa s => kv2 s (ai la 1), fun la sa s => kv23 s (ai la 1), fun _ _ s => s, fun _ _ s => s, fun _ _ s => s, fun _ _ s => s, fun _ _ s => s, fun _ _ s => s]) (gs := [fun la sa s => zsw (tc2 la [(112, 1), (0, 0)] && tc2 sa []) False (kg2 s (ai la 1)), fun la sa s => zsw (tc2 la [(112, 1), (0, 0)] && tc2 sa []) False (kg23 s (ai la 1)), fun _ _ _ => False, fun _ _ _ => False, fun _ _ _ => False, fun _ _ _ => False, fun _ _ _ => False, fun _ _ _ => False]) (fnil) tab214 pc214 ⟨fun la sa s hg H => zcut H fun H => hk2 s (ai la 1) hg H, fun la sa s hg H => zcut H fun H => hk23 s (ai la 1) hg H, fun _ _ _ _ H => H.elim, fun _ _ _ _ H => H.elim, fun _ _ _ _ H => H.elim, fun _ _ _ _ H => H.elim, fun _ _ _ _ H => H.elim, fun _ _ _ _ H => H.elim, trivial⟩ hg H
theorem t12_resets_2 : ∀ (n : Nat), ∀ (p : PM) (v1 : Int32), Gr 2 p → g12_resets_2 n p v1 → ZJ 2 214 2 [zR 12 1, zI v1] [] p (hwV (v12_resets_2 n p v1)) := by
  intro n
  induction n with
  | zero =>
    intro p v1  hg H
    exact H.elim
  | succ n ih => exact r12_resets_2 (v12_resets_2 n) (g12_resets_2 n) ih (v12_resets_23 FU) (g12_resets_23 FU) (t12_resets_23 FU)
set_option maxRecDepth 100000 in
theorem r12_resets (kv2 : PM → Int32 → PM) (kg2 : PM → Int32 → Prop) (hk2 : ∀ (p : PM) (v1 : Int32), Gr 2 p → kg2 p v1 → ZJ 2 214 2 [zR 12 1, zI v1] [] p (hwV (kv2 p v1))) : ∀ (p : PM), Gr 2 p → bg12_resets kg2 p → ZJ 2 214 0 [zR 12 1, zJ] [] p (hwV (bv12_resets kv2 p)) := by
  intro p   hg H
  exact rwV (n := 3000) (q := 0) (la := [zR 12 1, zJ]) (sa := []) (ks := [fun la sa s => kv2 s (ai la 1), fun _ _ s => s, fun _ _ s => s, fun _ _ s => s, fun _ _ s => s, fun _ _ s => s, fun _ _ s => s, fun _ _ s => s]) (gs := [fun la sa s => zsw (tc2 la [(112, 1), (0, 0)] && tc2 sa []) False (kg2 s (ai la 1)), fun _ _ _ => False, fun _ _ _ => False, fun _ _ _ => False, fun _ _ _ => False, fun _ _ _ => False, fun _ _ _ => False, fun _ _ _ => False]) (fnil) tab214 pc214 ⟨fun la sa s hg H => zcut H fun H => hk2 s (ai la 1) hg H, fun _ _ _ _ H => H.elim, fun _ _ _ _ H => H.elim, fun _ _ _ _ H => H.elim, fun _ _ _ _ H => H.elim, fun _ _ _ _ H => H.elim, fun _ _ _ _ H => H.elim, fun _ _ _ _ H => H.elim, trivial⟩ hg H
theorem t12_resets : ∀ (p : PM), Gr 2 p → g12_resets p → ZJ 2 214 0 [zR 12 1, zJ] [] p (hwV (v12_resets p)) := r12_resets (v12_resets_2 FU) (g12_resets_2 FU) (t12_resets_2 FU)
def CC214 (F : PM → PM) (G : PM → Prop) : Cal := (214, [15], 0, false, fun as p => (zJ, (F p )), fun as p => zsw (tc2 as [(112, 1)]) False (G p ))
set_option maxRecDepth 100000 in
theorem okr214 (F : PM → PM) (G : PM → Prop) (h : ∀ (p : PM), Gr 2 p → G p  → ZJ 2 214 0 [zR 12 1, zJ] [] p (hwV (F p ))) : CalOK 2 (CC214 F G) := cal_ok (m := 2) (by unfold mL; rw [mX_214]) (fun as p hg H => h p  hg H)
theorem ok214 : CalOK 2 (CC214 v12_resets g12_resets) := okr214 v12_resets g12_resets t12_resets
