/-! methods as functions over one part, by program (wip/whole/lift.py) -/
noncomputable def bv12_average_29 (p : PM) (F217 : PM → Int64 → Int64 → Int64) (F234 : PM → Int32 → Int32) (kv29 : Int32 → Int32 → Int32 → Int64 → Int64 → Int32 → Int32) (v1 : Int32) (v2 : Int32) (v3 : Int32) (v4 : Int64) (v6 : Int64) (v8 : Int32) : Int32 :=
  if v8 < (p.1 12 1 48) then (
    if (F234 p v8) = 0 then (
      kv29 v1 v2 v3 v4 v6 (v8 + (cn 1)))
    else (
      if (p.1 15 7 ((irm v8 (cn 60))).toNatClampNeg) = 0 then (
        if (p.1 13 30 ((irm v8 (cn 60))).toNatClampNeg) = v2 then (
          if v3 = 0 then (
            if (p.1 13 32 ((irm v8 (cn 60))).toNatClampNeg) = v1 then (
              let x1 : Int64 := (v4 + (((p.1 13 33 ((irm v8 (cn 60))).toNatClampNeg)).toInt64 * ((p.1 13 34 ((irm v8 (cn 60))).toNatClampNeg)).toInt64))
              let x2 : Int64 := (v6 + ((p.1 13 34 ((irm v8 (cn 60))).toNatClampNeg)).toInt64)
              kv29 v1 v2 v3 x1 x2 (v8 + (cn 1)))
            else (
              kv29 v1 v2 v3 v4 v6 (v8 + (cn 1))))
          else (
            if (p.1 13 31 ((irm v8 (cn 60))).toNatClampNeg) = v1 then (
              let x3 : Int64 := (v4 + (((p.1 13 33 ((irm v8 (cn 60))).toNatClampNeg)).toInt64 * ((p.1 13 34 ((irm v8 (cn 60))).toNatClampNeg)).toInt64))
              let x4 : Int64 := (v6 + ((p.1 13 34 ((irm v8 (cn 60))).toNatClampNeg)).toInt64)
              kv29 v1 v2 v3 x3 x4 (v8 + (cn 1)))
            else (
              kv29 v1 v2 v3 v4 v6 (v8 + (cn 1)))))
        else (
          kv29 v1 v2 v3 v4 v6 (v8 + (cn 1))))
      else (
        kv29 v1 v2 v3 v4 v6 (v8 + (cn 1)))))
  else (
    if (lg_cmp v6 (cl 0)) = 0 then (
      (cn (-100000)))
    else (
      ((F217 p v4 v6)).toInt32))
noncomputable def v12_average_29 (p : PM) (n : Nat) : Int32 → Int32 → Int32 → Int64 → Int64 → Int32 → Int32 := Nat.rec (motive := fun _ => Int32 → Int32 → Int32 → Int64 → Int64 → Int32 → Int32) (fun _ _ _ _ _ _ => 0) (fun _ ih => bv12_average_29 p v12_floor v12_isKept ih) n
theorem ev12_average_29 (p : PM) (n : Nat) (v1 : Int32) (v2 : Int32) (v3 : Int32) (v4 : Int64) (v6 : Int64) (v8 : Int32) : v12_average_29 p (n + 1) v1 v2 v3 v4 v6 v8 = bv12_average_29 p v12_floor v12_isKept (v12_average_29 p n) v1 v2 v3 v4 v6 v8 := rfl
noncomputable def bg12_average_29 (p : PM) (F217 : PM → Int64 → Int64 → Int64) (G217 : PM → Int64 → Int64 → Prop) (F234 : PM → Int32 → Int32) (G234 : PM → Int32 → Prop) (kg29 : Int32 → Int32 → Int32 → Int64 → Int64 → Int32 → Prop) (v1 : Int32) (v2 : Int32) (v3 : Int32) (v4 : Int64) (v6 : Int64) (v8 : Int32) : Prop :=
  if v8 < (p.1 12 1 48) then (
    (G234 p v8) ∧ (
    if (F234 p v8) = 0 then (
      kg29 v1 v2 v3 v4 v6 (v8 + (cn 1)))
    else (
      (inb (irm v8 (cn 60)) 60) ∧ (
      if (p.1 15 7 ((irm v8 (cn 60))).toNatClampNeg) = 0 then (
        (inb (irm v8 (cn 60)) 60) ∧ (
        if (p.1 13 30 ((irm v8 (cn 60))).toNatClampNeg) = v2 then (
          if v3 = 0 then (
            (inb (irm v8 (cn 60)) 60) ∧ (
            if (p.1 13 32 ((irm v8 (cn 60))).toNatClampNeg) = v1 then (
              (inb (irm v8 (cn 60)) 60) ∧ (
              (inb (irm v8 (cn 60)) 60) ∧ (
              let x1 : Int64 := (v4 + (((p.1 13 33 ((irm v8 (cn 60))).toNatClampNeg)).toInt64 * ((p.1 13 34 ((irm v8 (cn 60))).toNatClampNeg)).toInt64))
              (inb (irm v8 (cn 60)) 60) ∧ (
              let x2 : Int64 := (v6 + ((p.1 13 34 ((irm v8 (cn 60))).toNatClampNeg)).toInt64)
              kg29 v1 v2 v3 x1 x2 (v8 + (cn 1))))))
            else (
              kg29 v1 v2 v3 v4 v6 (v8 + (cn 1)))))
          else (
            (inb (irm v8 (cn 60)) 60) ∧ (
            if (p.1 13 31 ((irm v8 (cn 60))).toNatClampNeg) = v1 then (
              (inb (irm v8 (cn 60)) 60) ∧ (
              (inb (irm v8 (cn 60)) 60) ∧ (
              let x3 : Int64 := (v4 + (((p.1 13 33 ((irm v8 (cn 60))).toNatClampNeg)).toInt64 * ((p.1 13 34 ((irm v8 (cn 60))).toNatClampNeg)).toInt64))
              (inb (irm v8 (cn 60)) 60) ∧ (
              let x4 : Int64 := (v6 + ((p.1 13 34 ((irm v8 (cn 60))).toNatClampNeg)).toInt64)
              kg29 v1 v2 v3 x3 x4 (v8 + (cn 1))))))
            else (
              kg29 v1 v2 v3 v4 v6 (v8 + (cn 1))))))
        else (
          kg29 v1 v2 v3 v4 v6 (v8 + (cn 1)))))
      else (
        kg29 v1 v2 v3 v4 v6 (v8 + (cn 1)))))))
  else (
    if (lg_cmp v6 (cl 0)) = 0 then (
      True)
    else (
      (G217 p v4 v6) ∧ (
      True)))
noncomputable def g12_average_29 (p : PM) (n : Nat) : Int32 → Int32 → Int32 → Int64 → Int64 → Int32 → Prop := Nat.rec (motive := fun _ => Int32 → Int32 → Int32 → Int64 → Int64 → Int32 → Prop) (fun _ _ _ _ _ _ => False) (fun _ ih => bg12_average_29 p v12_floor g12_floor v12_isKept g12_isKept ih) n
theorem eg12_average_29 (p : PM) (n : Nat) (v1 : Int32) (v2 : Int32) (v3 : Int32) (v4 : Int64) (v6 : Int64) (v8 : Int32) : g12_average_29 p (n + 1) v1 v2 v3 v4 v6 v8 = bg12_average_29 p v12_floor g12_floor v12_isKept g12_isKept (g12_average_29 p n) v1 v2 v3 v4 v6 v8 := rfl
noncomputable def bv12_average (p : PM) (kv29 : Int32 → Int32 → Int32 → Int64 → Int64 → Int32 → Int32) (v1 : Int32) (v2 : Int32) (v3 : Int32) : Int32 :=
  if ((p.1 12 1 48) - (cn 60)) < 0 then (
    kv29 v1 v2 v3 (cl 0) (cl 0) (cn 0))
  else (
    let x1 : Int32 := ((p.1 12 1 48) - (cn 60))
    kv29 v1 v2 v3 (cl 0) (cl 0) x1)
noncomputable def v12_average (p : PM) (v1 : Int32) (v2 : Int32) (v3 : Int32) : Int32 := bv12_average p (v12_average_29 p FU) v1 v2 v3
noncomputable def bg12_average (p : PM) (kg29 : Int32 → Int32 → Int32 → Int64 → Int64 → Int32 → Prop) (v1 : Int32) (v2 : Int32) (v3 : Int32) : Prop :=
  if ((p.1 12 1 48) - (cn 60)) < 0 then (
    kg29 v1 v2 v3 (cl 0) (cl 0) (cn 0))
  else (
    let x1 : Int32 := ((p.1 12 1 48) - (cn 60))
    kg29 v1 v2 v3 (cl 0) (cl 0) x1)
noncomputable def g12_average (p : PM) (v1 : Int32) (v2 : Int32) (v3 : Int32) : Prop := bg12_average p (g12_average_29 p FU) v1 v2 v3
def R300 : List Row := [(0, .lconst 0, 1, 0, (0, 0, 0, 0, 0, 0)), (1, .lstore 4, 2, 0, (0, 0, 0, 0, 0, 0)), (3, .lconst 0, 1, 0, (0, 0, 0, 0, 0, 0)), (4, .lstore 6, 2, 0, (0, 0, 0, 0, 0, 0)), (6, .aload_n 0, 1, 0, (0, 0, 0, 0, 0, 0)), (7, .getfield 206, 3, 0, (12, 48, 0, 1, 0, 0)), (10, .bipush 60, 2, 0, (0, 0, 0, 0, 0, 60)), (12, .isub, 1, 0, (0, 0, 0, 0, 0, 0)), (13, .ifCond .ge 7, 3, 0, (0, 0, 0, 0, 0, 0)), (16, .iconst 0, 1, 0, (0, 0, 0, 0, 0, 0)), (17, .goto 10, 3, 0, (0, 0, 0, 0, 0, 0)), (20, .aload_n 0, 1, 0, (0, 0, 0, 0, 0, 0)), (21, .getfield 206, 3, 0, (12, 48, 0, 1, 0, 0)), (24, .bipush 60, 2, 0, (0, 0, 0, 0, 0, 60)), (26, .isub, 1, 0, (0, 0, 0, 0, 0, 0)), (27, .istore 8, 2, 0, (0, 0, 0, 0, 0, 0)), (29, .iload 8, 2, 1, (0, 0, 0, 0, 0, 0)), (31, .aload_n 0, 1, 0, (0, 0, 0, 0, 0, 0)), (32, .getfield 206, 3, 0, (12, 48, 0, 1, 0, 0)), (35, .if_icmp .ge 106, 3, 0, (0, 0, 0, 0, 0, 0)), (38, .iload 8, 2, 0, (0, 0, 0, 0, 0, 0)), (40, .bipush 60, 2, 0, (0, 0, 0, 0, 0, 60)), (42, .irem, 1, 0, (0, 0, 0, 0, 0, 0)), (43, .istore 9, 2, 0, (0, 0, 0, 0, 0, 0)), (45, .aload_n 0, 1, 0, (0, 0, 0, 0, 0, 0)), (46, .iload 8, 2, 0, (0, 0, 0, 0, 0, 0)), (48, .invokevirtual 240, 3, 0, (1, 2, 0, 0, 1, 0)), (51, .ifCond .eq 84, 3, 0, (0, 0, 0, 0, 0, 0)), (54, .aload_n 0, 1, 0, (0, 0, 0, 0, 0, 0)), (55, .getfield 135, 3, 0, (12, 46, 18, 2, 7, 0)), (58, .iload 9, 2, 0, (0, 0, 0, 0, 0, 0)), (60, .baload, 1, 0, (15, 60, 0, 0, 0, 0)), (61, .ifCond .ne 74, 3, 0, (0, 0, 0, 0, 0, 0)), (64, .aload_n 0, 1, 0, (0, 0, 0, 0, 0, 0)), (65, .getfield 120, 3, 0, (12, 41, 16, 2, 30, 0)), (68, .iload 9, 2, 0, (0, 0, 0, 0, 0, 0)), (70, .iaload, 1, 0, (13, 60, 0, 0, 0, 0)), (71, .iload_n 2, 1, 0, (0, 0, 0, 0, 0, 0)), (72, .if_icmp .ne 63, 3, 0, (0, 0, 0, 0, 0, 0)), (75, .iload_n 3, 1, 0, (0, 0, 0, 0, 0, 0)), (76, .ifCond .eq 13, 3, 0, (0, 0, 0, 0, 0, 0)), (79, .aload_n 0, 1, 0, (0, 0, 0, 0, 0, 0)), (80, .getfield 123, 3, 0, (12, 42, 16, 2, 31, 0)), (83, .iload 9, 2, 0, (0, 0, 0, 0, 0, 0)), (85, .iaload, 1, 0, (13, 60, 0, 0, 0, 0)), (86, .goto 10, 3, 0, (0, 0, 0, 0, 0, 0)), (89, .aload_n 0, 1, 0, (0, 0, 0, 0, 0, 0)), (90, .getfield 126, 3, 0, (12, 43, 16, 2, 32, 0)), (93, .iload 9, 2, 0, (0, 0, 0, 0, 0, 0)), (95, .iaload, 1, 0, (13, 60, 0, 0, 0, 0)), (96, .iload_n 1, 1, 0, (0, 0, 0, 0, 0, 0)), (97, .if_icmp .ne 38, 3, 0, (0, 0, 0, 0, 0, 0)), (100, .lload 4, 2, 0, (0, 0, 0, 0, 0, 0)), (102, .aload_n 0, 1, 0, (0, 0, 0, 0, 0, 0)), (103, .getfield 129, 3, 0, (12, 44, 16, 2, 33, 0)), (106, .iload 9, 2, 0, (0, 0, 0, 0, 0, 0)), (108, .iaload, 1, 0, (13, 60, 0, 0, 0, 0)), (109, .i2l, 1, 0, (0, 0, 0, 0, 0, 0)), (110, .aload_n 0, 1, 0, (0, 0, 0, 0, 0, 0)), (111, .getfield 132, 3, 0, (12, 45, 16, 2, 34, 0)), (114, .iload 9, 2, 0, (0, 0, 0, 0, 0, 0)), (116, .iaload, 1, 0, (13, 60, 0, 0, 0, 0)), (117, .i2l, 1, 0, (0, 0, 0, 0, 0, 0)), (118, .lmul, 1, 0, (0, 0, 0, 0, 0, 0)), (119, .ladd, 1, 0, (0, 0, 0, 0, 0, 0)), (120, .lstore 4, 2, 0, (0, 0, 0, 0, 0, 0)), (122, .lload 6, 2, 0, (0, 0, 0, 0, 0, 0)), (124, .aload_n 0, 1, 0, (0, 0, 0, 0, 0, 0)), (125, .getfield 132, 3, 0, (12, 45, 16, 2, 34, 0)), (128, .iload 9, 2, 0, (0, 0, 0, 0, 0, 0)), (130, .iaload, 1, 0, (13, 60, 0, 0, 0, 0)), (131, .i2l, 1, 0, (0, 0, 0, 0, 0, 0)), (132, .ladd, 1, 0, (0, 0, 0, 0, 0, 0)), (133, .lstore 6, 2, 0, (0, 0, 0, 0, 0, 0)), (135, .iinc 8 1, 3, 0, (0, 0, 0, 0, 0, 1)), (138, .goto (-109), 3, 0, (0, 0, 0, 0, 0, 0)), (141, .lload 6, 2, 0, (0, 0, 0, 0, 0, 0)), (143, .lconst 0, 1, 0, (0, 0, 0, 0, 0, 0)), (144, .lcmp, 1, 0, (0, 0, 0, 0, 0, 0)), (145, .ifCond .ne 8, 3, 0, (0, 0, 0, 0, 0, 0)), (148, .ldc 184, 2, 0, (0, 0, 0, 0, 0, -100000)), (150, .goto 11, 3, 0, (0, 0, 0, 0, 0, 0)), (153, .lload 4, 2, 0, (0, 0, 0, 0, 0, 0)), (155, .lload 6, 2, 0, (0, 0, 0, 0, 0, 0)), (157, .invokestatic 419, 3, 0, (0, 2, 0, 0, 0, 0)), (160, .l2i, 1, 0, (0, 0, 0, 0, 0, 0)), (161, .ireturn, 1, 0, (0, 0, 0, 0, 0, 0))]
set_option maxRecDepth 100000 in
theorem rk300 : R300.all (rok 2 300 1 [(217, [1, 1]), (234, [15, 0])]) = true := by decide +kernel
set_option maxRecDepth 100000 in
theorem tab300 {F217 : PM → Int64 → Int64 → Int64} {G217 : PM → Int64 → Int64 → Prop} {F234 : PM → Int32 → Int32} {G234 : PM → Int32 → Prop} : TabOK 2 300 1 [CC217 F217 G217, CC234 F234 G234] R300 := tab_ok (K := K300) rfl rfl (fun h => d300 h) rk300 (by decide +kernel)
set_option maxRecDepth 100000 in
theorem pc300 : cutpc [29] R300 = true := by decide +kernel
set_option maxRecDepth 100000 in
theorem r12_average_29 (p : PM) (hg : Gr 2 p) (F217 : PM → Int64 → Int64 → Int64) (G217 : PM → Int64 → Int64 → Prop) (o217 : CalOK 2 (CC217 F217 G217)) (F234 : PM → Int32 → Int32) (G234 : PM → Int32 → Prop) (o234 : CalOK 2 (CC234 F234 G234)) (kv29 : Int32 → Int32 → Int32 → Int64 → Int64 → Int32 → Int32) (kg29 : Int32 → Int32 → Int32 → Int64 → Int64 → Int32 → Prop) (hk29 : ∀ (v1 : Int32) (v2 : Int32) (v3 : Int32) (v4 : Int64) (v6 : Int64) (v8 : Int32) (d5 d7 d9 : ZV), kg29 v1 v2 v3 v4 v6 v8 → ZJ 2 300 29 [zR 12 1, zI v1, zI v2, zI v3, zL v4, d5, zL v6, d7, zI v8, d9] [] p (hoI p (kv29 v1 v2 v3 v4 v6 v8))) : ∀ (v1 : Int32) (v2 : Int32) (v3 : Int32) (v4 : Int64) (v6 : Int64) (v8 : Int32) (d5 d7 d9 : ZV), bg12_average_29 p F217 G217 F234 G234 kg29 v1 v2 v3 v4 v6 v8 → ZJ 2 300 29 [zR 12 1, zI v1, zI v2, zI v3, zL v4, d5, zL v6, d7, zI v8, d9] [] p (hoI p (bv12_average_29 p F217 F234 kv29 v1 v2 v3 v4 v6 v8)) := by
  intro v1 v2 v3 v4 v6 v8 d5 d7 d9 H
  exact roI (n := 3000) (q := 29) (la := [zR 12 1, zI v1, zI v2, zI v3, zL v4, d5, zL v6, d7, zI v8, d9]) (sa := []) (ks := [fun la sa _ => kv29 (ai la 1) (ai la 2) (ai la 3) (al la 4) (al la 6) (ai la 8)]) (gs := [fun la sa _ => zsw (tc2 la [(112, 1), (0, 0), (0, 0), (0, 0), (1, 0), (2, 0), (1, 0), (2, 0), (0, 0), (2, 0)] && tc2 sa []) False (kg29 (ai la 1) (ai la 2) (ai la 3) (al la 4) (al la 6) (ai la 8))]) (fcons o217 (fcons o234 (fnil))) tab300 pc300 ⟨fun la sa s hg H => zcut H fun H => hk29 (ai la 1) (ai la 2) (ai la 3) (al la 4) (al la 6) (ai la 8) (zld la 5) (zld la 7) (zld la 9) H, trivial⟩ hg H
theorem t12_average_29 (p : PM) (hg : Gr 2 p) : ∀ (n : Nat), ∀ (v1 : Int32) (v2 : Int32) (v3 : Int32) (v4 : Int64) (v6 : Int64) (v8 : Int32) (d5 d7 d9 : ZV), g12_average_29 p n v1 v2 v3 v4 v6 v8 → ZJ 2 300 29 [zR 12 1, zI v1, zI v2, zI v3, zL v4, d5, zL v6, d7, zI v8, d9] [] p (hoI p (v12_average_29 p n v1 v2 v3 v4 v6 v8)) := by
  intro n
  induction n with
  | zero =>
    intro v1 v2 v3 v4 v6 v8 d5 d7 d9 H
    exact H.elim
  | succ n ih => exact r12_average_29 p hg v12_floor g12_floor ok217 v12_isKept g12_isKept ok234 (v12_average_29 p n) (g12_average_29 p n) ih
set_option maxRecDepth 100000 in
theorem r12_average (p : PM) (hg : Gr 2 p) (F217 : PM → Int64 → Int64 → Int64) (G217 : PM → Int64 → Int64 → Prop) (o217 : CalOK 2 (CC217 F217 G217)) (F234 : PM → Int32 → Int32) (G234 : PM → Int32 → Prop) (o234 : CalOK 2 (CC234 F234 G234)) (kv29 : Int32 → Int32 → Int32 → Int64 → Int64 → Int32 → Int32) (kg29 : Int32 → Int32 → Int32 → Int64 → Int64 → Int32 → Prop) (hk29 : ∀ (v1 : Int32) (v2 : Int32) (v3 : Int32) (v4 : Int64) (v6 : Int64) (v8 : Int32) (d5 d7 d9 : ZV), kg29 v1 v2 v3 v4 v6 v8 → ZJ 2 300 29 [zR 12 1, zI v1, zI v2, zI v3, zL v4, d5, zL v6, d7, zI v8, d9] [] p (hoI p (kv29 v1 v2 v3 v4 v6 v8))) : ∀ (v1 : Int32) (v2 : Int32) (v3 : Int32), bg12_average p kg29 v1 v2 v3 → ZJ 2 300 0 [zR 12 1, zI v1, zI v2, zI v3, zJ, zJ, zJ, zJ, zJ, zJ] [] p (hoI p (bv12_average p kv29 v1 v2 v3)) := by
  intro v1 v2 v3  H
  exact roI (n := 3000) (q := 0) (la := [zR 12 1, zI v1, zI v2, zI v3, zJ, zJ, zJ, zJ, zJ, zJ]) (sa := []) (ks := [fun la sa _ => kv29 (ai la 1) (ai la 2) (ai la 3) (al la 4) (al la 6) (ai la 8)]) (gs := [fun la sa _ => zsw (tc2 la [(112, 1), (0, 0), (0, 0), (0, 0), (1, 0), (2, 0), (1, 0), (2, 0), (0, 0), (2, 0)] && tc2 sa []) False (kg29 (ai la 1) (ai la 2) (ai la 3) (al la 4) (al la 6) (ai la 8))]) (fcons o217 (fcons o234 (fnil))) tab300 pc300 ⟨fun la sa s hg H => zcut H fun H => hk29 (ai la 1) (ai la 2) (ai la 3) (al la 4) (al la 6) (ai la 8) (zld la 5) (zld la 7) (zld la 9) H, trivial⟩ hg H
theorem t12_average (p : PM) (hg : Gr 2 p) : ∀ (v1 : Int32) (v2 : Int32) (v3 : Int32), g12_average p v1 v2 v3 → ZJ 2 300 0 [zR 12 1, zI v1, zI v2, zI v3, zJ, zJ, zJ, zJ, zJ, zJ] [] p (hoI p (v12_average p v1 v2 v3)) := r12_average p hg v12_floor g12_floor ok217 v12_isKept g12_isKept ok234 (v12_average_29 p FU) (g12_average_29 p FU) (t12_average_29 p hg FU)
def CC300 (F : PM → Int32 → Int32 → Int32 → Int32) (G : PM → Int32 → Int32 → Int32 → Prop) : Cal := (300, [15, 0, 0, 0], 1, true, fun as p => (zI (F p (ai as 1) (ai as 2) (ai as 3)), p), fun as p => zsw (tc2 as [(112, 1), (0, 0), (0, 0), (0, 0)]) False (G p (ai as 1) (ai as 2) (ai as 3)))
set_option maxRecDepth 100000 in
theorem okr300 (F : PM → Int32 → Int32 → Int32 → Int32) (G : PM → Int32 → Int32 → Int32 → Prop) (h : ∀ (p : PM) (v1 : Int32) (v2 : Int32) (v3 : Int32), Gr 2 p → G p v1 v2 v3 → ZJ 2 300 0 [zR 12 1, zI v1, zI v2, zI v3, zJ, zJ, zJ, zJ, zJ, zJ] [] p (hoI p (F p v1 v2 v3))) : CalOK 2 (CC300 F G) := cal_ok (m := 10) (by unfold mL; rw [mX_300]) (fun as p hg H => h p (ai as 1) (ai as 2) (ai as 3) hg H)
theorem ok300 : CalOK 2 (CC300 v12_average g12_average) := okr300 v12_average g12_average (fun p v1 v2 v3 hg H => t12_average p hg v1 v2 v3 H)
noncomputable def bv12_doAllot_88 (F232 : PM → Int32 → Int32 → Int32 → Int32 → PM) (p : PM) (v1 : Int32) (v2 : Int32) (v3 : Int32) (v4 : Int32) (s0 : Int32) : Int32 × PM :=
  if (p.1 12 1 0) = 0 then (
    if s0 = (cn (-100000)) then (
      let p3 : PM := pI p 12 1 0 (cn 3)
      if (p3.1 12 1 0) = 0 then (
        let p4 : PM := F232 p3 v1 v3 (-v4) s0
        let p5 : PM := F232 p4 v2 v3 v4 s0
        (s0, p5))
      else (
        ((cn 0), p3)))
    else (
      if 0 < v4 then (
        if (p.1 13 1 ((((cn 4) * v1) + v3)).toNatClampNeg) < v4 then (
          let p13 : PM := pI p 12 1 0 (cn 3)
          if (p13.1 12 1 0) = 0 then (
            let p14 : PM := F232 p13 v1 v3 (-v4) s0
            let p15 : PM := F232 p14 v2 v3 v4 s0
            (s0, p15))
          else (
            ((cn 0), p13)))
        else (
          if (p.1 12 1 0) = 0 then (
            let p11 : PM := F232 p v1 v3 (-v4) s0
            let p12 : PM := F232 p11 v2 v3 v4 s0
            (s0, p12))
          else (
            ((cn 0), p))))
      else (
        if v4 < (p.1 13 1 ((((cn 4) * v1) + v3)).toNatClampNeg) then (
          let p8 : PM := pI p 12 1 0 (cn 3)
          if (p8.1 12 1 0) = 0 then (
            let p9 : PM := F232 p8 v1 v3 (-v4) s0
            let p10 : PM := F232 p9 v2 v3 v4 s0
            (s0, p10))
          else (
            ((cn 0), p8)))
        else (
          if (p.1 12 1 0) = 0 then (
            let p6 : PM := F232 p v1 v3 (-v4) s0
            let p7 : PM := F232 p6 v2 v3 v4 s0
            (s0, p7))
          else (
            ((cn 0), p))))))
  else (
    if (p.1 12 1 0) = 0 then (
      let p1 : PM := F232 p v1 v3 (-v4) s0
      let p2 : PM := F232 p1 v2 v3 v4 s0
      (s0, p2))
    else (
      ((cn 0), p)))
noncomputable def v12_doAllot_88 (p : PM) (v1 : Int32) (v2 : Int32) (v3 : Int32) (v4 : Int32) (s0 : Int32) : Int32 × PM := bv12_doAllot_88 v12_holds p v1 v2 v3 v4 s0
noncomputable def bg12_doAllot_88 (F232 : PM → Int32 → Int32 → Int32 → Int32 → PM) (G232 : PM → Int32 → Int32 → Int32 → Int32 → Prop) (p : PM) (v1 : Int32) (v2 : Int32) (v3 : Int32) (v4 : Int32) (s0 : Int32) : Prop :=
  if (p.1 12 1 0) = 0 then (
    if s0 = (cn (-100000)) then (
      let p3 : PM := pI p 12 1 0 (cn 3)
      if (p3.1 12 1 0) = 0 then (
        (G232 p3 v1 v3 (-v4) s0) ∧ (
        let p4 : PM := F232 p3 v1 v3 (-v4) s0
        (G232 p4 v2 v3 v4 s0) ∧ (
        let p5 : PM := F232 p4 v2 v3 v4 s0
        True)))
      else (
        True))
    else (
      if 0 < v4 then (
        (inb (((cn 4) * v1) + v3) 36) ∧ (
        if (p.1 13 1 ((((cn 4) * v1) + v3)).toNatClampNeg) < v4 then (
          let p13 : PM := pI p 12 1 0 (cn 3)
          if (p13.1 12 1 0) = 0 then (
            (G232 p13 v1 v3 (-v4) s0) ∧ (
            let p14 : PM := F232 p13 v1 v3 (-v4) s0
            (G232 p14 v2 v3 v4 s0) ∧ (
            let p15 : PM := F232 p14 v2 v3 v4 s0
            True)))
          else (
            True))
        else (
          if (p.1 12 1 0) = 0 then (
            (G232 p v1 v3 (-v4) s0) ∧ (
            let p11 : PM := F232 p v1 v3 (-v4) s0
            (G232 p11 v2 v3 v4 s0) ∧ (
            let p12 : PM := F232 p11 v2 v3 v4 s0
            True)))
          else (
            True))))
      else (
        (inb (((cn 4) * v1) + v3) 36) ∧ (
        if v4 < (p.1 13 1 ((((cn 4) * v1) + v3)).toNatClampNeg) then (
          let p8 : PM := pI p 12 1 0 (cn 3)
          if (p8.1 12 1 0) = 0 then (
            (G232 p8 v1 v3 (-v4) s0) ∧ (
            let p9 : PM := F232 p8 v1 v3 (-v4) s0
            (G232 p9 v2 v3 v4 s0) ∧ (
            let p10 : PM := F232 p9 v2 v3 v4 s0
            True)))
          else (
            True))
        else (
          if (p.1 12 1 0) = 0 then (
            (G232 p v1 v3 (-v4) s0) ∧ (
            let p6 : PM := F232 p v1 v3 (-v4) s0
            (G232 p6 v2 v3 v4 s0) ∧ (
            let p7 : PM := F232 p6 v2 v3 v4 s0
            True)))
          else (
            True))))))
  else (
    if (p.1 12 1 0) = 0 then (
      (G232 p v1 v3 (-v4) s0) ∧ (
      let p1 : PM := F232 p v1 v3 (-v4) s0
      (G232 p1 v2 v3 v4 s0) ∧ (
      let p2 : PM := F232 p1 v2 v3 v4 s0
      True)))
    else (
      True))
noncomputable def g12_doAllot_88 (p : PM) (v1 : Int32) (v2 : Int32) (v3 : Int32) (v4 : Int32) (s0 : Int32) : Prop := bg12_doAllot_88 v12_holds g12_holds p v1 v2 v3 v4 s0
noncomputable def bv12_doAllot_24 (F300 : PM → Int32 → Int32 → Int32 → Int32) (kv88 : PM → Int32 → Int32 → Int32 → Int32 → Int32 → Int32 × PM) (p : PM) (v1 : Int32) (v2 : Int32) (v3 : Int32) (v4 : Int32) : Int32 × PM :=
  let p1 : PM := pI p 12 1 0 (cn 1)
  if (p1.1 12 1 0) = 0 then (
    if 0 < v4 then (
      kv88 p1 v1 v2 v3 v4 (F300 p1 v1 v3 (cn 1)))
    else (
      kv88 p1 v1 v2 v3 v4 (F300 p1 v1 v3 (cn 0))))
  else (
    kv88 p1 v1 v2 v3 v4 (cn (-100000)))
noncomputable def v12_doAllot_24 (p : PM) (v1 : Int32) (v2 : Int32) (v3 : Int32) (v4 : Int32) : Int32 × PM := bv12_doAllot_24 v12_average v12_doAllot_88 p v1 v2 v3 v4
noncomputable def bg12_doAllot_24 (F300 : PM → Int32 → Int32 → Int32 → Int32) (G300 : PM → Int32 → Int32 → Int32 → Prop) (kg88 : PM → Int32 → Int32 → Int32 → Int32 → Int32 → Prop) (p : PM) (v1 : Int32) (v2 : Int32) (v3 : Int32) (v4 : Int32) : Prop :=
  let p1 : PM := pI p 12 1 0 (cn 1)
  if (p1.1 12 1 0) = 0 then (
    if 0 < v4 then (
      (G300 p1 v1 v3 (cn 1)) ∧ (
      kg88 p1 v1 v2 v3 v4 (F300 p1 v1 v3 (cn 1))))
    else (
      (G300 p1 v1 v3 (cn 0)) ∧ (
      kg88 p1 v1 v2 v3 v4 (F300 p1 v1 v3 (cn 0)))))
  else (
    kg88 p1 v1 v2 v3 v4 (cn (-100000)))
noncomputable def g12_doAllot_24 (p : PM) (v1 : Int32) (v2 : Int32) (v3 : Int32) (v4 : Int32) : Prop := bg12_doAllot_24 v12_average g12_average g12_doAllot_88 p v1 v2 v3 v4
noncomputable def bv12_doAllot_52 (F300 : PM → Int32 → Int32 → Int32 → Int32) (kv88 : PM → Int32 → Int32 → Int32 → Int32 → Int32 → Int32 × PM) (p : PM) (v1 : Int32) (v2 : Int32) (v3 : Int32) (v4 : Int32) : Int32 × PM :=
  let p1 : PM := pI p 12 1 0 (cn 2)
  if (p1.1 12 1 0) = 0 then (
    if 0 < v4 then (
      kv88 p1 v1 v2 v3 v4 (F300 p1 v1 v3 (cn 1)))
    else (
      kv88 p1 v1 v2 v3 v4 (F300 p1 v1 v3 (cn 0))))
  else (
    kv88 p1 v1 v2 v3 v4 (cn (-100000)))
noncomputable def v12_doAllot_52 (p : PM) (v1 : Int32) (v2 : Int32) (v3 : Int32) (v4 : Int32) : Int32 × PM := bv12_doAllot_52 v12_average v12_doAllot_88 p v1 v2 v3 v4
noncomputable def bg12_doAllot_52 (F300 : PM → Int32 → Int32 → Int32 → Int32) (G300 : PM → Int32 → Int32 → Int32 → Prop) (kg88 : PM → Int32 → Int32 → Int32 → Int32 → Int32 → Prop) (p : PM) (v1 : Int32) (v2 : Int32) (v3 : Int32) (v4 : Int32) : Prop :=
  let p1 : PM := pI p 12 1 0 (cn 2)
  if (p1.1 12 1 0) = 0 then (
    if 0 < v4 then (
      (G300 p1 v1 v3 (cn 1)) ∧ (
      kg88 p1 v1 v2 v3 v4 (F300 p1 v1 v3 (cn 1))))
    else (
      (G300 p1 v1 v3 (cn 0)) ∧ (
      kg88 p1 v1 v2 v3 v4 (F300 p1 v1 v3 (cn 0)))))
  else (
    kg88 p1 v1 v2 v3 v4 (cn (-100000)))
noncomputable def g12_doAllot_52 (p : PM) (v1 : Int32) (v2 : Int32) (v3 : Int32) (v4 : Int32) : Prop := bg12_doAllot_52 v12_average g12_average g12_doAllot_88 p v1 v2 v3 v4
noncomputable def bv12_doAllot (F215 : PM → Int32 → Int32 → Int32 → Int32) (F280 : PM → Int32 → Int32) (F300 : PM → Int32 → Int32 → Int32 → Int32) (kv24 : PM → Int32 → Int32 → Int32 → Int32 → Int32 × PM) (kv52 : PM → Int32 → Int32 → Int32 → Int32 → Int32 × PM) (kv88 : PM → Int32 → Int32 → Int32 → Int32 → Int32 → Int32 × PM) (p : PM) (v1 : Int32) (v2 : Int32) (v3 : Int32) (v4 : Int32) : Int32 × PM :=
  if (F280 p v1) = 0 then (
    kv24 p v1 v2 v3 v4)
  else (
    if (F280 p v2) = 0 then (
      kv24 p v1 v2 v3 v4)
    else (
      if (F215 p v3 (cn 0) (cn 3)) = 0 then (
        kv24 p v1 v2 v3 v4)
      else (
        if (F215 p v4 (cn (-999)) (cn 999)) = 0 then (
          kv52 p v1 v2 v3 v4)
        else (
          if v4 = 0 then (
            kv52 p v1 v2 v3 v4)
          else (
            if v1 = v2 then (
              kv52 p v1 v2 v3 v4)
            else (
              let p1 : PM := pI p 12 1 0 (cn 0)
              if (p1.1 12 1 0) = 0 then (
                if 0 < v4 then (
                  kv88 p1 v1 v2 v3 v4 (F300 p1 v1 v3 (cn 1)))
                else (
                  kv88 p1 v1 v2 v3 v4 (F300 p1 v1 v3 (cn 0))))
              else (
                kv88 p1 v1 v2 v3 v4 (cn (-100000)))))))))
noncomputable def v12_doAllot (p : PM) (v1 : Int32) (v2 : Int32) (v3 : Int32) (v4 : Int32) : Int32 × PM := bv12_doAllot v12_in v12_isAccount v12_average v12_doAllot_24 v12_doAllot_52 v12_doAllot_88 p v1 v2 v3 v4
noncomputable def bg12_doAllot (F215 : PM → Int32 → Int32 → Int32 → Int32) (G215 : PM → Int32 → Int32 → Int32 → Prop) (F280 : PM → Int32 → Int32) (G280 : PM → Int32 → Prop) (F300 : PM → Int32 → Int32 → Int32 → Int32) (G300 : PM → Int32 → Int32 → Int32 → Prop) (kg24 : PM → Int32 → Int32 → Int32 → Int32 → Prop) (kg52 : PM → Int32 → Int32 → Int32 → Int32 → Prop) (kg88 : PM → Int32 → Int32 → Int32 → Int32 → Int32 → Prop) (p : PM) (v1 : Int32) (v2 : Int32) (v3 : Int32) (v4 : Int32) : Prop :=
  (G280 p v1) ∧ (
  if (F280 p v1) = 0 then (
    kg24 p v1 v2 v3 v4)
  else (
    (G280 p v2) ∧ (
    if (F280 p v2) = 0 then (
      kg24 p v1 v2 v3 v4)
    else (
      (G215 p v3 (cn 0) (cn 3)) ∧ (
      if (F215 p v3 (cn 0) (cn 3)) = 0 then (
        kg24 p v1 v2 v3 v4)
      else (
        (G215 p v4 (cn (-999)) (cn 999)) ∧ (
        if (F215 p v4 (cn (-999)) (cn 999)) = 0 then (
          kg52 p v1 v2 v3 v4)
        else (
          if v4 = 0 then (
            kg52 p v1 v2 v3 v4)
          else (
            if v1 = v2 then (
              kg52 p v1 v2 v3 v4)
            else (
              let p1 : PM := pI p 12 1 0 (cn 0)
              if (p1.1 12 1 0) = 0 then (
                if 0 < v4 then (
                  (G300 p1 v1 v3 (cn 1)) ∧ (
                  kg88 p1 v1 v2 v3 v4 (F300 p1 v1 v3 (cn 1))))
                else (
                  (G300 p1 v1 v3 (cn 0)) ∧ (
                  kg88 p1 v1 v2 v3 v4 (F300 p1 v1 v3 (cn 0)))))
              else (
                kg88 p1 v1 v2 v3 v4 (cn (-100000)))))))))))))
noncomputable def g12_doAllot (p : PM) (v1 : Int32) (v2 : Int32) (v3 : Int32) (v4 : Int32) : Prop := bg12_doAllot v12_in g12_in v12_isAccount g12_isAccount v12_average g12_average g12_doAllot_24 g12_doAllot_52 g12_doAllot_88 p v1 v2 v3 v4
def R301 : List Row := [(0, .aload_n 0, 1, 0, (0, 0, 0, 0, 0, 0)), (1, .iload_n 1, 1, 0, (0, 0, 0, 0, 0, 0)), (2, .invokestatic 429, 3, 0, (0, 1, 0, 0, 0, 0)), (5, .ifCond .eq 19, 3, 0, (0, 0, 0, 0, 0, 0)), (8, .iload_n 2, 1, 0, (0, 0, 0, 0, 0, 0)), (9, .invokestatic 429, 3, 0, (0, 1, 0, 0, 0, 0)), (12, .ifCond .eq 12, 3, 0, (0, 0, 0, 0, 0, 0)), (15, .iload_n 3, 1, 0, (0, 0, 0, 0, 0, 0)), (16, .iconst 0, 1, 0, (0, 0, 0, 0, 0, 0)), (17, .iconst 3, 1, 0, (0, 0, 0, 0, 0, 3)), (18, .invokestatic 209, 3, 0, (1, 3, 0, 0, 0, 0)), (21, .ifCond .ne 7, 3, 0, (0, 0, 0, 0, 0, 0)), (24, .iconst 1, 1, 1, (0, 0, 0, 0, 0, 1)), (25, .goto 32, 3, 0, (0, 0, 0, 0, 0, 0)), (28, .iload 4, 2, 0, (0, 0, 0, 0, 0, 0)), (30, .sipush (-999), 3, 0, (0, 0, 0, 0, 0, -999)), (33, .sipush 999, 3, 0, (0, 0, 0, 0, 0, 999)), (36, .invokestatic 209, 3, 0, (1, 3, 0, 0, 0, 0)), (39, .ifCond .eq 13, 3, 0, (0, 0, 0, 0, 0, 0)), (42, .iload 4, 2, 0, (0, 0, 0, 0, 0, 0)), (44, .ifCond .eq 8, 3, 0, (0, 0, 0, 0, 0, 0)), (47, .iload_n 1, 1, 0, (0, 0, 0, 0, 0, 0)), (48, .iload_n 2, 1, 0, (0, 0, 0, 0, 0, 0)), (49, .if_icmp .ne 7, 3, 0, (0, 0, 0, 0, 0, 0)), (52, .iconst 2, 1, 2, (0, 0, 0, 0, 0, 2)), (53, .goto 4, 3, 0, (0, 0, 0, 0, 0, 0)), (56, .iconst 0, 1, 0, (0, 0, 0, 0, 0, 0)), (57, .putfield 180, 3, 0, (12, 0, 0, 1, 0, 0)), (60, .aload_n 0, 1, 0, (0, 0, 0, 0, 0, 0)), (61, .getfield 180, 3, 0, (12, 0, 0, 1, 0, 0)), (64, .ifCond .ne 22, 3, 0, (0, 0, 0, 0, 0, 0)), (67, .aload_n 0, 1, 0, (0, 0, 0, 0, 0, 0)), (68, .iload_n 1, 1, 0, (0, 0, 0, 0, 0, 0)), (69, .iload_n 3, 1, 0, (0, 0, 0, 0, 0, 0)), (70, .iload 4, 2, 0, (0, 0, 0, 0, 0, 0)), (72, .ifCond .le 7, 3, 0, (0, 0, 0, 0, 0, 0)), (75, .iconst 1, 1, 0, (0, 0, 0, 0, 0, 1)), (76, .goto 4, 3, 0, (0, 0, 0, 0, 0, 0)), (79, .iconst 0, 1, 0, (0, 0, 0, 0, 0, 0)), (80, .invokevirtual 458, 3, 0, (2, 4, 0, 0, 1, 0)), (83, .goto 5, 3, 0, (0, 0, 0, 0, 0, 0)), (86, .ldc 184, 2, 0, (0, 0, 0, 0, 0, -100000)), (88, .istore 5, 2, 3, (0, 0, 0, 0, 0, 0)), (90, .aload_n 0, 1, 0, (0, 0, 0, 0, 0, 0)), (91, .getfield 180, 3, 0, (12, 0, 0, 1, 0, 0)), (94, .ifCond .ne 53, 3, 0, (0, 0, 0, 0, 0, 0)), (97, .iload 5, 2, 0, (0, 0, 0, 0, 0, 0)), (99, .ldc 184, 2, 0, (0, 0, 0, 0, 0, -100000)), (101, .if_icmp .eq 41, 3, 0, (0, 0, 0, 0, 0, 0)), (104, .iload 4, 2, 0, (0, 0, 0, 0, 0, 0)), (106, .ifCond .le 21, 3, 0, (0, 0, 0, 0, 0, 0)), (109, .aload_n 0, 1, 0, (0, 0, 0, 0, 0, 0)), (110, .getfield 7, 3, 0, (12, 1, 16, 2, 1, 0)), (113, .iconst 4, 1, 0, (0, 0, 0, 0, 0, 4)), (114, .iload_n 1, 1, 0, (0, 0, 0, 0, 0, 0)), (115, .imul, 1, 0, (0, 0, 0, 0, 0, 0)), (116, .iload_n 3, 1, 0, (0, 0, 0, 0, 0, 0)), (117, .iadd, 1, 0, (0, 0, 0, 0, 0, 0)), (118, .iaload, 1, 0, (13, 36, 0, 0, 0, 0)), (119, .iload 4, 2, 0, (0, 0, 0, 0, 0, 0)), (121, .if_icmp .ge 26, 3, 0, (0, 0, 0, 0, 0, 0)), (124, .goto 18, 3, 0, (0, 0, 0, 0, 0, 0)), (127, .aload_n 0, 1, 0, (0, 0, 0, 0, 0, 0)), (128, .getfield 7, 3, 0, (12, 1, 16, 2, 1, 0)), (131, .iconst 4, 1, 0, (0, 0, 0, 0, 0, 4)), (132, .iload_n 1, 1, 0, (0, 0, 0, 0, 0, 0)), (133, .imul, 1, 0, (0, 0, 0, 0, 0, 0)), (134, .iload_n 3, 1, 0, (0, 0, 0, 0, 0, 0)), (135, .iadd, 1, 0, (0, 0, 0, 0, 0, 0)), (136, .iaload, 1, 0, (13, 36, 0, 0, 0, 0)), (137, .iload 4, 2, 0, (0, 0, 0, 0, 0, 0)), (139, .if_icmp .le 8, 3, 0, (0, 0, 0, 0, 0, 0)), (142, .aload_n 0, 1, 0, (0, 0, 0, 0, 0, 0)), (143, .iconst 3, 1, 0, (0, 0, 0, 0, 0, 3)), (144, .putfield 180, 3, 0, (12, 0, 0, 1, 0, 0)), (147, .aload_n 0, 1, 0, (0, 0, 0, 0, 0, 0)), (148, .getfield 180, 3, 0, (12, 0, 0, 1, 0, 0)), (151, .ifCond .eq 5, 3, 0, (0, 0, 0, 0, 0, 0)), (154, .iconst 0, 1, 0, (0, 0, 0, 0, 0, 0)), (155, .ireturn, 1, 0, (0, 0, 0, 0, 0, 0)), (156, .aload_n 0, 1, 0, (0, 0, 0, 0, 0, 0)), (157, .iload_n 1, 1, 0, (0, 0, 0, 0, 0, 0)), (158, .iload_n 3, 1, 0, (0, 0, 0, 0, 0, 0)), (159, .iload 4, 2, 0, (0, 0, 0, 0, 0, 0)), (161, .ineg, 1, 0, (0, 0, 0, 0, 0, 0)), (162, .iload 5, 2, 0, (0, 0, 0, 0, 0, 0)), (164, .invokevirtual 236, 3, 0, (3, 5, 0, 0, 1, 0)), (167, .aload_n 0, 1, 0, (0, 0, 0, 0, 0, 0)), (168, .iload_n 2, 1, 0, (0, 0, 0, 0, 0, 0)), (169, .iload_n 3, 1, 0, (0, 0, 0, 0, 0, 0)), (170, .iload 4, 2, 0, (0, 0, 0, 0, 0, 0)), (172, .iload 5, 2, 0, (0, 0, 0, 0, 0, 0)), (174, .invokevirtual 236, 3, 0, (3, 5, 0, 0, 1, 0)), (177, .iload 5, 2, 0, (0, 0, 0, 0, 0, 0)), (179, .ireturn, 1, 0, (0, 0, 0, 0, 0, 0))]
set_option maxRecDepth 100000 in
theorem rk301 : R301.all (rok 2 301 1 [(280, [0]), (215, [0, 0, 0]), (300, [15, 0, 0, 0]), (232, [15, 0, 0, 0, 0])]) = true := by decide +kernel
set_option maxRecDepth 100000 in
theorem tab301 {F280 : PM → Int32 → Int32} {G280 : PM → Int32 → Prop} {F215 : PM → Int32 → Int32 → Int32 → Int32} {G215 : PM → Int32 → Int32 → Int32 → Prop} {F300 : PM → Int32 → Int32 → Int32 → Int32} {G300 : PM → Int32 → Int32 → Int32 → Prop} {F232 : PM → Int32 → Int32 → Int32 → Int32 → PM} {G232 : PM → Int32 → Int32 → Int32 → Int32 → Prop} : TabOK 2 301 1 [CC280 F280 G280, CC215 F215 G215, CC300 F300 G300, CC232 F232 G232] R301 := tab_ok (K := K301) rfl rfl (fun h => d301 h) rk301 (by decide +kernel)
set_option maxRecDepth 100000 in
theorem pc301 : cutpc [24, 52, 88] R301 = true := by decide +kernel
set_option maxRecDepth 100000 in
theorem r12_doAllot_88 (F280 : PM → Int32 → Int32) (G280 : PM → Int32 → Prop) (o280 : CalOK 2 (CC280 F280 G280)) (F215 : PM → Int32 → Int32 → Int32 → Int32) (G215 : PM → Int32 → Int32 → Int32 → Prop) (o215 : CalOK 2 (CC215 F215 G215)) (F300 : PM → Int32 → Int32 → Int32 → Int32) (G300 : PM → Int32 → Int32 → Int32 → Prop) (o300 : CalOK 2 (CC300 F300 G300)) (F232 : PM → Int32 → Int32 → Int32 → Int32 → PM) (G232 : PM → Int32 → Int32 → Int32 → Int32 → Prop) (o232 : CalOK 2 (CC232 F232 G232)) : ∀ (p : PM) (v1 : Int32) (v2 : Int32) (v3 : Int32) (v4 : Int32) (s0 : Int32) (d5 : ZV), Gr 2 p → bg12_doAllot_88 F232 G232 p v1 v2 v3 v4 s0 → ZJ 2 301 88 [zR 12 1, zI v1, zI v2, zI v3, zI v4, d5] [zI s0] p (hwI (bv12_doAllot_88 F232 p v1 v2 v3 v4 s0)) := by
  intro p v1 v2 v3 v4 s0 d5 hg H
  exact rwI (n := 3000) (q := 88) (la := [zR 12 1, zI v1, zI v2, zI v3, zI v4, d5]) (sa := [zI s0]) (ks := [fun _ _ s => (0, s), fun _ _ s => (0, s), fun _ _ s => (0, s)]) (gs := [fun _ _ _ => False, fun _ _ _ => False, fun _ _ _ => False]) (fcons o280 (fcons o215 (fcons o300 (fcons o232 (fnil))))) tab301 pc301 ⟨fun _ _ _ _ H => H.elim, fun _ _ _ _ H => H.elim, fun _ _ _ _ H => H.elim, trivial⟩ hg H
theorem t12_doAllot_88 : ∀ (p : PM) (v1 : Int32) (v2 : Int32) (v3 : Int32) (v4 : Int32) (s0 : Int32) (d5 : ZV), Gr 2 p → g12_doAllot_88 p v1 v2 v3 v4 s0 → ZJ 2 301 88 [zR 12 1, zI v1, zI v2, zI v3, zI v4, d5] [zI s0] p (hwI (v12_doAllot_88 p v1 v2 v3 v4 s0)) := r12_doAllot_88 v12_isAccount g12_isAccount ok280 v12_in g12_in ok215 v12_average g12_average ok300 v12_holds g12_holds ok232
set_option maxRecDepth 100000 in
theorem r12_doAllot_24 (F280 : PM → Int32 → Int32) (G280 : PM → Int32 → Prop) (o280 : CalOK 2 (CC280 F280 G280)) (F215 : PM → Int32 → Int32 → Int32 → Int32) (G215 : PM → Int32 → Int32 → Int32 → Prop) (o215 : CalOK 2 (CC215 F215 G215)) (F300 : PM → Int32 → Int32 → Int32 → Int32) (G300 : PM → Int32 → Int32 → Int32 → Prop) (o300 : CalOK 2 (CC300 F300 G300)) (F232 : PM → Int32 → Int32 → Int32 → Int32 → PM) (G232 : PM → Int32 → Int32 → Int32 → Int32 → Prop) (o232 : CalOK 2 (CC232 F232 G232)) (kv88 : PM → Int32 → Int32 → Int32 → Int32 → Int32 → Int32 × PM) (kg88 : PM → Int32 → Int32 → Int32 → Int32 → Int32 → Prop) (hk88 : ∀ (p : PM) (v1 : Int32) (v2 : Int32) (v3 : Int32) (v4 : Int32) (s0 : Int32) (d5 : ZV), Gr 2 p → kg88 p v1 v2 v3 v4 s0 → ZJ 2 301 88 [zR 12 1, zI v1, zI v2, zI v3, zI v4, d5] [zI s0] p (hwI (kv88 p v1 v2 v3 v4 s0))) : ∀ (p : PM) (v1 : Int32) (v2 : Int32) (v3 : Int32) (v4 : Int32) (d5 : ZV), Gr 2 p → bg12_doAllot_24 F300 G300 kg88 p v1 v2 v3 v4 → ZJ 2 301 24 [zR 12 1, zI v1, zI v2, zI v3, zI v4, d5] [zR 12 1] p (hwI (bv12_doAllot_24 F300 kv88 p v1 v2 v3 v4)) := by
  intro p v1 v2 v3 v4 d5 hg H
  exact rwI (n := 3000) (q := 24) (la := [zR 12 1, zI v1, zI v2, zI v3, zI v4, d5]) (sa := [zR 12 1]) (ks := [fun _ _ s => (0, s), fun _ _ s => (0, s), fun la sa s => kv88 s (ai la 1) (ai la 2) (ai la 3) (ai la 4) (ai sa 0)]) (gs := [fun _ _ _ => False, fun _ _ _ => False, fun la sa s => zsw (tc2 la [(112, 1), (0, 0), (0, 0), (0, 0), (0, 0), (2, 0)] && tc2 sa [(0, 0)]) False (kg88 s (ai la 1) (ai la 2) (ai la 3) (ai la 4) (ai sa 0))]) (fcons o280 (fcons o215 (fcons o300 (fcons o232 (fnil))))) tab301 pc301 ⟨fun _ _ _ _ H => H.elim, fun _ _ _ _ H => H.elim, fun la sa s hg H => zcut H fun H => hk88 s (ai la 1) (ai la 2) (ai la 3) (ai la 4) (ai sa 0) (zld la 5) hg H, trivial⟩ hg H
theorem t12_doAllot_24 : ∀ (p : PM) (v1 : Int32) (v2 : Int32) (v3 : Int32) (v4 : Int32) (d5 : ZV), Gr 2 p → g12_doAllot_24 p v1 v2 v3 v4 → ZJ 2 301 24 [zR 12 1, zI v1, zI v2, zI v3, zI v4, d5] [zR 12 1] p (hwI (v12_doAllot_24 p v1 v2 v3 v4)) := r12_doAllot_24 v12_isAccount g12_isAccount ok280 v12_in g12_in ok215 v12_average g12_average ok300 v12_holds g12_holds ok232 (v12_doAllot_88) (g12_doAllot_88) (t12_doAllot_88)
set_option maxRecDepth 100000 in
theorem r12_doAllot_52 (F280 : PM → Int32 → Int32) (G280 : PM → Int32 → Prop) (o280 : CalOK 2 (CC280 F280 G280)) (F215 : PM → Int32 → Int32 → Int32 → Int32) (G215 : PM → Int32 → Int32 → Int32 → Prop) (o215 : CalOK 2 (CC215 F215 G215)) (F300 : PM → Int32 → Int32 → Int32 → Int32) (G300 : PM → Int32 → Int32 → Int32 → Prop) (o300 : CalOK 2 (CC300 F300 G300)) (F232 : PM → Int32 → Int32 → Int32 → Int32 → PM) (G232 : PM → Int32 → Int32 → Int32 → Int32 → Prop) (o232 : CalOK 2 (CC232 F232 G232)) (kv88 : PM → Int32 → Int32 → Int32 → Int32 → Int32 → Int32 × PM) (kg88 : PM → Int32 → Int32 → Int32 → Int32 → Int32 → Prop) (hk88 : ∀ (p : PM) (v1 : Int32) (v2 : Int32) (v3 : Int32) (v4 : Int32) (s0 : Int32) (d5 : ZV), Gr 2 p → kg88 p v1 v2 v3 v4 s0 → ZJ 2 301 88 [zR 12 1, zI v1, zI v2, zI v3, zI v4, d5] [zI s0] p (hwI (kv88 p v1 v2 v3 v4 s0))) : ∀ (p : PM) (v1 : Int32) (v2 : Int32) (v3 : Int32) (v4 : Int32) (d5 : ZV), Gr 2 p → bg12_doAllot_52 F300 G300 kg88 p v1 v2 v3 v4 → ZJ 2 301 52 [zR 12 1, zI v1, zI v2, zI v3, zI v4, d5] [zR 12 1] p (hwI (bv12_doAllot_52 F300 kv88 p v1 v2 v3 v4)) := by
  intro p v1 v2 v3 v4 d5 hg H
  exact rwI (n := 3000) (q := 52) (la := [zR 12 1, zI v1, zI v2, zI v3, zI v4, d5]) (sa := [zR 12 1]) (ks := [fun _ _ s => (0, s), fun _ _ s => (0, s), fun la sa s => kv88 s (ai la 1) (ai la 2) (ai la 3) (ai la 4) (ai sa 0)]) (gs := [fun _ _ _ => False, fun _ _ _ => False, fun la sa s => zsw (tc2 la [(112, 1), (0, 0), (0, 0), (0, 0), (0, 0), (2, 0)] && tc2 sa [(0, 0)]) False (kg88 s (ai la 1) (ai la 2) (ai la 3) (ai la 4) (ai sa 0))]) (fcons o280 (fcons o215 (fcons o300 (fcons o232 (fnil))))) tab301 pc301 ⟨fun _ _ _ _ H => H.elim, fun _ _ _ _ H => H.elim, fun la sa s hg H => zcut H fun H => hk88 s (ai la 1) (ai la 2) (ai la 3) (ai la 4) (ai sa 0) (zld la 5) hg H, trivial⟩ hg H
theorem t12_doAllot_52 : ∀ (p : PM) (v1 : Int32) (v2 : Int32) (v3 : Int32) (v4 : Int32) (d5 : ZV), Gr 2 p → g12_doAllot_52 p v1 v2 v3 v4 → ZJ 2 301 52 [zR 12 1, zI v1, zI v2, zI v3, zI v4, d5] [zR 12 1] p (hwI (v12_doAllot_52 p v1 v2 v3 v4)) := r12_doAllot_52 v12_isAccount g12_isAccount ok280 v12_in g12_in ok215 v12_average g12_average ok300 v12_holds g12_holds ok232 (v12_doAllot_88) (g12_doAllot_88) (t12_doAllot_88)
set_option maxRecDepth 100000 in
theorem r12_doAllot (F280 : PM → Int32 → Int32) (G280 : PM → Int32 → Prop) (o280 : CalOK 2 (CC280 F280 G280)) (F215 : PM → Int32 → Int32 → Int32 → Int32) (G215 : PM → Int32 → Int32 → Int32 → Prop) (o215 : CalOK 2 (CC215 F215 G215)) (F300 : PM → Int32 → Int32 → Int32 → Int32) (G300 : PM → Int32 → Int32 → Int32 → Prop) (o300 : CalOK 2 (CC300 F300 G300)) (F232 : PM → Int32 → Int32 → Int32 → Int32 → PM) (G232 : PM → Int32 → Int32 → Int32 → Int32 → Prop) (o232 : CalOK 2 (CC232 F232 G232)) (kv24 : PM → Int32 → Int32 → Int32 → Int32 → Int32 × PM) (kg24 : PM → Int32 → Int32 → Int32 → Int32 → Prop) (hk24 : ∀ (p : PM) (v1 : Int32) (v2 : Int32) (v3 : Int32) (v4 : Int32) (d5 : ZV), Gr 2 p → kg24 p v1 v2 v3 v4 → ZJ 2 301 24 [zR 12 1, zI v1, zI v2, zI v3, zI v4, d5] [zR 12 1] p (hwI (kv24 p v1 v2 v3 v4))) (kv52 : PM → Int32 → Int32 → Int32 → Int32 → Int32 × PM) (kg52 : PM → Int32 → Int32 → Int32 → Int32 → Prop) (hk52 : ∀ (p : PM) (v1 : Int32) (v2 : Int32) (v3 : Int32) (v4 : Int32) (d5 : ZV), Gr 2 p → kg52 p v1 v2 v3 v4 → ZJ 2 301 52 [zR 12 1, zI v1, zI v2, zI v3, zI v4, d5] [zR 12 1] p (hwI (kv52 p v1 v2 v3 v4))) (kv88 : PM → Int32 → Int32 → Int32 → Int32 → Int32 → Int32 × PM) (kg88 : PM → Int32 → Int32 → Int32 → Int32 → Int32 → Prop) (hk88 : ∀ (p : PM) (v1 : Int32) (v2 : Int32) (v3 : Int32) (v4 : Int32) (s0 : Int32) (d5 : ZV), Gr 2 p → kg88 p v1 v2 v3 v4 s0 → ZJ 2 301 88 [zR 12 1, zI v1, zI v2, zI v3, zI v4, d5] [zI s0] p (hwI (kv88 p v1 v2 v3 v4 s0))) : ∀ (p : PM) (v1 : Int32) (v2 : Int32) (v3 : Int32) (v4 : Int32), Gr 2 p → bg12_doAllot F215 G215 F280 G280 F300 G300 kg24 kg52 kg88 p v1 v2 v3 v4 → ZJ 2 301 0 [zR 12 1, zI v1, zI v2, zI v3, zI v4, zJ] [] p (hwI (bv12_doAllot F215 F280 F300 kv24 kv52 kv88 p v1 v2 v3 v4)) := by
  intro p v1 v2 v3 v4  hg H
  exact rwI (n := 3000) (q := 0) (la := [zR 12 1, zI v1, zI v2, zI v3, zI v4, zJ]) (sa := []) (ks := [fun la sa s => kv24 s (ai la 1) (ai la 2) (ai la 3) (ai la 4), fun la sa s => kv52 s (ai la 1) (ai la 2) (ai la 3) (ai la 4), fun la sa s => kv88 s (ai la 1) (ai la 2) (ai la 3) (ai la 4) (ai sa 0)]) (gs := [fun la sa s => zsw (tc2 la [(112, 1), (0, 0), (0, 0), (0, 0), (0, 0), (2, 0)] && tc2 sa [(112, 1)]) False (kg24 s (ai la 1) (ai la 2) (ai la 3) (ai la 4)), fun la sa s => zsw (tc2 la [(112, 1), (0, 0), (0, 0), (0, 0), (0, 0), (2, 0)] && tc2 sa [(112, 1)]) False (kg52 s (ai la 1) (ai la 2) (ai la 3) (ai la 4)), fun la sa s => zsw (tc2 la [(112, 1), (0, 0), (0, 0), (0, 0), (0, 0), (2, 0)] && tc2 sa [(0, 0)]) False (kg88 s (ai la 1) (ai la 2) (ai la 3) (ai la 4) (ai sa 0))]) (fcons o280 (fcons o215 (fcons o300 (fcons o232 (fnil))))) tab301 pc301 ⟨fun la sa s hg H => zcut H fun H => hk24 s (ai la 1) (ai la 2) (ai la 3) (ai la 4) (zld la 5) hg H, fun la sa s hg H => zcut H fun H => hk52 s (ai la 1) (ai la 2) (ai la 3) (ai la 4) (zld la 5) hg H, fun la sa s hg H => zcut H fun H => hk88 s (ai la 1) (ai la 2) (ai la 3) (ai la 4) (ai sa 0) (zld la 5) hg H, trivial⟩ hg H
theorem t12_doAllot : ∀ (p : PM) (v1 : Int32) (v2 : Int32) (v3 : Int32) (v4 : Int32), Gr 2 p → g12_doAllot p v1 v2 v3 v4 → ZJ 2 301 0 [zR 12 1, zI v1, zI v2, zI v3, zI v4, zJ] [] p (hwI (v12_doAllot p v1 v2 v3 v4)) := r12_doAllot v12_isAccount g12_isAccount ok280 v12_in g12_in ok215 v12_average g12_average ok300 v12_holds g12_holds ok232 (v12_doAllot_24) (g12_doAllot_24) (t12_doAllot_24) (v12_doAllot_52) (g12_doAllot_52) (t12_doAllot_52) (v12_doAllot_88) (g12_doAllot_88) (t12_doAllot_88)
def CC301 (F : PM → Int32 → Int32 → Int32 → Int32 → Int32 × PM) (G : PM → Int32 → Int32 → Int32 → Int32 → Prop) : Cal := (301, [15, 0, 0, 0, 0], 1, false, fun as p => (zI (F p (ai as 1) (ai as 2) (ai as 3) (ai as 4)).1, (F p (ai as 1) (ai as 2) (ai as 3) (ai as 4)).2), fun as p => zsw (tc2 as [(112, 1), (0, 0), (0, 0), (0, 0), (0, 0)]) False (G p (ai as 1) (ai as 2) (ai as 3) (ai as 4)))
set_option maxRecDepth 100000 in
theorem okr301 (F : PM → Int32 → Int32 → Int32 → Int32 → Int32 × PM) (G : PM → Int32 → Int32 → Int32 → Int32 → Prop) (h : ∀ (p : PM) (v1 : Int32) (v2 : Int32) (v3 : Int32) (v4 : Int32), Gr 2 p → G p v1 v2 v3 v4 → ZJ 2 301 0 [zR 12 1, zI v1, zI v2, zI v3, zI v4, zJ] [] p (hwI (F p v1 v2 v3 v4))) : CalOK 2 (CC301 F G) := cal_ok (m := 6) (by unfold mL; rw [mX_301]) (fun as p hg H => h p (ai as 1) (ai as 2) (ai as 3) (ai as 4) hg H)
theorem ok301 : CalOK 2 (CC301 v12_doAllot g12_doAllot) := okr301 v12_doAllot g12_doAllot t12_doAllot
noncomputable def bv12_drawn_54 (p : PM) (kv54 : Int32 → Int32 → Int32) (v3 : Int32) (v4 : Int32) : Int32 :=
  if v4 < (cn 9) then (
    if (p.1 13 1 ((((cn 4) * v4) + (cn 3))).toNatClampNeg) < 0 then (
      let x1 : Int32 := (-(p.1 13 1 ((((cn 4) * v4) + (cn 3))).toNatClampNeg))
      if v3 < x1 then (
        v4)
      else (
        kv54 (v3 - x1) (v4 + (cn 1))))
    else (
      if v3 < (cn 0) then (
        v4)
      else (
        kv54 (v3 - (cn 0)) (v4 + (cn 1)))))
  else (
    (cn (-1)))
noncomputable def v12_drawn_54 (p : PM) (n : Nat) : Int32 → Int32 → Int32 := Nat.rec (motive := fun _ => Int32 → Int32 → Int32) (fun _ _ => 0) (fun _ ih => bv12_drawn_54 p ih) n
theorem ev12_drawn_54 (p : PM) (n : Nat) (v3 : Int32) (v4 : Int32) : v12_drawn_54 p (n + 1) v3 v4 = bv12_drawn_54 p (v12_drawn_54 p n) v3 v4 := rfl
noncomputable def bg12_drawn_54 (p : PM) (kg54 : Int32 → Int32 → Prop) (v3 : Int32) (v4 : Int32) : Prop :=
  if v4 < (cn 9) then (
    (inb (((cn 4) * v4) + (cn 3)) 36) ∧ (
    if (p.1 13 1 ((((cn 4) * v4) + (cn 3))).toNatClampNeg) < 0 then (
      (inb (((cn 4) * v4) + (cn 3)) 36) ∧ (
      let x1 : Int32 := (-(p.1 13 1 ((((cn 4) * v4) + (cn 3))).toNatClampNeg))
      if v3 < x1 then (
        True)
      else (
        kg54 (v3 - x1) (v4 + (cn 1)))))
    else (
      if v3 < (cn 0) then (
        True)
      else (
        kg54 (v3 - (cn 0)) (v4 + (cn 1))))))
  else (
    True)
noncomputable def g12_drawn_54 (p : PM) (n : Nat) : Int32 → Int32 → Prop := Nat.rec (motive := fun _ => Int32 → Int32 → Prop) (fun _ _ => False) (fun _ ih => bg12_drawn_54 p ih) n
theorem eg12_drawn_54 (p : PM) (n : Nat) (v3 : Int32) (v4 : Int32) : g12_drawn_54 p (n + 1) v3 v4 = bg12_drawn_54 p (g12_drawn_54 p n) v3 v4 := rfl
noncomputable def bv12_drawn_4 (p : PM) (kv4 : Int32 → Int32 → Int32 → Int32) (kv54 : Int32 → Int32 → Int32) (v1 : Int32) (v2 : Int32) (v3 : Int32) : Int32 :=
  if v3 < (cn 9) then (
    if (p.1 13 1 ((((cn 4) * v3) + (cn 3))).toNatClampNeg) < 0 then (
      let x1 : Int32 := (v2 + (-(p.1 13 1 ((((cn 4) * v3) + (cn 3))).toNatClampNeg)))
      kv4 v1 x1 (v3 + (cn 1)))
    else (
      kv4 v1 (v2 + (cn 0)) (v3 + (cn 1))))
  else (
    kv54 (irm v1 v2) (cn 0))
noncomputable def v12_drawn_4 (p : PM) (n : Nat) : Int32 → Int32 → Int32 → Int32 := Nat.rec (motive := fun _ => Int32 → Int32 → Int32 → Int32) (fun _ _ _ => 0) (fun _ ih => bv12_drawn_4 p ih (v12_drawn_54 p FU)) n
theorem ev12_drawn_4 (p : PM) (n : Nat) (v1 : Int32) (v2 : Int32) (v3 : Int32) : v12_drawn_4 p (n + 1) v1 v2 v3 = bv12_drawn_4 p (v12_drawn_4 p n) (v12_drawn_54 p FU) v1 v2 v3 := rfl
noncomputable def bg12_drawn_4 (p : PM) (kg4 : Int32 → Int32 → Int32 → Prop) (kg54 : Int32 → Int32 → Prop) (v1 : Int32) (v2 : Int32) (v3 : Int32) : Prop :=
  if v3 < (cn 9) then (
    (inb (((cn 4) * v3) + (cn 3)) 36) ∧ (
    if (p.1 13 1 ((((cn 4) * v3) + (cn 3))).toNatClampNeg) < 0 then (
      (inb (((cn 4) * v3) + (cn 3)) 36) ∧ (
      let x1 : Int32 := (v2 + (-(p.1 13 1 ((((cn 4) * v3) + (cn 3))).toNatClampNeg)))
      kg4 v1 x1 (v3 + (cn 1))))
    else (
      kg4 v1 (v2 + (cn 0)) (v3 + (cn 1)))))
  else (
    (¬ v2 = 0) ∧ (
    kg54 (irm v1 v2) (cn 0)))
noncomputable def g12_drawn_4 (p : PM) (n : Nat) : Int32 → Int32 → Int32 → Prop := Nat.rec (motive := fun _ => Int32 → Int32 → Int32 → Prop) (fun _ _ _ => False) (fun _ ih => bg12_drawn_4 p ih (g12_drawn_54 p FU)) n
theorem eg12_drawn_4 (p : PM) (n : Nat) (v1 : Int32) (v2 : Int32) (v3 : Int32) : g12_drawn_4 p (n + 1) v1 v2 v3 = bg12_drawn_4 p (g12_drawn_4 p n) (g12_drawn_54 p FU) v1 v2 v3 := rfl
noncomputable def bv12_drawn (p : PM) (kv4 : Int32 → Int32 → Int32 → Int32) (v1 : Int32) : Int32 :=
  kv4 v1 (cn 0) (cn 0)
noncomputable def v12_drawn (p : PM) (v1 : Int32) : Int32 := bv12_drawn p (v12_drawn_4 p FU) v1
noncomputable def bg12_drawn (p : PM) (kg4 : Int32 → Int32 → Int32 → Prop) (v1 : Int32) : Prop :=
  kg4 v1 (cn 0) (cn 0)
noncomputable def g12_drawn (p : PM) (v1 : Int32) : Prop := bg12_drawn p (g12_drawn_4 p FU) v1
def R303 : List Row := [(0, .iconst 0, 1, 0, (0, 0, 0, 0, 0, 0)), (1, .istore_n 2, 1, 0, (0, 0, 0, 0, 0, 0)), (2, .iconst 0, 1, 0, (0, 0, 0, 0, 0, 0)), (3, .istore_n 3, 1, 0, (0, 0, 0, 0, 0, 0)), (4, .iload_n 3, 1, 1, (0, 0, 0, 0, 0, 0)), (5, .bipush 9, 2, 0, (0, 0, 0, 0, 0, 9)), (7, .if_icmp .ge 40, 3, 0, (0, 0, 0, 0, 0, 0)), (10, .iload_n 2, 1, 0, (0, 0, 0, 0, 0, 0)), (11, .aload_n 0, 1, 0, (0, 0, 0, 0, 0, 0)), (12, .getfield 7, 3, 0, (12, 1, 16, 2, 1, 0)), (15, .iconst 4, 1, 0, (0, 0, 0, 0, 0, 4)), (16, .iload_n 3, 1, 0, (0, 0, 0, 0, 0, 0)), (17, .imul, 1, 0, (0, 0, 0, 0, 0, 0)), (18, .iconst 3, 1, 0, (0, 0, 0, 0, 0, 3)), (19, .iadd, 1, 0, (0, 0, 0, 0, 0, 0)), (20, .iaload, 1, 0, (13, 36, 0, 0, 0, 0)), (21, .ifCond .ge 17, 3, 0, (0, 0, 0, 0, 0, 0)), (24, .aload_n 0, 1, 0, (0, 0, 0, 0, 0, 0)), (25, .getfield 7, 3, 0, (12, 1, 16, 2, 1, 0)), (28, .iconst 4, 1, 0, (0, 0, 0, 0, 0, 4)), (29, .iload_n 3, 1, 0, (0, 0, 0, 0, 0, 0)), (30, .imul, 1, 0, (0, 0, 0, 0, 0, 0)), (31, .iconst 3, 1, 0, (0, 0, 0, 0, 0, 3)), (32, .iadd, 1, 0, (0, 0, 0, 0, 0, 0)), (33, .iaload, 1, 0, (13, 36, 0, 0, 0, 0)), (34, .ineg, 1, 0, (0, 0, 0, 0, 0, 0)), (35, .goto 4, 3, 0, (0, 0, 0, 0, 0, 0)), (38, .iconst 0, 1, 0, (0, 0, 0, 0, 0, 0)), (39, .iadd, 1, 0, (0, 0, 0, 0, 0, 0)), (40, .istore_n 2, 1, 0, (0, 0, 0, 0, 0, 0)), (41, .iinc 3 1, 3, 0, (0, 0, 0, 0, 0, 1)), (44, .goto (-40), 3, 0, (0, 0, 0, 0, 0, 0)), (47, .iload_n 1, 1, 0, (0, 0, 0, 0, 0, 0)), (48, .iload_n 2, 1, 0, (0, 0, 0, 0, 0, 0)), (49, .irem, 1, 0, (0, 0, 0, 0, 0, 0)), (50, .istore_n 3, 1, 0, (0, 0, 0, 0, 0, 0)), (51, .iconst 0, 1, 0, (0, 0, 0, 0, 0, 0)), (52, .istore 4, 2, 0, (0, 0, 0, 0, 0, 0)), (54, .iload 4, 2, 2, (0, 0, 0, 0, 0, 0)), (56, .bipush 9, 2, 0, (0, 0, 0, 0, 0, 9)), (58, .if_icmp .ge 55, 3, 0, (0, 0, 0, 0, 0, 0)), (61, .aload_n 0, 1, 0, (0, 0, 0, 0, 0, 0)), (62, .getfield 7, 3, 0, (12, 1, 16, 2, 1, 0)), (65, .iconst 4, 1, 0, (0, 0, 0, 0, 0, 4)), (66, .iload 4, 2, 0, (0, 0, 0, 0, 0, 0)), (68, .imul, 1, 0, (0, 0, 0, 0, 0, 0)), (69, .iconst 3, 1, 0, (0, 0, 0, 0, 0, 3)), (70, .iadd, 1, 0, (0, 0, 0, 0, 0, 0)), (71, .iaload, 1, 0, (13, 36, 0, 0, 0, 0)), (72, .ifCond .ge 18, 3, 0, (0, 0, 0, 0, 0, 0)), (75, .aload_n 0, 1, 0, (0, 0, 0, 0, 0, 0)), (76, .getfield 7, 3, 0, (12, 1, 16, 2, 1, 0)), (79, .iconst 4, 1, 0, (0, 0, 0, 0, 0, 4)), (80, .iload 4, 2, 0, (0, 0, 0, 0, 0, 0)), (82, .imul, 1, 0, (0, 0, 0, 0, 0, 0)), (83, .iconst 3, 1, 0, (0, 0, 0, 0, 0, 3)), (84, .iadd, 1, 0, (0, 0, 0, 0, 0, 0)), (85, .iaload, 1, 0, (13, 36, 0, 0, 0, 0)), (86, .ineg, 1, 0, (0, 0, 0, 0, 0, 0)), (87, .goto 4, 3, 0, (0, 0, 0, 0, 0, 0)), (90, .iconst 0, 1, 0, (0, 0, 0, 0, 0, 0)), (91, .istore 5, 2, 0, (0, 0, 0, 0, 0, 0)), (93, .iload_n 3, 1, 0, (0, 0, 0, 0, 0, 0)), (94, .iload 5, 2, 0, (0, 0, 0, 0, 0, 0)), (96, .if_icmp .ge 6, 3, 0, (0, 0, 0, 0, 0, 0)), (99, .iload 4, 2, 0, (0, 0, 0, 0, 0, 0)), (101, .ireturn, 1, 0, (0, 0, 0, 0, 0, 0)), (102, .iload_n 3, 1, 0, (0, 0, 0, 0, 0, 0)), (103, .iload 5, 2, 0, (0, 0, 0, 0, 0, 0)), (105, .isub, 1, 0, (0, 0, 0, 0, 0, 0)), (106, .istore_n 3, 1, 0, (0, 0, 0, 0, 0, 0)), (107, .iinc 4 1, 3, 0, (0, 0, 0, 0, 0, 1)), (110, .goto (-56), 3, 0, (0, 0, 0, 0, 0, 0)), (113, .iconst (-1), 1, 0, (0, 0, 0, 0, 0, -1)), (114, .ireturn, 1, 0, (0, 0, 0, 0, 0, 0))]
set_option maxRecDepth 100000 in
theorem rk303 : R303.all (rok 2 303 1 []) = true := by decide +kernel
set_option maxRecDepth 100000 in
theorem tab303 : TabOK 2 303 1 [] R303 := tab_ok (K := K303) rfl rfl (fun h => d303 h) rk303 (by decide +kernel)
set_option maxRecDepth 100000 in
theorem pc303 : cutpc [4, 54] R303 = true := by decide +kernel
set_option maxRecDepth 100000 in
theorem r12_drawn_54 (p : PM) (hg : Gr 2 p) (kv54 : Int32 → Int32 → Int32) (kg54 : Int32 → Int32 → Prop) (hk54 : ∀ (v3 : Int32) (v4 : Int32) (d1 d2 d5 : ZV), kg54 v3 v4 → ZJ 2 303 54 [zR 12 1, d1, d2, zI v3, zI v4, d5] [] p (hoI p (kv54 v3 v4))) : ∀ (v3 : Int32) (v4 : Int32) (d1 d2 d5 : ZV), bg12_drawn_54 p kg54 v3 v4 → ZJ 2 303 54 [zR 12 1, d1, d2, zI v3, zI v4, d5] [] p (hoI p (bv12_drawn_54 p kv54 v3 v4)) := by
  intro v3 v4 d1 d2 d5 H
  exact roI (n := 3000) (q := 54) (la := [zR 12 1, d1, d2, zI v3, zI v4, d5]) (sa := []) (ks := [fun _ _ _ => 0, fun la sa _ => kv54 (ai la 3) (ai la 4)]) (gs := [fun _ _ _ => False, fun la sa _ => zsw (tc2 la [(112, 1), (2, 0), (2, 0), (0, 0), (0, 0), (2, 0)] && tc2 sa []) False (kg54 (ai la 3) (ai la 4))]) (fnil) tab303 pc303 ⟨fun _ _ _ _ H => H.elim, fun la sa s hg H => zcut H fun H => hk54 (ai la 3) (ai la 4) (zld la 1) (zld la 2) (zld la 5) H, trivial⟩ hg H
theorem t12_drawn_54 (p : PM) (hg : Gr 2 p) : ∀ (n : Nat), ∀ (v3 : Int32) (v4 : Int32) (d1 d2 d5 : ZV), g12_drawn_54 p n v3 v4 → ZJ 2 303 54 [zR 12 1, d1, d2, zI v3, zI v4, d5] [] p (hoI p (v12_drawn_54 p n v3 v4)) := by
  intro n
  induction n with
  | zero =>
    intro v3 v4 d1 d2 d5 H
    exact H.elim
  | succ n ih => exact r12_drawn_54 p hg (v12_drawn_54 p n) (g12_drawn_54 p n) ih
set_option maxRecDepth 100000 in
theorem r12_drawn_4 (p : PM) (hg : Gr 2 p) (kv4 : Int32 → Int32 → Int32 → Int32) (kg4 : Int32 → Int32 → Int32 → Prop) (hk4 : ∀ (v1 : Int32) (v2 : Int32) (v3 : Int32) (d4 d5 : ZV), kg4 v1 v2 v3 → ZJ 2 303 4 [zR 12 1, zI v1, zI v2, zI v3, d4, d5] [] p (hoI p (kv4 v1 v2 v3))) (kv54 : Int32 → Int32 → Int32) (kg54 : Int32 → Int32 → Prop) (hk54 : ∀ (v3 : Int32) (v4 : Int32) (d1 d2 d5 : ZV), kg54 v3 v4 → ZJ 2 303 54 [zR 12 1, d1, d2, zI v3, zI v4, d5] [] p (hoI p (kv54 v3 v4))) : ∀ (v1 : Int32) (v2 : Int32) (v3 : Int32) (d4 d5 : ZV), bg12_drawn_4 p kg4 kg54 v1 v2 v3 → ZJ 2 303 4 [zR 12 1, zI v1, zI v2, zI v3, d4, d5] [] p (hoI p (bv12_drawn_4 p kv4 kv54 v1 v2 v3)) := by
  intro v1 v2 v3 d4 d5 H
  exact roI (n := 3000) (q := 4) (la := [zR 12 1, zI v1, zI v2, zI v3, d4, d5]) (sa := []) (ks := [fun la sa _ => kv4 (ai la 1) (ai la 2) (ai la 3), fun la sa _ => kv54 (ai la 3) (ai la 4)]) (gs := [fun la sa _ => zsw (tc2 la [(112, 1), (0, 0), (0, 0), (0, 0), (2, 0), (2, 0)] && tc2 sa []) False (kg4 (ai la 1) (ai la 2) (ai la 3)), fun la sa _ => zsw (tc2 la [(112, 1), (2, 0), (2, 0), (0, 0), (0, 0), (2, 0)] && tc2 sa []) False (kg54 (ai la 3) (ai la 4))]) (fnil) tab303 pc303 ⟨fun la sa s hg H => zcut H fun H => hk4 (ai la 1) (ai la 2) (ai la 3) (zld la 4) (zld la 5) H, fun la sa s hg H => zcut H fun H => hk54 (ai la 3) (ai la 4) (zld la 1) (zld la 2) (zld la 5) H, trivial⟩ hg H
theorem t12_drawn_4 (p : PM) (hg : Gr 2 p) : ∀ (n : Nat), ∀ (v1 : Int32) (v2 : Int32) (v3 : Int32) (d4 d5 : ZV), g12_drawn_4 p n v1 v2 v3 → ZJ 2 303 4 [zR 12 1, zI v1, zI v2, zI v3, d4, d5] [] p (hoI p (v12_drawn_4 p n v1 v2 v3)) := by
  intro n
  induction n with
  | zero =>
    intro v1 v2 v3 d4 d5 H
    exact H.elim
  | succ n ih => exact r12_drawn_4 p hg (v12_drawn_4 p n) (g12_drawn_4 p n) ih (v12_drawn_54 p FU) (g12_drawn_54 p FU) (t12_drawn_54 p hg FU)
set_option maxRecDepth 100000 in
theorem r12_drawn (p : PM) (hg : Gr 2 p) (kv4 : Int32 → Int32 → Int32 → Int32) (kg4 : Int32 → Int32 → Int32 → Prop) (hk4 : ∀ (v1 : Int32) (v2 : Int32) (v3 : Int32) (d4 d5 : ZV), kg4 v1 v2 v3 → ZJ 2 303 4 [zR 12 1, zI v1, zI v2, zI v3, d4, d5] [] p (hoI p (kv4 v1 v2 v3))) : ∀ (v1 : Int32), bg12_drawn p kg4 v1 → ZJ 2 303 0 [zR 12 1, zI v1, zJ, zJ, zJ, zJ] [] p (hoI p (bv12_drawn p kv4 v1)) := by
  intro v1  H
  exact roI (n := 3000) (q := 0) (la := [zR 12 1, zI v1, zJ, zJ, zJ, zJ]) (sa := []) (ks := [fun la sa _ => kv4 (ai la 1) (ai la 2) (ai la 3), fun _ _ _ => 0]) (gs := [fun la sa _ => zsw (tc2 la [(112, 1), (0, 0), (0, 0), (0, 0), (2, 0), (2, 0)] && tc2 sa []) False (kg4 (ai la 1) (ai la 2) (ai la 3)), fun _ _ _ => False]) (fnil) tab303 pc303 ⟨fun la sa s hg H => zcut H fun H => hk4 (ai la 1) (ai la 2) (ai la 3) (zld la 4) (zld la 5) H, fun _ _ _ _ H => H.elim, trivial⟩ hg H
theorem t12_drawn (p : PM) (hg : Gr 2 p) : ∀ (v1 : Int32), g12_drawn p v1 → ZJ 2 303 0 [zR 12 1, zI v1, zJ, zJ, zJ, zJ] [] p (hoI p (v12_drawn p v1)) := r12_drawn p hg (v12_drawn_4 p FU) (g12_drawn_4 p FU) (t12_drawn_4 p hg FU)
def CC303 (F : PM → Int32 → Int32) (G : PM → Int32 → Prop) : Cal := (303, [15, 0], 1, true, fun as p => (zI (F p (ai as 1)), p), fun as p => zsw (tc2 as [(112, 1), (0, 0)]) False (G p (ai as 1)))
set_option maxRecDepth 100000 in
theorem okr303 (F : PM → Int32 → Int32) (G : PM → Int32 → Prop) (h : ∀ (p : PM) (v1 : Int32), Gr 2 p → G p v1 → ZJ 2 303 0 [zR 12 1, zI v1, zJ, zJ, zJ, zJ] [] p (hoI p (F p v1))) : CalOK 2 (CC303 F G) := cal_ok (m := 6) (by unfold mL; rw [mX_303]) (fun as p hg H => h p (ai as 1) hg H)
theorem ok303 : CalOK 2 (CC303 v12_drawn g12_drawn) := okr303 v12_drawn g12_drawn (fun p v1 hg H => t12_drawn p hg v1 H)
noncomputable def bv12_doExercise_117 (F232 : PM → Int32 → Int32 → Int32 → Int32 → PM) (F303 : PM → Int32 → Int32) (kv117 : PM → Int32 → Int32 → Int32 → Int32 → Int32 × PM) (p : PM) (v2 : Int32) (v4 : Int32) (v5 : Int32) (v6 : Int32) : Int32 × PM :=
  if v6 < v2 then (
    let x1 : Int32 := (irm (((cn 421) * v4) + (cn 1663)) (cn 7875))
    let p2 : PM := pI p 13 1 ((((cn 4) * (F303 p x1)) + (cn 3))).toNatClampNeg ((p.1 13 1 ((((cn 4) * (F303 p x1)) + (cn 3))).toNatClampNeg) + (cn 1))
    let p3 : PM := F232 p2 (F303 p x1) (cn 0) (cn (-1)) (cn 100)
    kv117 p3 v2 x1 (F303 p x1) (v6 + (cn 1)))
  else (
    (v5, p))
noncomputable def v12_doExercise_117 (n : Nat) : PM → Int32 → Int32 → Int32 → Int32 → Int32 × PM := Nat.rec (motive := fun _ => PM → Int32 → Int32 → Int32 → Int32 → Int32 × PM) (fun p _ _ _ _ => (0, p)) (fun _ ih => bv12_doExercise_117 v12_holds v12_drawn ih) n
theorem ev12_doExercise_117 (n : Nat) (p : PM) (v2 : Int32) (v4 : Int32) (v5 : Int32) (v6 : Int32) : v12_doExercise_117 (n + 1) p v2 v4 v5 v6 = bv12_doExercise_117 v12_holds v12_drawn (v12_doExercise_117 n) p v2 v4 v5 v6 := rfl
noncomputable def bg12_doExercise_117 (F232 : PM → Int32 → Int32 → Int32 → Int32 → PM) (G232 : PM → Int32 → Int32 → Int32 → Int32 → Prop) (F303 : PM → Int32 → Int32) (G303 : PM → Int32 → Prop) (kg117 : PM → Int32 → Int32 → Int32 → Int32 → Prop) (p : PM) (v2 : Int32) (v4 : Int32) (v5 : Int32) (v6 : Int32) : Prop :=
  if v6 < v2 then (
    let x1 : Int32 := (irm (((cn 421) * v4) + (cn 1663)) (cn 7875))
    (G303 p x1) ∧ (
    (inb (((cn 4) * (F303 p x1)) + (cn 3)) 36) ∧ (
    (inb (((cn 4) * (F303 p x1)) + (cn 3)) 36) ∧ (
    let p2 : PM := pI p 13 1 ((((cn 4) * (F303 p x1)) + (cn 3))).toNatClampNeg ((p.1 13 1 ((((cn 4) * (F303 p x1)) + (cn 3))).toNatClampNeg) + (cn 1))
    (G232 p2 (F303 p x1) (cn 0) (cn (-1)) (cn 100)) ∧ (
    let p3 : PM := F232 p2 (F303 p x1) (cn 0) (cn (-1)) (cn 100)
    kg117 p3 v2 x1 (F303 p x1) (v6 + (cn 1)))))))
  else (
    True)
noncomputable def g12_doExercise_117 (n : Nat) : PM → Int32 → Int32 → Int32 → Int32 → Prop := Nat.rec (motive := fun _ => PM → Int32 → Int32 → Int32 → Int32 → Prop) (fun _ _ _ _ _ => False) (fun _ ih => bg12_doExercise_117 v12_holds g12_holds v12_drawn g12_drawn ih) n
theorem eg12_doExercise_117 (n : Nat) (p : PM) (v2 : Int32) (v4 : Int32) (v5 : Int32) (v6 : Int32) : g12_doExercise_117 (n + 1) p v2 v4 v5 v6 = bg12_doExercise_117 v12_holds g12_holds v12_drawn g12_drawn (g12_doExercise_117 n) p v2 v4 v5 v6 := rfl
noncomputable def bv12_doExercise (F215 : PM → Int32 → Int32 → Int32 → Int32) (F232 : PM → Int32 → Int32 → Int32 → Int32 → PM) (kv117 : PM → Int32 → Int32 → Int32 → Int32 → Int32 × PM) (p : PM) (v1 : Int32) (v2 : Int32) (v3 : Int32) : Int32 × PM :=
  if (F215 p v1 (cn 0) (cn 8)) = 0 then (
    let p19 : PM := pI p 12 1 0 (cn 1)
    if (p19.1 12 1 0) = 0 then (
      let p20 : PM := pI p19 13 1 ((((cn 4) * v1) + (cn 3))).toNatClampNeg ((p19.1 13 1 ((((cn 4) * v1) + (cn 3))).toNatClampNeg) - v2)
      let p21 : PM := F232 p20 v1 (cn 0) v2 (cn 100)
      kv117 p21 v2 v3 (cn 0) (cn 0))
    else (
      ((cn 0), p19)))
  else (
    if (F215 p v2 (cn 1) (cn 99)) = 0 then (
      let p1 : PM := pI p 12 1 0 (cn 2)
      if (p1.1 12 1 0) = 0 then (
        let p2 : PM := pI p1 13 1 ((((cn 4) * v1) + (cn 3))).toNatClampNeg ((p1.1 13 1 ((((cn 4) * v1) + (cn 3))).toNatClampNeg) - v2)
        let p3 : PM := F232 p2 v1 (cn 0) v2 (cn 100)
        kv117 p3 v2 v3 (cn 0) (cn 0))
      else (
        ((cn 0), p1)))
    else (
      if (F215 p v3 (cn 0) (cn 7874)) = 0 then (
        let p16 : PM := pI p 12 1 0 (cn 2)
        if (p16.1 12 1 0) = 0 then (
          let p17 : PM := pI p16 13 1 ((((cn 4) * v1) + (cn 3))).toNatClampNeg ((p16.1 13 1 ((((cn 4) * v1) + (cn 3))).toNatClampNeg) - v2)
          let p18 : PM := F232 p17 v1 (cn 0) v2 (cn 100)
          kv117 p18 v2 v3 (cn 0) (cn 0))
        else (
          ((cn 0), p16)))
      else (
        if (F215 p v1 (cn 0) (cn 8)) = 0 then (
          if (p.1 13 1 ((((cn 4) * (cn 0)) + (cn 3))).toNatClampNeg) < v2 then (
            let p7 : PM := pI p 12 1 0 (cn 3)
            if (p7.1 12 1 0) = 0 then (
              let p8 : PM := pI p7 13 1 ((((cn 4) * v1) + (cn 3))).toNatClampNeg ((p7.1 13 1 ((((cn 4) * v1) + (cn 3))).toNatClampNeg) - v2)
              let p9 : PM := F232 p8 v1 (cn 0) v2 (cn 100)
              kv117 p9 v2 v3 (cn 0) (cn 0))
            else (
              ((cn 0), p7)))
          else (
            let p4 : PM := pI p 12 1 0 (cn 0)
            if (p4.1 12 1 0) = 0 then (
              let p5 : PM := pI p4 13 1 ((((cn 4) * v1) + (cn 3))).toNatClampNeg ((p4.1 13 1 ((((cn 4) * v1) + (cn 3))).toNatClampNeg) - v2)
              let p6 : PM := F232 p5 v1 (cn 0) v2 (cn 100)
              kv117 p6 v2 v3 (cn 0) (cn 0))
            else (
              ((cn 0), p4))))
        else (
          if (p.1 13 1 ((((cn 4) * v1) + (cn 3))).toNatClampNeg) < v2 then (
            let p13 : PM := pI p 12 1 0 (cn 3)
            if (p13.1 12 1 0) = 0 then (
              let p14 : PM := pI p13 13 1 ((((cn 4) * v1) + (cn 3))).toNatClampNeg ((p13.1 13 1 ((((cn 4) * v1) + (cn 3))).toNatClampNeg) - v2)
              let p15 : PM := F232 p14 v1 (cn 0) v2 (cn 100)
              kv117 p15 v2 v3 (cn 0) (cn 0))
            else (
              ((cn 0), p13)))
          else (
            let p10 : PM := pI p 12 1 0 (cn 0)
            if (p10.1 12 1 0) = 0 then (
              let p11 : PM := pI p10 13 1 ((((cn 4) * v1) + (cn 3))).toNatClampNeg ((p10.1 13 1 ((((cn 4) * v1) + (cn 3))).toNatClampNeg) - v2)
              let p12 : PM := F232 p11 v1 (cn 0) v2 (cn 100)
              kv117 p12 v2 v3 (cn 0) (cn 0))
            else (
              ((cn 0), p10)))))))
noncomputable def v12_doExercise (p : PM) (v1 : Int32) (v2 : Int32) (v3 : Int32) : Int32 × PM := bv12_doExercise v12_in v12_holds (v12_doExercise_117 FU) p v1 v2 v3
noncomputable def bg12_doExercise (F215 : PM → Int32 → Int32 → Int32 → Int32) (G215 : PM → Int32 → Int32 → Int32 → Prop) (F232 : PM → Int32 → Int32 → Int32 → Int32 → PM) (G232 : PM → Int32 → Int32 → Int32 → Int32 → Prop) (kg117 : PM → Int32 → Int32 → Int32 → Int32 → Prop) (p : PM) (v1 : Int32) (v2 : Int32) (v3 : Int32) : Prop :=
  (G215 p v1 (cn 0) (cn 8)) ∧ (
  if (F215 p v1 (cn 0) (cn 8)) = 0 then (
    let p19 : PM := pI p 12 1 0 (cn 1)
    if (p19.1 12 1 0) = 0 then (
      (inb (((cn 4) * v1) + (cn 3)) 36) ∧ (
      (inb (((cn 4) * v1) + (cn 3)) 36) ∧ (
      let p20 : PM := pI p19 13 1 ((((cn 4) * v1) + (cn 3))).toNatClampNeg ((p19.1 13 1 ((((cn 4) * v1) + (cn 3))).toNatClampNeg) - v2)
      (G232 p20 v1 (cn 0) v2 (cn 100)) ∧ (
      let p21 : PM := F232 p20 v1 (cn 0) v2 (cn 100)
      kg117 p21 v2 v3 (cn 0) (cn 0)))))
    else (
      True))
  else (
    (G215 p v2 (cn 1) (cn 99)) ∧ (
    if (F215 p v2 (cn 1) (cn 99)) = 0 then (
      let p1 : PM := pI p 12 1 0 (cn 2)
      if (p1.1 12 1 0) = 0 then (
        (inb (((cn 4) * v1) + (cn 3)) 36) ∧ (
        (inb (((cn 4) * v1) + (cn 3)) 36) ∧ (
        let p2 : PM := pI p1 13 1 ((((cn 4) * v1) + (cn 3))).toNatClampNeg ((p1.1 13 1 ((((cn 4) * v1) + (cn 3))).toNatClampNeg) - v2)
        (G232 p2 v1 (cn 0) v2 (cn 100)) ∧ (
        let p3 : PM := F232 p2 v1 (cn 0) v2 (cn 100)
        kg117 p3 v2 v3 (cn 0) (cn 0)))))
      else (
        True))
    else (
      (G215 p v3 (cn 0) (cn 7874)) ∧ (
      if (F215 p v3 (cn 0) (cn 7874)) = 0 then (
        let p16 : PM := pI p 12 1 0 (cn 2)
        if (p16.1 12 1 0) = 0 then (
          (inb (((cn 4) * v1) + (cn 3)) 36) ∧ (
          (inb (((cn 4) * v1) + (cn 3)) 36) ∧ (
          let p17 : PM := pI p16 13 1 ((((cn 4) * v1) + (cn 3))).toNatClampNeg ((p16.1 13 1 ((((cn 4) * v1) + (cn 3))).toNatClampNeg) - v2)
          (G232 p17 v1 (cn 0) v2 (cn 100)) ∧ (
          let p18 : PM := F232 p17 v1 (cn 0) v2 (cn 100)
          kg117 p18 v2 v3 (cn 0) (cn 0)))))
        else (
          True))
      else (
        (G215 p v1 (cn 0) (cn 8)) ∧ (
        if (F215 p v1 (cn 0) (cn 8)) = 0 then (
          (inb (((cn 4) * (cn 0)) + (cn 3)) 36) ∧ (
          if (p.1 13 1 ((((cn 4) * (cn 0)) + (cn 3))).toNatClampNeg) < v2 then (
            let p7 : PM := pI p 12 1 0 (cn 3)
            if (p7.1 12 1 0) = 0 then (
              (inb (((cn 4) * v1) + (cn 3)) 36) ∧ (
              (inb (((cn 4) * v1) + (cn 3)) 36) ∧ (
              let p8 : PM := pI p7 13 1 ((((cn 4) * v1) + (cn 3))).toNatClampNeg ((p7.1 13 1 ((((cn 4) * v1) + (cn 3))).toNatClampNeg) - v2)
              (G232 p8 v1 (cn 0) v2 (cn 100)) ∧ (
              let p9 : PM := F232 p8 v1 (cn 0) v2 (cn 100)
              kg117 p9 v2 v3 (cn 0) (cn 0)))))
            else (
              True))
          else (
            let p4 : PM := pI p 12 1 0 (cn 0)
            if (p4.1 12 1 0) = 0 then (
              (inb (((cn 4) * v1) + (cn 3)) 36) ∧ (
              (inb (((cn 4) * v1) + (cn 3)) 36) ∧ (
              let p5 : PM := pI p4 13 1 ((((cn 4) * v1) + (cn 3))).toNatClampNeg ((p4.1 13 1 ((((cn 4) * v1) + (cn 3))).toNatClampNeg) - v2)
              (G232 p5 v1 (cn 0) v2 (cn 100)) ∧ (
              let p6 : PM := F232 p5 v1 (cn 0) v2 (cn 100)
              kg117 p6 v2 v3 (cn 0) (cn 0)))))
            else (
              True))))
        else (
          (inb (((cn 4) * v1) + (cn 3)) 36) ∧ (
          if (p.1 13 1 ((((cn 4) * v1) + (cn 3))).toNatClampNeg) < v2 then (
            let p13 : PM := pI p 12 1 0 (cn 3)
            if (p13.1 12 1 0) = 0 then (
              (inb (((cn 4) * v1) + (cn 3)) 36) ∧ (
              (inb (((cn 4) * v1) + (cn 3)) 36) ∧ (
              let p14 : PM := pI p13 13 1 ((((cn 4) * v1) + (cn 3))).toNatClampNeg ((p13.1 13 1 ((((cn 4) * v1) + (cn 3))).toNatClampNeg) - v2)
              (G232 p14 v1 (cn 0) v2 (cn 100)) ∧ (
              let p15 : PM := F232 p14 v1 (cn 0) v2 (cn 100)
              kg117 p15 v2 v3 (cn 0) (cn 0)))))
            else (
              True))
          else (
            let p10 : PM := pI p 12 1 0 (cn 0)
            if (p10.1 12 1 0) = 0 then (
              (inb (((cn 4) * v1) + (cn 3)) 36) ∧ (
              (inb (((cn 4) * v1) + (cn 3)) 36) ∧ (
              let p11 : PM := pI p10 13 1 ((((cn 4) * v1) + (cn 3))).toNatClampNeg ((p10.1 13 1 ((((cn 4) * v1) + (cn 3))).toNatClampNeg) - v2)
              (G232 p11 v1 (cn 0) v2 (cn 100)) ∧ (
              let p12 : PM := F232 p11 v1 (cn 0) v2 (cn 100)
              kg117 p12 v2 v3 (cn 0) (cn 0)))))
            else (
              True)))))))))))
noncomputable def g12_doExercise (p : PM) (v1 : Int32) (v2 : Int32) (v3 : Int32) : Prop := bg12_doExercise v12_in g12_in v12_holds g12_holds (g12_doExercise_117 FU) p v1 v2 v3
def R302 : List Row := [(0, .aload_n 0, 1, 0, (0, 0, 0, 0, 0, 0)), (1, .iload_n 1, 1, 0, (0, 0, 0, 0, 0, 0)), (2, .iconst 0, 1, 0, (0, 0, 0, 0, 0, 0)), (3, .bipush 8, 2, 0, (0, 0, 0, 0, 0, 8)), (5, .invokestatic 209, 3, 0, (0, 3, 0, 0, 0, 0)), (8, .ifCond .ne 7, 3, 0, (0, 0, 0, 0, 0, 0)), (11, .iconst 1, 1, 0, (0, 0, 0, 0, 0, 1)), (12, .goto 61, 3, 0, (0, 0, 0, 0, 0, 0)), (15, .iload_n 2, 1, 0, (0, 0, 0, 0, 0, 0)), (16, .iconst 1, 1, 0, (0, 0, 0, 0, 0, 1)), (17, .bipush 99, 2, 0, (0, 0, 0, 0, 0, 99)), (19, .invokestatic 209, 3, 0, (0, 3, 0, 0, 0, 0)), (22, .ifCond .eq 14, 3, 0, (0, 0, 0, 0, 0, 0)), (25, .iload_n 3, 1, 0, (0, 0, 0, 0, 0, 0)), (26, .iconst 0, 1, 0, (0, 0, 0, 0, 0, 0)), (27, .sipush 7874, 3, 0, (0, 0, 0, 0, 0, 7874)), (30, .invokestatic 209, 3, 0, (0, 3, 0, 0, 0, 0)), (33, .ifCond .ne 7, 3, 0, (0, 0, 0, 0, 0, 0)), (36, .iconst 2, 1, 0, (0, 0, 0, 0, 0, 2)), (37, .goto 36, 3, 0, (0, 0, 0, 0, 0, 0)), (40, .aload_n 0, 1, 0, (0, 0, 0, 0, 0, 0)), (41, .getfield 7, 3, 0, (12, 1, 16, 2, 1, 0)), (44, .iconst 4, 1, 0, (0, 0, 0, 0, 0, 4)), (45, .iload_n 1, 1, 0, (0, 0, 0, 0, 0, 0)), (46, .iconst 0, 1, 0, (0, 0, 0, 0, 0, 0)), (47, .bipush 8, 2, 0, (0, 0, 0, 0, 0, 8)), (49, .invokestatic 209, 3, 0, (0, 3, 0, 0, 0, 0)), (52, .ifCond .eq 7, 3, 0, (0, 0, 0, 0, 0, 0)), (55, .iload_n 1, 1, 0, (0, 0, 0, 0, 0, 0)), (56, .goto 4, 3, 0, (0, 0, 0, 0, 0, 0)), (59, .iconst 0, 1, 0, (0, 0, 0, 0, 0, 0)), (60, .imul, 1, 0, (0, 0, 0, 0, 0, 0)), (61, .iconst 3, 1, 0, (0, 0, 0, 0, 0, 3)), (62, .iadd, 1, 0, (0, 0, 0, 0, 0, 0)), (63, .iaload, 1, 0, (13, 36, 0, 0, 0, 0)), (64, .iload_n 2, 1, 0, (0, 0, 0, 0, 0, 0)), (65, .if_icmp .ge 7, 3, 0, (0, 0, 0, 0, 0, 0)), (68, .iconst 3, 1, 0, (0, 0, 0, 0, 0, 3)), (69, .goto 4, 3, 0, (0, 0, 0, 0, 0, 0)), (72, .iconst 0, 1, 0, (0, 0, 0, 0, 0, 0)), (73, .putfield 180, 3, 0, (12, 0, 0, 1, 0, 0)), (76, .aload_n 0, 1, 0, (0, 0, 0, 0, 0, 0)), (77, .getfield 180, 3, 0, (12, 0, 0, 1, 0, 0)), (80, .ifCond .eq 5, 3, 0, (0, 0, 0, 0, 0, 0)), (83, .iconst 0, 1, 0, (0, 0, 0, 0, 0, 0)), (84, .ireturn, 1, 0, (0, 0, 0, 0, 0, 0)), (85, .aload_n 0, 1, 0, (0, 0, 0, 0, 0, 0)), (86, .getfield 7, 3, 0, (12, 1, 16, 2, 1, 0)), (89, .iconst 4, 1, 0, (0, 0, 0, 0, 0, 4)), (90, .iload_n 1, 1, 0, (0, 0, 0, 0, 0, 0)), (91, .imul, 1, 0, (0, 0, 0, 0, 0, 0)), (92, .iconst 3, 1, 0, (0, 0, 0, 0, 0, 3)), (93, .iadd, 1, 0, (0, 0, 0, 0, 0, 0)), (94, .dup2, 1, 0, (0, 0, 0, 0, 0, 0)), (95, .iaload, 1, 0, (13, 36, 0, 0, 0, 0)), (96, .iload_n 2, 1, 0, (0, 0, 0, 0, 0, 0)), (97, .isub, 1, 0, (0, 0, 0, 0, 0, 0)), (98, .iastore, 1, 0, (13, 36, 0, 0, 0, 0)), (99, .aload_n 0, 1, 0, (0, 0, 0, 0, 0, 0)), (100, .iload_n 1, 1, 0, (0, 0, 0, 0, 0, 0)), (101, .iconst 0, 1, 0, (0, 0, 0, 0, 0, 0)), (102, .iload_n 2, 1, 0, (0, 0, 0, 0, 0, 0)), (103, .bipush 100, 2, 0, (0, 0, 0, 0, 0, 100)), (105, .invokevirtual 236, 3, 0, (1, 5, 0, 0, 1, 0)), (108, .iload_n 3, 1, 0, (0, 0, 0, 0, 0, 0)), (109, .istore 4, 2, 0, (0, 0, 0, 0, 0, 0)), (111, .iconst 0, 1, 0, (0, 0, 0, 0, 0, 0)), (112, .istore 5, 2, 0, (0, 0, 0, 0, 0, 0)), (114, .iconst 0, 1, 0, (0, 0, 0, 0, 0, 0)), (115, .istore 6, 2, 0, (0, 0, 0, 0, 0, 0)), (117, .iload 6, 2, 1, (0, 0, 0, 0, 0, 0)), (119, .iload_n 2, 1, 0, (0, 0, 0, 0, 0, 0)), (120, .if_icmp .ge 58, 3, 0, (0, 0, 0, 0, 0, 0)), (123, .sipush 421, 3, 0, (0, 0, 0, 0, 0, 421)), (126, .iload 4, 2, 0, (0, 0, 0, 0, 0, 0)), (128, .imul, 1, 0, (0, 0, 0, 0, 0, 0)), (129, .sipush 1663, 3, 0, (0, 0, 0, 0, 0, 1663)), (132, .iadd, 1, 0, (0, 0, 0, 0, 0, 0)), (133, .sipush 7875, 3, 0, (0, 0, 0, 0, 0, 7875)), (136, .irem, 1, 0, (0, 0, 0, 0, 0, 0)), (137, .istore 4, 2, 0, (0, 0, 0, 0, 0, 0)), (139, .aload_n 0, 1, 0, (0, 0, 0, 0, 0, 0)), (140, .iload 4, 2, 0, (0, 0, 0, 0, 0, 0)), (142, .invokevirtual 461, 3, 0, (2, 2, 0, 0, 1, 0)), (145, .istore 5, 2, 0, (0, 0, 0, 0, 0, 0)), (147, .aload_n 0, 1, 0, (0, 0, 0, 0, 0, 0)), (148, .getfield 7, 3, 0, (12, 1, 16, 2, 1, 0)), (151, .iconst 4, 1, 0, (0, 0, 0, 0, 0, 4)), (152, .iload 5, 2, 0, (0, 0, 0, 0, 0, 0)), (154, .imul, 1, 0, (0, 0, 0, 0, 0, 0)), (155, .iconst 3, 1, 0, (0, 0, 0, 0, 0, 3)), (156, .iadd, 1, 0, (0, 0, 0, 0, 0, 0)), (157, .dup2, 1, 0, (0, 0, 0, 0, 0, 0)), (158, .iaload, 1, 0, (13, 36, 0, 0, 0, 0)), (159, .iconst 1, 1, 0, (0, 0, 0, 0, 0, 1)), (160, .iadd, 1, 0, (0, 0, 0, 0, 0, 0)), (161, .iastore, 1, 0, (13, 36, 0, 0, 0, 0)), (162, .aload_n 0, 1, 0, (0, 0, 0, 0, 0, 0)), (163, .iload 5, 2, 0, (0, 0, 0, 0, 0, 0)), (165, .iconst 0, 1, 0, (0, 0, 0, 0, 0, 0)), (166, .iconst (-1), 1, 0, (0, 0, 0, 0, 0, -1)), (167, .bipush 100, 2, 0, (0, 0, 0, 0, 0, 100)), (169, .invokevirtual 236, 3, 0, (1, 5, 0, 0, 1, 0)), (172, .iinc 6 1, 3, 0, (0, 0, 0, 0, 0, 1)), (175, .goto (-58), 3, 0, (0, 0, 0, 0, 0, 0)), (178, .iload 5, 2, 0, (0, 0, 0, 0, 0, 0)), (180, .ireturn, 1, 0, (0, 0, 0, 0, 0, 0))]
set_option maxRecDepth 100000 in
theorem rk302 : R302.all (rok 2 302 1 [(215, [0, 0, 0]), (232, [15, 0, 0, 0, 0]), (303, [15, 0])]) = true := by decide +kernel
set_option maxRecDepth 100000 in
theorem tab302 {F215 : PM → Int32 → Int32 → Int32 → Int32} {G215 : PM → Int32 → Int32 → Int32 → Prop} {F232 : PM → Int32 → Int32 → Int32 → Int32 → PM} {G232 : PM → Int32 → Int32 → Int32 → Int32 → Prop} {F303 : PM → Int32 → Int32} {G303 : PM → Int32 → Prop} : TabOK 2 302 1 [CC215 F215 G215, CC232 F232 G232, CC303 F303 G303] R302 := tab_ok (K := K302) rfl rfl (fun h => d302 h) rk302 (by decide +kernel)
set_option maxRecDepth 100000 in
theorem pc302 : cutpc [117] R302 = true := by decide +kernel
set_option maxRecDepth 100000 in
theorem r12_doExercise_117 (F215 : PM → Int32 → Int32 → Int32 → Int32) (G215 : PM → Int32 → Int32 → Int32 → Prop) (o215 : CalOK 2 (CC215 F215 G215)) (F232 : PM → Int32 → Int32 → Int32 → Int32 → PM) (G232 : PM → Int32 → Int32 → Int32 → Int32 → Prop) (o232 : CalOK 2 (CC232 F232 G232)) (F303 : PM → Int32 → Int32) (G303 : PM → Int32 → Prop) (o303 : CalOK 2 (CC303 F303 G303)) (kv117 : PM → Int32 → Int32 → Int32 → Int32 → Int32 × PM) (kg117 : PM → Int32 → Int32 → Int32 → Int32 → Prop) (hk117 : ∀ (p : PM) (v2 : Int32) (v4 : Int32) (v5 : Int32) (v6 : Int32) (d1 d3 : ZV), Gr 2 p → kg117 p v2 v4 v5 v6 → ZJ 2 302 117 [zR 12 1, d1, zI v2, d3, zI v4, zI v5, zI v6] [] p (hwI (kv117 p v2 v4 v5 v6))) : ∀ (p : PM) (v2 : Int32) (v4 : Int32) (v5 : Int32) (v6 : Int32) (d1 d3 : ZV), Gr 2 p → bg12_doExercise_117 F232 G232 F303 G303 kg117 p v2 v4 v5 v6 → ZJ 2 302 117 [zR 12 1, d1, zI v2, d3, zI v4, zI v5, zI v6] [] p (hwI (bv12_doExercise_117 F232 F303 kv117 p v2 v4 v5 v6)) := by
  intro p v2 v4 v5 v6 d1 d3 hg H
  exact rwI (n := 3000) (q := 117) (la := [zR 12 1, d1, zI v2, d3, zI v4, zI v5, zI v6]) (sa := []) (ks := [fun la sa s => kv117 s (ai la 2) (ai la 4) (ai la 5) (ai la 6)]) (gs := [fun la sa s => zsw (tc2 la [(112, 1), (2, 0), (0, 0), (2, 0), (0, 0), (0, 0), (0, 0)] && tc2 sa []) False (kg117 s (ai la 2) (ai la 4) (ai la 5) (ai la 6))]) (fcons o215 (fcons o232 (fcons o303 (fnil)))) tab302 pc302 ⟨fun la sa s hg H => zcut H fun H => hk117 s (ai la 2) (ai la 4) (ai la 5) (ai la 6) (zld la 1) (zld la 3) hg H, trivial⟩ hg H
theorem t12_doExercise_117 : ∀ (n : Nat), ∀ (p : PM) (v2 : Int32) (v4 : Int32) (v5 : Int32) (v6 : Int32) (d1 d3 : ZV), Gr 2 p → g12_doExercise_117 n p v2 v4 v5 v6 → ZJ 2 302 117 [zR 12 1, d1, zI v2, d3, zI v4, zI v5, zI v6] [] p (hwI (v12_doExercise_117 n p v2 v4 v5 v6)) := by
  intro n
  induction n with
  | zero =>
    intro p v2 v4 v5 v6 d1 d3 hg H
    exact H.elim
  | succ n ih => exact r12_doExercise_117 v12_in g12_in ok215 v12_holds g12_holds ok232 v12_drawn g12_drawn ok303 (v12_doExercise_117 n) (g12_doExercise_117 n) ih
set_option maxRecDepth 100000 in
theorem r12_doExercise (F215 : PM → Int32 → Int32 → Int32 → Int32) (G215 : PM → Int32 → Int32 → Int32 → Prop) (o215 : CalOK 2 (CC215 F215 G215)) (F232 : PM → Int32 → Int32 → Int32 → Int32 → PM) (G232 : PM → Int32 → Int32 → Int32 → Int32 → Prop) (o232 : CalOK 2 (CC232 F232 G232)) (F303 : PM → Int32 → Int32) (G303 : PM → Int32 → Prop) (o303 : CalOK 2 (CC303 F303 G303)) (kv117 : PM → Int32 → Int32 → Int32 → Int32 → Int32 × PM) (kg117 : PM → Int32 → Int32 → Int32 → Int32 → Prop) (hk117 : ∀ (p : PM) (v2 : Int32) (v4 : Int32) (v5 : Int32) (v6 : Int32) (d1 d3 : ZV), Gr 2 p → kg117 p v2 v4 v5 v6 → ZJ 2 302 117 [zR 12 1, d1, zI v2, d3, zI v4, zI v5, zI v6] [] p (hwI (kv117 p v2 v4 v5 v6))) : ∀ (p : PM) (v1 : Int32) (v2 : Int32) (v3 : Int32), Gr 2 p → bg12_doExercise F215 G215 F232 G232 kg117 p v1 v2 v3 → ZJ 2 302 0 [zR 12 1, zI v1, zI v2, zI v3, zJ, zJ, zJ] [] p (hwI (bv12_doExercise F215 F232 kv117 p v1 v2 v3)) := by
  intro p v1 v2 v3  hg H
  exact rwI (n := 3000) (q := 0) (la := [zR 12 1, zI v1, zI v2, zI v3, zJ, zJ, zJ]) (sa := []) (ks := [fun la sa s => kv117 s (ai la 2) (ai la 4) (ai la 5) (ai la 6)]) (gs := [fun la sa s => zsw (tc2 la [(112, 1), (2, 0), (0, 0), (2, 0), (0, 0), (0, 0), (0, 0)] && tc2 sa []) False (kg117 s (ai la 2) (ai la 4) (ai la 5) (ai la 6))]) (fcons o215 (fcons o232 (fcons o303 (fnil)))) tab302 pc302 ⟨fun la sa s hg H => zcut H fun H => hk117 s (ai la 2) (ai la 4) (ai la 5) (ai la 6) (zld la 1) (zld la 3) hg H, trivial⟩ hg H
theorem t12_doExercise : ∀ (p : PM) (v1 : Int32) (v2 : Int32) (v3 : Int32), Gr 2 p → g12_doExercise p v1 v2 v3 → ZJ 2 302 0 [zR 12 1, zI v1, zI v2, zI v3, zJ, zJ, zJ] [] p (hwI (v12_doExercise p v1 v2 v3)) := r12_doExercise v12_in g12_in ok215 v12_holds g12_holds ok232 v12_drawn g12_drawn ok303 (v12_doExercise_117 FU) (g12_doExercise_117 FU) (t12_doExercise_117 FU)
def CC302 (F : PM → Int32 → Int32 → Int32 → Int32 × PM) (G : PM → Int32 → Int32 → Int32 → Prop) : Cal := (302, [15, 0, 0, 0], 1, false, fun as p => (zI (F p (ai as 1) (ai as 2) (ai as 3)).1, (F p (ai as 1) (ai as 2) (ai as 3)).2), fun as p => zsw (tc2 as [(112, 1), (0, 0), (0, 0), (0, 0)]) False (G p (ai as 1) (ai as 2) (ai as 3)))
set_option maxRecDepth 100000 in
theorem okr302 (F : PM → Int32 → Int32 → Int32 → Int32 × PM) (G : PM → Int32 → Int32 → Int32 → Prop) (h : ∀ (p : PM) (v1 : Int32) (v2 : Int32) (v3 : Int32), Gr 2 p → G p v1 v2 v3 → ZJ 2 302 0 [zR 12 1, zI v1, zI v2, zI v3, zJ, zJ, zJ] [] p (hwI (F p v1 v2 v3))) : CalOK 2 (CC302 F G) := cal_ok (m := 7) (by unfold mL; rw [mX_302]) (fun as p hg H => h p (ai as 1) (ai as 2) (ai as 3) hg H)
theorem ok302 : CalOK 2 (CC302 v12_doExercise g12_doExercise) := okr302 v12_doExercise g12_doExercise t12_doExercise
noncomputable def bv12_hasContract (p : PM) (F221 : PM → Int32 → Int32 → Int32) (v0 : Int32) (v1 : Int32) : Int32 :=
  if (F221 p v0 (cn 0)) = v1 then (
    (cn 1))
  else (
    if (F221 p v0 (cn 1)) = v1 then (
      (cn 1))
    else (
      (cn 0)))
noncomputable def v12_hasContract (p : PM) (v0 : Int32) (v1 : Int32) : Int32 := bv12_hasContract p v12_contractOf v0 v1
noncomputable def bg12_hasContract (p : PM) (F221 : PM → Int32 → Int32 → Int32) (G221 : PM → Int32 → Int32 → Prop) (v0 : Int32) (v1 : Int32) : Prop :=
  (G221 p v0 (cn 0)) ∧ (
  if (F221 p v0 (cn 0)) = v1 then (
    True)
  else (
    (G221 p v0 (cn 1)) ∧ (
    if (F221 p v0 (cn 1)) = v1 then (
      True)
    else (
      True))))
noncomputable def g12_hasContract (p : PM) (v0 : Int32) (v1 : Int32) : Prop := bg12_hasContract p v12_contractOf g12_contractOf v0 v1
def R304 : List Row := [(0, .iload_n 0, 1, 0, (0, 0, 0, 0, 0, 0)), (1, .iconst 0, 1, 0, (0, 0, 0, 0, 0, 0)), (2, .invokestatic 224, 3, 0, (0, 2, 0, 0, 0, 0)), (5, .iload_n 1, 1, 0, (0, 0, 0, 0, 0, 0)), (6, .if_icmp .eq 12, 3, 0, (0, 0, 0, 0, 0, 0)), (9, .iload_n 0, 1, 0, (0, 0, 0, 0, 0, 0)), (10, .iconst 1, 1, 0, (0, 0, 0, 0, 0, 1)), (11, .invokestatic 224, 3, 0, (0, 2, 0, 0, 0, 0)), (14, .iload_n 1, 1, 0, (0, 0, 0, 0, 0, 0)), (15, .if_icmp .ne 7, 3, 0, (0, 0, 0, 0, 0, 0)), (18, .iconst 1, 1, 0, (0, 0, 0, 0, 0, 1)), (19, .goto 4, 3, 0, (0, 0, 0, 0, 0, 0)), (22, .iconst 0, 1, 0, (0, 0, 0, 0, 0, 0)), (23, .ireturn, 1, 0, (1, 0, 0, 0, 0, 0))]
set_option maxRecDepth 100000 in
theorem rk304 : R304.all (rok 2 304 1 [(221, [0, 0])]) = true := by decide +kernel
set_option maxRecDepth 100000 in
theorem tab304 {F221 : PM → Int32 → Int32 → Int32} {G221 : PM → Int32 → Int32 → Prop} : TabOK 2 304 1 [CC221 F221 G221] R304 := tab_ok (K := K304) rfl rfl (fun h => d304 h) rk304 (by decide +kernel)
set_option maxRecDepth 100000 in
theorem pc304 : cutpc [] R304 = true := by decide +kernel
set_option maxRecDepth 100000 in
theorem r12_hasContract (p : PM) (hg : Gr 2 p) (F221 : PM → Int32 → Int32 → Int32) (G221 : PM → Int32 → Int32 → Prop) (o221 : CalOK 2 (CC221 F221 G221)) : ∀ (v0 : Int32) (v1 : Int32), bg12_hasContract p F221 G221 v0 v1 → ZJ 2 304 0 [zI v0, zI v1] [] p (hoI p (bv12_hasContract p F221 v0 v1)) := by
  intro v0 v1  H
  exact roI (n := 3000) (q := 0) (la := [zI v0, zI v1]) (sa := []) (ks := []) (gs := []) (fcons o221 (fnil)) tab304 pc304 trivial hg H
theorem t12_hasContract (p : PM) (hg : Gr 2 p) : ∀ (v0 : Int32) (v1 : Int32), g12_hasContract p v0 v1 → ZJ 2 304 0 [zI v0, zI v1] [] p (hoI p (v12_hasContract p v0 v1)) := r12_hasContract p hg v12_contractOf g12_contractOf ok221
def CC304 (F : PM → Int32 → Int32 → Int32) (G : PM → Int32 → Int32 → Prop) : Cal := (304, [0, 0], 1, true, fun as p => (zI (F p (ai as 0) (ai as 1)), p), fun as p => zsw (tc2 as [(0, 0), (0, 0)]) False (G p (ai as 0) (ai as 1)))
set_option maxRecDepth 100000 in
theorem okr304 (F : PM → Int32 → Int32 → Int32) (G : PM → Int32 → Int32 → Prop) (h : ∀ (p : PM) (v0 : Int32) (v1 : Int32), Gr 2 p → G p v0 v1 → ZJ 2 304 0 [zI v0, zI v1] [] p (hoI p (F p v0 v1))) : CalOK 2 (CC304 F G) := cal_ok (m := 2) (by unfold mL; rw [mX_304]) (fun as p hg H => h p (ai as 0) (ai as 1) hg H)
theorem ok304 : CalOK 2 (CC304 v12_hasContract g12_hasContract) := okr304 v12_hasContract g12_hasContract (fun p v0 v1 hg H => t12_hasContract p hg v0 v1 H)
noncomputable def bv12_converted (p : PM) (v0 : Int32) (v1 : Int32) (v2 : Int32) : Int32 :=
  if ((v0 * v2) / v1) < (cn 1) then (
    (cn 1))
  else (
    if (cn 9999) < ((v0 * v2) / v1) then (
      (cn 9999))
    else (
      ((v0 * v2) / v1)))
noncomputable def v12_converted (p : PM) (v0 : Int32) (v1 : Int32) (v2 : Int32) : Int32 := bv12_converted p v0 v1 v2
noncomputable def bg12_converted (p : PM) (v0 : Int32) (v1 : Int32) (v2 : Int32) : Prop :=
  (¬ v1 = 0) ∧ (
  if ((v0 * v2) / v1) < (cn 1) then (
    True)
  else (
    if (cn 9999) < ((v0 * v2) / v1) then (
      True)
    else (
      True)))
noncomputable def g12_converted (p : PM) (v0 : Int32) (v1 : Int32) (v2 : Int32) : Prop := bg12_converted p v0 v1 v2
def R306 : List Row := [(0, .iload_n 0, 1, 0, (0, 0, 0, 0, 0, 0)), (1, .iload_n 2, 1, 0, (0, 0, 0, 0, 0, 0)), (2, .imul, 1, 0, (0, 0, 0, 0, 0, 0)), (3, .iload_n 1, 1, 0, (0, 0, 0, 0, 0, 0)), (4, .idiv, 1, 0, (0, 0, 0, 0, 0, 0)), (5, .istore_n 3, 1, 0, (0, 0, 0, 0, 0, 0)), (6, .iload_n 3, 1, 0, (0, 0, 0, 0, 0, 0)), (7, .iconst 1, 1, 0, (0, 0, 0, 0, 0, 1)), (8, .if_icmp .ge 7, 3, 0, (0, 0, 0, 0, 0, 0)), (11, .iconst 1, 1, 0, (0, 0, 0, 0, 0, 1)), (12, .goto 17, 3, 0, (0, 0, 0, 0, 0, 0)), (15, .iload_n 3, 1, 0, (0, 0, 0, 0, 0, 0)), (16, .sipush 9999, 3, 0, (0, 0, 0, 0, 0, 9999)), (19, .if_icmp .le 9, 3, 0, (0, 0, 0, 0, 0, 0)), (22, .sipush 9999, 3, 0, (0, 0, 0, 0, 0, 9999)), (25, .goto 4, 3, 0, (0, 0, 0, 0, 0, 0)), (28, .iload_n 3, 1, 0, (0, 0, 0, 0, 0, 0)), (29, .ireturn, 1, 0, (0, 0, 0, 0, 0, 0))]
set_option maxRecDepth 100000 in
theorem rk306 : R306.all (rok 2 306 1 []) = true := by decide +kernel
set_option maxRecDepth 100000 in
theorem tab306 : TabOK 2 306 1 [] R306 := tab_ok (K := K306) rfl rfl (fun h => d306 h) rk306 (by decide +kernel)
set_option maxRecDepth 100000 in
theorem pc306 : cutpc [] R306 = true := by decide +kernel
set_option maxRecDepth 100000 in
theorem r12_converted (p : PM) (hg : Gr 2 p) : ∀ (v0 : Int32) (v1 : Int32) (v2 : Int32), bg12_converted p v0 v1 v2 → ZJ 2 306 0 [zI v0, zI v1, zI v2, zJ] [] p (hoI p (bv12_converted p v0 v1 v2)) := by
  intro v0 v1 v2  H
  exact roI (n := 3000) (q := 0) (la := [zI v0, zI v1, zI v2, zJ]) (sa := []) (ks := []) (gs := []) (fnil) tab306 pc306 trivial hg H
theorem t12_converted (p : PM) (hg : Gr 2 p) : ∀ (v0 : Int32) (v1 : Int32) (v2 : Int32), g12_converted p v0 v1 v2 → ZJ 2 306 0 [zI v0, zI v1, zI v2, zJ] [] p (hoI p (v12_converted p v0 v1 v2)) := r12_converted p hg
def CC306 (F : PM → Int32 → Int32 → Int32 → Int32) (G : PM → Int32 → Int32 → Int32 → Prop) : Cal := (306, [0, 0, 0], 1, true, fun as p => (zI (F p (ai as 0) (ai as 1) (ai as 2)), p), fun as p => zsw (tc2 as [(0, 0), (0, 0), (0, 0)]) False (G p (ai as 0) (ai as 1) (ai as 2)))
set_option maxRecDepth 100000 in
theorem okr306 (F : PM → Int32 → Int32 → Int32 → Int32) (G : PM → Int32 → Int32 → Int32 → Prop) (h : ∀ (p : PM) (v0 : Int32) (v1 : Int32) (v2 : Int32), Gr 2 p → G p v0 v1 v2 → ZJ 2 306 0 [zI v0, zI v1, zI v2, zJ] [] p (hoI p (F p v0 v1 v2))) : CalOK 2 (CC306 F G) := cal_ok (m := 4) (by unfold mL; rw [mX_306]) (fun as p hg H => h p (ai as 0) (ai as 1) (ai as 2) hg H)
theorem ok306 : CalOK 2 (CC306 v12_converted g12_converted) := okr306 v12_converted g12_converted (fun p v0 v1 v2 hg H => t12_converted p hg v0 v1 v2 H)
noncomputable def bv12_doConvert_267 (F217 : PM → Int64 → Int64 → Int64) (kv267 : PM → Int32 → Int32 → Int32 → Int32 → Int64 → Int32 → Int32 × PM) (p : PM) (v1 : Int32) (v2 : Int32) (v3 : Int32) (v4 : Int32) (v5 : Int64) (v7 : Int32) : Int32 × PM :=
  if v7 < (cn 8) then (
    let x2 : Int64 := ((p.1 13 1 ((((cn 4) * v7) + v1)).toNatClampNeg)).toInt64
    let x3 : Int64 := ((x2 * (v2).toInt64) / (v3).toInt64)
    let x4 : Int64 := (F217 p (((x2 * (v2).toInt64) - (x3 * (v3).toInt64)) * ((p.1 13 10 (v1).toNatClampNeg)).toInt64) (v3).toInt64)
    let p5 : PM := pI p 13 1 ((((cn 4) * v7) + v1)).toNatClampNeg (x3).toInt32
    let p6 : PM := pJ p5 14 1 (v7).toNatClampNeg ((p5.2.1 14 1 (v7).toNatClampNeg) + x4)
    let p7 : PM := pJ p6 14 1 8 ((p6.2.1 14 1 8) - x4)
    kv267 p7 v1 v2 v3 v4 (v5 + x3) (v7 + (cn 1)))
  else (
    let p1 : PM := pI p 13 1 (((cn 32) + v1)).toNatClampNeg ((-v5)).toInt32
    (v4, p1))
noncomputable def v12_doConvert_267 (n : Nat) : PM → Int32 → Int32 → Int32 → Int32 → Int64 → Int32 → Int32 × PM := Nat.rec (motive := fun _ => PM → Int32 → Int32 → Int32 → Int32 → Int64 → Int32 → Int32 × PM) (fun p _ _ _ _ _ _ => (0, p)) (fun _ ih => bv12_doConvert_267 v12_floor ih) n
theorem ev12_doConvert_267 (n : Nat) (p : PM) (v1 : Int32) (v2 : Int32) (v3 : Int32) (v4 : Int32) (v5 : Int64) (v7 : Int32) : v12_doConvert_267 (n + 1) p v1 v2 v3 v4 v5 v7 = bv12_doConvert_267 v12_floor (v12_doConvert_267 n) p v1 v2 v3 v4 v5 v7 := rfl
noncomputable def bg12_doConvert_267 (F217 : PM → Int64 → Int64 → Int64) (G217 : PM → Int64 → Int64 → Prop) (kg267 : PM → Int32 → Int32 → Int32 → Int32 → Int64 → Int32 → Prop) (p : PM) (v1 : Int32) (v2 : Int32) (v3 : Int32) (v4 : Int32) (v5 : Int64) (v7 : Int32) : Prop :=
  if v7 < (cn 8) then (
    (inb (((cn 4) * v7) + v1) 36) ∧ (
    let x2 : Int64 := ((p.1 13 1 ((((cn 4) * v7) + v1)).toNatClampNeg)).toInt64
    (¬ (v3).toInt64 = 0) ∧ (
    let x3 : Int64 := ((x2 * (v2).toInt64) / (v3).toInt64)
    (inb v1 6) ∧ (
    (G217 p (((x2 * (v2).toInt64) - (x3 * (v3).toInt64)) * ((p.1 13 10 (v1).toNatClampNeg)).toInt64) (v3).toInt64) ∧ (
    let x4 : Int64 := (F217 p (((x2 * (v2).toInt64) - (x3 * (v3).toInt64)) * ((p.1 13 10 (v1).toNatClampNeg)).toInt64) (v3).toInt64)
    (inb (((cn 4) * v7) + v1) 36) ∧ (
    let p5 : PM := pI p 13 1 ((((cn 4) * v7) + v1)).toNatClampNeg (x3).toInt32
    (inb v7 9) ∧ (
    (inb v7 9) ∧ (
    let p6 : PM := pJ p5 14 1 (v7).toNatClampNeg ((p5.2.1 14 1 (v7).toNatClampNeg) + x4)
    let p7 : PM := pJ p6 14 1 8 ((p6.2.1 14 1 8) - x4)
    kg267 p7 v1 v2 v3 v4 (v5 + x3) (v7 + (cn 1))))))))))
  else (
    (inb ((cn 32) + v1) 36) ∧ (
    let p1 : PM := pI p 13 1 (((cn 32) + v1)).toNatClampNeg ((-v5)).toInt32
    True))
noncomputable def g12_doConvert_267 (n : Nat) : PM → Int32 → Int32 → Int32 → Int32 → Int64 → Int32 → Prop := Nat.rec (motive := fun _ => PM → Int32 → Int32 → Int32 → Int32 → Int64 → Int32 → Prop) (fun _ _ _ _ _ _ _ => False) (fun _ ih => bg12_doConvert_267 v12_floor g12_floor ih) n
theorem eg12_doConvert_267 (n : Nat) (p : PM) (v1 : Int32) (v2 : Int32) (v3 : Int32) (v4 : Int32) (v5 : Int64) (v7 : Int32) : g12_doConvert_267 (n + 1) p v1 v2 v3 v4 v5 v7 = bg12_doConvert_267 v12_floor g12_floor (g12_doConvert_267 n) p v1 v2 v3 v4 v5 v7 := rfl
noncomputable def bv12_doConvert_178 (F304 : PM → Int32 → Int32 → Int32) (F306 : PM → Int32 → Int32 → Int32 → Int32) (kv178 : PM → Int32 → Int32 → Int32 → Int32 → Int32 → Int32 × PM) (kv267 : PM → Int32 → Int32 → Int32 → Int32 → Int64 → Int32 → Int32 × PM) (p : PM) (v1 : Int32) (v2 : Int32) (v3 : Int32) (v4 : Int32) (v5 : Int32) : Int32 × PM :=
  if v5 < (cn 60) then (
    if (p.1 15 8 (v5).toNatClampNeg) = 0 then (
      if (F304 p (p.1 13 30 (v5).toNatClampNeg) v1) = 0 then (
        let p4 : PM := pI p 15 8 (v5).toNatClampNeg (cn 0)
        kv178 p4 v1 v2 v3 v4 (v5 + (cn 1)))
      else (
        let p5 : PM := pI p 15 8 (v5).toNatClampNeg (cn 1)
        kv178 p5 v1 v2 v3 v4 (v5 + (cn 1))))
    else (
      let p3 : PM := pI p 15 8 (v5).toNatClampNeg (cn 1)
      kv178 p3 v1 v2 v3 v4 (v5 + (cn 1))))
  else (
    let p1 : PM := pI p 13 10 (v1).toNatClampNeg (F306 p (p.1 13 10 (v1).toNatClampNeg) v2 v3)
    let p2 : PM := pI p1 13 11 (v1).toNatClampNeg (F306 p1 (p1.1 13 11 (v1).toNatClampNeg) v2 v3)
    kv267 p2 v1 v2 v3 v4 (cl 0) (cn 0))
noncomputable def v12_doConvert_178 (n : Nat) : PM → Int32 → Int32 → Int32 → Int32 → Int32 → Int32 × PM := Nat.rec (motive := fun _ => PM → Int32 → Int32 → Int32 → Int32 → Int32 → Int32 × PM) (fun p _ _ _ _ _ => (0, p)) (fun _ ih => bv12_doConvert_178 v12_hasContract v12_converted ih (v12_doConvert_267 FU)) n
theorem ev12_doConvert_178 (n : Nat) (p : PM) (v1 : Int32) (v2 : Int32) (v3 : Int32) (v4 : Int32) (v5 : Int32) : v12_doConvert_178 (n + 1) p v1 v2 v3 v4 v5 = bv12_doConvert_178 v12_hasContract v12_converted (v12_doConvert_178 n) (v12_doConvert_267 FU) p v1 v2 v3 v4 v5 := rfl
noncomputable def bg12_doConvert_178 (F304 : PM → Int32 → Int32 → Int32) (G304 : PM → Int32 → Int32 → Prop) (F306 : PM → Int32 → Int32 → Int32 → Int32) (G306 : PM → Int32 → Int32 → Int32 → Prop) (kg178 : PM → Int32 → Int32 → Int32 → Int32 → Int32 → Prop) (kg267 : PM → Int32 → Int32 → Int32 → Int32 → Int64 → Int32 → Prop) (p : PM) (v1 : Int32) (v2 : Int32) (v3 : Int32) (v4 : Int32) (v5 : Int32) : Prop :=
  if v5 < (cn 60) then (
    (inb v5 60) ∧ (
    if (p.1 15 8 (v5).toNatClampNeg) = 0 then (
      (inb v5 60) ∧ (
      (G304 p (p.1 13 30 (v5).toNatClampNeg) v1) ∧ (
      if (F304 p (p.1 13 30 (v5).toNatClampNeg) v1) = 0 then (
        (inb v5 60) ∧ (
        let p4 : PM := pI p 15 8 (v5).toNatClampNeg (cn 0)
        kg178 p4 v1 v2 v3 v4 (v5 + (cn 1))))
      else (
        (inb v5 60) ∧ (
        let p5 : PM := pI p 15 8 (v5).toNatClampNeg (cn 1)
        kg178 p5 v1 v2 v3 v4 (v5 + (cn 1)))))))
    else (
      (inb v5 60) ∧ (
      let p3 : PM := pI p 15 8 (v5).toNatClampNeg (cn 1)
      kg178 p3 v1 v2 v3 v4 (v5 + (cn 1))))))
  else (
    (inb v1 6) ∧ (
    (G306 p (p.1 13 10 (v1).toNatClampNeg) v2 v3) ∧ (
    (inb v1 6) ∧ (
    let p1 : PM := pI p 13 10 (v1).toNatClampNeg (F306 p (p.1 13 10 (v1).toNatClampNeg) v2 v3)
    (inb v1 6) ∧ (
    (G306 p1 (p1.1 13 11 (v1).toNatClampNeg) v2 v3) ∧ (
    (inb v1 6) ∧ (
    let p2 : PM := pI p1 13 11 (v1).toNatClampNeg (F306 p1 (p1.1 13 11 (v1).toNatClampNeg) v2 v3)
    kg267 p2 v1 v2 v3 v4 (cl 0) (cn 0))))))))
noncomputable def g12_doConvert_178 (n : Nat) : PM → Int32 → Int32 → Int32 → Int32 → Int32 → Prop := Nat.rec (motive := fun _ => PM → Int32 → Int32 → Int32 → Int32 → Int32 → Prop) (fun _ _ _ _ _ _ => False) (fun _ ih => bg12_doConvert_178 v12_hasContract g12_hasContract v12_converted g12_converted ih (g12_doConvert_267 FU)) n
theorem eg12_doConvert_178 (n : Nat) (p : PM) (v1 : Int32) (v2 : Int32) (v3 : Int32) (v4 : Int32) (v5 : Int32) : g12_doConvert_178 (n + 1) p v1 v2 v3 v4 v5 = bg12_doConvert_178 v12_hasContract g12_hasContract v12_converted g12_converted (g12_doConvert_178 n) (g12_doConvert_267 FU) p v1 v2 v3 v4 v5 := rfl
noncomputable def bv12_doConvert_127 (F304 : PM → Int32 → Int32 → Int32) (kv127 : PM → Int32 → Int32 → Int32 → Int32 → Int32 → Int32 × PM) (kv178 : PM → Int32 → Int32 → Int32 → Int32 → Int32 → Int32 × PM) (p : PM) (v1 : Int32) (v2 : Int32) (v3 : Int32) (v4 : Int32) (v5 : Int32) : Int32 × PM :=
  if v5 < (cn 44) then (
    if (p.1 15 3 (v5).toNatClampNeg) = 0 then (
      kv127 p v1 v2 v3 v4 (v5 + (cn 1)))
    else (
      if (F304 p (p.1 13 16 (v5).toNatClampNeg) v1) = 0 then (
        kv127 p v1 v2 v3 v4 (v5 + (cn 1)))
      else (
        let p1 : PM := pI p 15 3 (v5).toNatClampNeg (cn 0)
        kv127 p1 v1 v2 v3 (v4 + (cn 1)) (v5 + (cn 1)))))
  else (
    kv178 p v1 v2 v3 v4 (cn 0))
noncomputable def v12_doConvert_127 (n : Nat) : PM → Int32 → Int32 → Int32 → Int32 → Int32 → Int32 × PM := Nat.rec (motive := fun _ => PM → Int32 → Int32 → Int32 → Int32 → Int32 → Int32 × PM) (fun p _ _ _ _ _ => (0, p)) (fun _ ih => bv12_doConvert_127 v12_hasContract ih (v12_doConvert_178 FU)) n
theorem ev12_doConvert_127 (n : Nat) (p : PM) (v1 : Int32) (v2 : Int32) (v3 : Int32) (v4 : Int32) (v5 : Int32) : v12_doConvert_127 (n + 1) p v1 v2 v3 v4 v5 = bv12_doConvert_127 v12_hasContract (v12_doConvert_127 n) (v12_doConvert_178 FU) p v1 v2 v3 v4 v5 := rfl
noncomputable def bg12_doConvert_127 (F304 : PM → Int32 → Int32 → Int32) (G304 : PM → Int32 → Int32 → Prop) (kg127 : PM → Int32 → Int32 → Int32 → Int32 → Int32 → Prop) (kg178 : PM → Int32 → Int32 → Int32 → Int32 → Int32 → Prop) (p : PM) (v1 : Int32) (v2 : Int32) (v3 : Int32) (v4 : Int32) (v5 : Int32) : Prop :=
  if v5 < (cn 44) then (
    (inb v5 44) ∧ (
    if (p.1 15 3 (v5).toNatClampNeg) = 0 then (
      kg127 p v1 v2 v3 v4 (v5 + (cn 1)))
    else (
      (inb v5 44) ∧ (
      (G304 p (p.1 13 16 (v5).toNatClampNeg) v1) ∧ (
      if (F304 p (p.1 13 16 (v5).toNatClampNeg) v1) = 0 then (
        kg127 p v1 v2 v3 v4 (v5 + (cn 1)))
      else (
        (inb v5 44) ∧ (
        let p1 : PM := pI p 15 3 (v5).toNatClampNeg (cn 0)
        kg127 p1 v1 v2 v3 (v4 + (cn 1)) (v5 + (cn 1)))))))))
  else (
    kg178 p v1 v2 v3 v4 (cn 0))
noncomputable def g12_doConvert_127 (n : Nat) : PM → Int32 → Int32 → Int32 → Int32 → Int32 → Prop := Nat.rec (motive := fun _ => PM → Int32 → Int32 → Int32 → Int32 → Int32 → Prop) (fun _ _ _ _ _ _ => False) (fun _ ih => bg12_doConvert_127 v12_hasContract g12_hasContract ih (g12_doConvert_178 FU)) n
theorem eg12_doConvert_127 (n : Nat) (p : PM) (v1 : Int32) (v2 : Int32) (v3 : Int32) (v4 : Int32) (v5 : Int32) : g12_doConvert_127 (n + 1) p v1 v2 v3 v4 v5 = bg12_doConvert_127 v12_hasContract g12_hasContract (g12_doConvert_127 n) (g12_doConvert_178 FU) p v1 v2 v3 v4 v5 := rfl
noncomputable def bv12_doConvert_45 (kv45 : PM → Int32 → Int32 → Int32 → Int32 → Int32 × PM) (kv127 : PM → Int32 → Int32 → Int32 → Int32 → Int32 → Int32 × PM) (p : PM) (v1 : Int32) (v2 : Int32) (v3 : Int32) (v4 : Int32) : Int32 × PM :=
  if v4 < (cn 8) then (
    if (p.1 12 1 0) = 0 then (
      let x1 : Int64 := ((((p.1 13 1 ((((cn 4) * v4) + v1)).toNatClampNeg)).toInt64 * (v2).toInt64) / (v3).toInt64)
      if 0 < (lg_cmp x1 (cl 1000000)) then (
        let p2 : PM := pI p 12 1 0 (cn 3)
        kv45 p2 v1 v2 v3 (v4 + (cn 1)))
      else (
        if (lg_cmp x1 (cl (-1000000))) < 0 then (
          let p4 : PM := pI p 12 1 0 (cn 3)
          kv45 p4 v1 v2 v3 (v4 + (cn 1)))
        else (
          let p3 : PM := pI p 12 1 0 (cn 0)
          kv45 p3 v1 v2 v3 (v4 + (cn 1)))))
    else (
      if (p.1 12 1 0) = 0 then (
        kv127 p v1 v2 v3 (cn 0) (cn 0))
      else (
        ((cn 0), p))))
  else (
    if (p.1 12 1 0) = 0 then (
      kv127 p v1 v2 v3 (cn 0) (cn 0))
    else (
      ((cn 0), p)))
noncomputable def v12_doConvert_45 (n : Nat) : PM → Int32 → Int32 → Int32 → Int32 → Int32 × PM := Nat.rec (motive := fun _ => PM → Int32 → Int32 → Int32 → Int32 → Int32 × PM) (fun p _ _ _ _ => (0, p)) (fun _ ih => bv12_doConvert_45 ih (v12_doConvert_127 FU)) n
theorem ev12_doConvert_45 (n : Nat) (p : PM) (v1 : Int32) (v2 : Int32) (v3 : Int32) (v4 : Int32) : v12_doConvert_45 (n + 1) p v1 v2 v3 v4 = bv12_doConvert_45 (v12_doConvert_45 n) (v12_doConvert_127 FU) p v1 v2 v3 v4 := rfl
noncomputable def bg12_doConvert_45 (kg45 : PM → Int32 → Int32 → Int32 → Int32 → Prop) (kg127 : PM → Int32 → Int32 → Int32 → Int32 → Int32 → Prop) (p : PM) (v1 : Int32) (v2 : Int32) (v3 : Int32) (v4 : Int32) : Prop :=
  if v4 < (cn 8) then (
    if (p.1 12 1 0) = 0 then (
      (inb (((cn 4) * v4) + v1) 36) ∧ (
      (¬ (v3).toInt64 = 0) ∧ (
      let x1 : Int64 := ((((p.1 13 1 ((((cn 4) * v4) + v1)).toNatClampNeg)).toInt64 * (v2).toInt64) / (v3).toInt64)
      if 0 < (lg_cmp x1 (cl 1000000)) then (
        let p2 : PM := pI p 12 1 0 (cn 3)
        kg45 p2 v1 v2 v3 (v4 + (cn 1)))
      else (
        if (lg_cmp x1 (cl (-1000000))) < 0 then (
          let p4 : PM := pI p 12 1 0 (cn 3)
          kg45 p4 v1 v2 v3 (v4 + (cn 1)))
        else (
          let p3 : PM := pI p 12 1 0 (cn 0)
          kg45 p3 v1 v2 v3 (v4 + (cn 1)))))))
    else (
      if (p.1 12 1 0) = 0 then (
        kg127 p v1 v2 v3 (cn 0) (cn 0))
      else (
        True)))
  else (
    if (p.1 12 1 0) = 0 then (
      kg127 p v1 v2 v3 (cn 0) (cn 0))
    else (
      True))
noncomputable def g12_doConvert_45 (n : Nat) : PM → Int32 → Int32 → Int32 → Int32 → Prop := Nat.rec (motive := fun _ => PM → Int32 → Int32 → Int32 → Int32 → Prop) (fun _ _ _ _ _ => False) (fun _ ih => bg12_doConvert_45 ih (g12_doConvert_127 FU)) n
theorem eg12_doConvert_45 (n : Nat) (p : PM) (v1 : Int32) (v2 : Int32) (v3 : Int32) (v4 : Int32) : g12_doConvert_45 (n + 1) p v1 v2 v3 v4 = bg12_doConvert_45 (g12_doConvert_45 n) (g12_doConvert_127 FU) p v1 v2 v3 v4 := rfl
noncomputable def bv12_doConvert (F215 : PM → Int32 → Int32 → Int32 → Int32) (kv45 : PM → Int32 → Int32 → Int32 → Int32 → Int32 × PM) (p : PM) (v1 : Int32) (v2 : Int32) (v3 : Int32) : Int32 × PM :=
  if (F215 p v1 (cn 0) (cn 2)) = 0 then (
    let p4 : PM := pI p 12 1 0 (cn 1)
    kv45 p4 v1 v2 v3 (cn 0))
  else (
    if (F215 p v2 (cn 1) (cn 9)) = 0 then (
      let p1 : PM := pI p 12 1 0 (cn 2)
      kv45 p1 v1 v2 v3 (cn 0))
    else (
      if (F215 p v3 (cn 1) (cn 9)) = 0 then (
        let p3 : PM := pI p 12 1 0 (cn 2)
        kv45 p3 v1 v2 v3 (cn 0))
      else (
        let p2 : PM := pI p 12 1 0 (cn 0)
        kv45 p2 v1 v2 v3 (cn 0))))
noncomputable def v12_doConvert (p : PM) (v1 : Int32) (v2 : Int32) (v3 : Int32) : Int32 × PM := bv12_doConvert v12_in (v12_doConvert_45 FU) p v1 v2 v3
noncomputable def bg12_doConvert (F215 : PM → Int32 → Int32 → Int32 → Int32) (G215 : PM → Int32 → Int32 → Int32 → Prop) (kg45 : PM → Int32 → Int32 → Int32 → Int32 → Prop) (p : PM) (v1 : Int32) (v2 : Int32) (v3 : Int32) : Prop :=
  (G215 p v1 (cn 0) (cn 2)) ∧ (
  if (F215 p v1 (cn 0) (cn 2)) = 0 then (
    let p4 : PM := pI p 12 1 0 (cn 1)
    kg45 p4 v1 v2 v3 (cn 0))
  else (
    (G215 p v2 (cn 1) (cn 9)) ∧ (
    if (F215 p v2 (cn 1) (cn 9)) = 0 then (
      let p1 : PM := pI p 12 1 0 (cn 2)
      kg45 p1 v1 v2 v3 (cn 0))
    else (
      (G215 p v3 (cn 1) (cn 9)) ∧ (
      if (F215 p v3 (cn 1) (cn 9)) = 0 then (
        let p3 : PM := pI p 12 1 0 (cn 2)
        kg45 p3 v1 v2 v3 (cn 0))
      else (
        let p2 : PM := pI p 12 1 0 (cn 0)
        kg45 p2 v1 v2 v3 (cn 0)))))))
noncomputable def g12_doConvert (p : PM) (v1 : Int32) (v2 : Int32) (v3 : Int32) : Prop := bg12_doConvert v12_in g12_in (g12_doConvert_45 FU) p v1 v2 v3
def R305 : List Row := [(0, .aload_n 0, 1, 0, (0, 0, 0, 0, 0, 0)), (1, .iload_n 1, 1, 0, (0, 0, 0, 0, 0, 0)), (2, .iconst 0, 1, 0, (0, 0, 0, 0, 0, 0)), (3, .iconst 2, 1, 0, (0, 0, 0, 0, 0, 2)), (4, .invokestatic 209, 3, 0, (0, 3, 0, 0, 0, 0)), (7, .ifCond .ne 7, 3, 0, (0, 0, 0, 0, 0, 0)), (10, .iconst 1, 1, 0, (0, 0, 0, 0, 0, 1)), (11, .goto 28, 3, 0, (0, 0, 0, 0, 0, 0)), (14, .iload_n 2, 1, 0, (0, 0, 0, 0, 0, 0)), (15, .iconst 1, 1, 0, (0, 0, 0, 0, 0, 1)), (16, .bipush 9, 2, 0, (0, 0, 0, 0, 0, 9)), (18, .invokestatic 209, 3, 0, (0, 3, 0, 0, 0, 0)), (21, .ifCond .eq 13, 3, 0, (0, 0, 0, 0, 0, 0)), (24, .iload_n 3, 1, 0, (0, 0, 0, 0, 0, 0)), (25, .iconst 1, 1, 0, (0, 0, 0, 0, 0, 1)), (26, .bipush 9, 2, 0, (0, 0, 0, 0, 0, 9)), (28, .invokestatic 209, 3, 0, (0, 3, 0, 0, 0, 0)), (31, .ifCond .ne 7, 3, 0, (0, 0, 0, 0, 0, 0)), (34, .iconst 2, 1, 0, (0, 0, 0, 0, 0, 2)), (35, .goto 4, 3, 0, (0, 0, 0, 0, 0, 0)), (38, .iconst 0, 1, 0, (0, 0, 0, 0, 0, 0)), (39, .putfield 180, 3, 0, (12, 0, 0, 1, 0, 0)), (42, .iconst 0, 1, 0, (0, 0, 0, 0, 0, 0)), (43, .istore 4, 2, 0, (0, 0, 0, 0, 0, 0)), (45, .iload 4, 2, 1, (0, 0, 0, 0, 0, 0)), (47, .bipush 8, 2, 0, (0, 0, 0, 0, 0, 8)), (49, .if_icmp .ge 63, 3, 0, (0, 0, 0, 0, 0, 0)), (52, .aload_n 0, 1, 0, (0, 0, 0, 0, 0, 0)), (53, .getfield 180, 3, 0, (12, 0, 0, 1, 0, 0)), (56, .ifCond .ne 56, 3, 0, (0, 0, 0, 0, 0, 0)), (59, .aload_n 0, 1, 0, (0, 0, 0, 0, 0, 0)), (60, .getfield 7, 3, 0, (12, 1, 16, 2, 1, 0)), (63, .iconst 4, 1, 0, (0, 0, 0, 0, 0, 4)), (64, .iload 4, 2, 0, (0, 0, 0, 0, 0, 0)), (66, .imul, 1, 0, (0, 0, 0, 0, 0, 0)), (67, .iload_n 1, 1, 0, (0, 0, 0, 0, 0, 0)), (68, .iadd, 1, 0, (0, 0, 0, 0, 0, 0)), (69, .iaload, 1, 0, (13, 36, 0, 0, 0, 0)), (70, .i2l, 1, 0, (0, 0, 0, 0, 0, 0)), (71, .iload_n 2, 1, 0, (0, 0, 0, 0, 0, 0)), (72, .i2l, 1, 0, (0, 0, 0, 0, 0, 0)), (73, .lmul, 1, 0, (0, 0, 0, 0, 0, 0)), (74, .iload_n 3, 1, 0, (0, 0, 0, 0, 0, 0)), (75, .i2l, 1, 0, (0, 0, 0, 0, 0, 0)), (76, .ldiv, 1, 0, (0, 0, 0, 0, 0, 0)), (77, .lstore 5, 2, 0, (0, 0, 0, 0, 0, 0)), (79, .aload_n 0, 1, 0, (0, 0, 0, 0, 0, 0)), (80, .lload 5, 2, 0, (0, 0, 0, 0, 0, 0)), (82, .ldc2_w 464, 3, 0, (0, 0, 0, 0, 0, 1000000)), (85, .lcmp, 1, 0, (0, 0, 0, 0, 0, 0)), (86, .ifCond .gt 12, 3, 0, (0, 0, 0, 0, 0, 0)), (89, .lload 5, 2, 0, (0, 0, 0, 0, 0, 0)), (91, .ldc2_w 466, 3, 0, (0, 0, 0, 0, 0, -1000000)), (94, .lcmp, 1, 0, (0, 0, 0, 0, 0, 0)), (95, .ifCond .ge 7, 3, 0, (0, 0, 0, 0, 0, 0)), (98, .iconst 3, 1, 0, (0, 0, 0, 0, 0, 3)), (99, .goto 4, 3, 0, (0, 0, 0, 0, 0, 0)), (102, .iconst 0, 1, 0, (0, 0, 0, 0, 0, 0)), (103, .putfield 180, 3, 0, (12, 0, 0, 1, 0, 0)), (106, .iinc 4 1, 3, 0, (0, 0, 0, 0, 0, 1)), (109, .goto (-64), 3, 0, (0, 0, 0, 0, 0, 0)), (112, .aload_n 0, 1, 0, (0, 0, 0, 0, 0, 0)), (113, .getfield 180, 3, 0, (12, 0, 0, 1, 0, 0)), (116, .ifCond .eq 5, 3, 0, (0, 0, 0, 0, 0, 0)), (119, .iconst 0, 1, 0, (0, 0, 0, 0, 0, 0)), (120, .ireturn, 1, 0, (0, 0, 0, 0, 0, 0)), (121, .iconst 0, 1, 0, (0, 0, 0, 0, 0, 0)), (122, .istore 4, 2, 0, (0, 0, 0, 0, 0, 0)), (124, .iconst 0, 1, 0, (0, 0, 0, 0, 0, 0)), (125, .istore 5, 2, 0, (0, 0, 0, 0, 0, 0)), (127, .iload 5, 2, 2, (0, 0, 0, 0, 0, 0)), (129, .bipush 44, 2, 0, (0, 0, 0, 0, 0, 44)), (131, .if_icmp .ge 44, 3, 0, (0, 0, 0, 0, 0, 0)), (134, .aload_n 0, 1, 0, (0, 0, 0, 0, 0, 0)), (135, .getfield 60, 3, 0, (12, 19, 18, 2, 3, 0)), (138, .iload 5, 2, 0, (0, 0, 0, 0, 0, 0)), (140, .baload, 1, 0, (15, 44, 0, 0, 0, 0)), (141, .ifCond .eq 28, 3, 0, (0, 0, 0, 0, 0, 0)), (144, .aload_n 0, 1, 0, (0, 0, 0, 0, 0, 0)), (145, .getfield 69, 3, 0, (12, 22, 16, 2, 16, 0)), (148, .iload 5, 2, 0, (0, 0, 0, 0, 0, 0)), (150, .iaload, 1, 0, (13, 44, 0, 0, 0, 0)), (151, .iload_n 1, 1, 0, (0, 0, 0, 0, 0, 0)), (152, .invokestatic 468, 3, 0, (1, 2, 0, 0, 0, 0)), (155, .ifCond .eq 14, 3, 0, (0, 0, 0, 0, 0, 0)), (158, .aload_n 0, 1, 0, (0, 0, 0, 0, 0, 0)), (159, .getfield 60, 3, 0, (12, 19, 18, 2, 3, 0)), (162, .iload 5, 2, 0, (0, 0, 0, 0, 0, 0)), (164, .iconst 0, 1, 0, (0, 0, 0, 0, 0, 0)), (165, .bastore, 1, 0, (15, 44, 0, 0, 0, 0)), (166, .iinc 4 1, 3, 0, (0, 0, 0, 0, 0, 1)), (169, .iinc 5 1, 3, 0, (0, 0, 0, 0, 0, 1)), (172, .goto (-45), 3, 0, (0, 0, 0, 0, 0, 0)), (175, .iconst 0, 1, 0, (0, 0, 0, 0, 0, 0)), (176, .istore 5, 2, 0, (0, 0, 0, 0, 0, 0)), (178, .iload 5, 2, 3, (0, 0, 0, 0, 0, 0)), (180, .bipush 60, 2, 0, (0, 0, 0, 0, 0, 60)), (182, .if_icmp .ge 45, 3, 0, (0, 0, 0, 0, 0, 0)), (185, .aload_n 0, 1, 0, (0, 0, 0, 0, 0, 0)), (186, .getfield 138, 3, 0, (12, 47, 18, 2, 8, 0)), (189, .iload 5, 2, 0, (0, 0, 0, 0, 0, 0)), (191, .aload_n 0, 1, 0, (0, 0, 0, 0, 0, 0)), (192, .getfield 138, 3, 0, (12, 47, 18, 2, 8, 0)), (195, .iload 5, 2, 0, (0, 0, 0, 0, 0, 0)), (197, .baload, 1, 0, (15, 60, 0, 0, 0, 0)), (198, .ifCond .ne 17, 3, 0, (0, 0, 0, 0, 0, 0)), (201, .aload_n 0, 1, 0, (0, 0, 0, 0, 0, 0)), (202, .getfield 120, 3, 0, (12, 41, 16, 2, 30, 0)), (205, .iload 5, 2, 0, (0, 0, 0, 0, 0, 0)), (207, .iaload, 1, 0, (13, 60, 0, 0, 0, 0)), (208, .iload_n 1, 1, 0, (0, 0, 0, 0, 0, 0)), (209, .invokestatic 468, 3, 0, (1, 2, 0, 0, 0, 0)), (212, .ifCond .eq 7, 3, 0, (0, 0, 0, 0, 0, 0)), (215, .iconst 1, 1, 0, (0, 0, 0, 0, 0, 1)), (216, .goto 4, 3, 0, (0, 0, 0, 0, 0, 0)), (219, .iconst 0, 1, 0, (0, 0, 0, 0, 0, 0)), (220, .bastore, 1, 0, (15, 60, 0, 0, 0, 0)), (221, .iinc 5 1, 3, 0, (0, 0, 0, 0, 0, 1)), (224, .goto (-46), 3, 0, (0, 0, 0, 0, 0, 0)), (227, .aload_n 0, 1, 0, (0, 0, 0, 0, 0, 0)), (228, .getfield 45, 3, 0, (12, 12, 16, 2, 10, 0)), (231, .iload_n 1, 1, 0, (0, 0, 0, 0, 0, 0)), (232, .aload_n 0, 1, 0, (0, 0, 0, 0, 0, 0)), (233, .getfield 45, 3, 0, (12, 12, 16, 2, 10, 0)), (236, .iload_n 1, 1, 0, (0, 0, 0, 0, 0, 0)), (237, .iaload, 1, 0, (13, 6, 0, 0, 0, 0)), (238, .iload_n 2, 1, 0, (0, 0, 0, 0, 0, 0)), (239, .iload_n 3, 1, 0, (0, 0, 0, 0, 0, 0)), (240, .invokestatic 471, 3, 0, (2, 3, 0, 0, 0, 0)), (243, .iastore, 1, 0, (13, 6, 0, 0, 0, 0)), (244, .aload_n 0, 1, 0, (0, 0, 0, 0, 0, 0)), (245, .getfield 48, 3, 0, (12, 13, 16, 2, 11, 0)), (248, .iload_n 1, 1, 0, (0, 0, 0, 0, 0, 0)), (249, .aload_n 0, 1, 0, (0, 0, 0, 0, 0, 0)), (250, .getfield 48, 3, 0, (12, 13, 16, 2, 11, 0)), (253, .iload_n 1, 1, 0, (0, 0, 0, 0, 0, 0)), (254, .iaload, 1, 0, (13, 6, 0, 0, 0, 0)), (255, .iload_n 2, 1, 0, (0, 0, 0, 0, 0, 0)), (256, .iload_n 3, 1, 0, (0, 0, 0, 0, 0, 0)), (257, .invokestatic 471, 3, 0, (2, 3, 0, 0, 0, 0)), (260, .iastore, 1, 0, (13, 6, 0, 0, 0, 0)), (261, .lconst 0, 1, 0, (0, 0, 0, 0, 0, 0)), (262, .lstore 5, 2, 0, (0, 0, 0, 0, 0, 0)), (264, .iconst 0, 1, 0, (0, 0, 0, 0, 0, 0)), (265, .istore 7, 2, 0, (0, 0, 0, 0, 0, 0)), (267, .iload 7, 2, 4, (0, 0, 0, 0, 0, 0)), (269, .bipush 8, 2, 0, (0, 0, 0, 0, 0, 8)), (271, .if_icmp .ge 104, 3, 0, (0, 0, 0, 0, 0, 0)), (274, .aload_n 0, 1, 0, (0, 0, 0, 0, 0, 0)), (275, .getfield 7, 3, 0, (12, 1, 16, 2, 1, 0)), (278, .iconst 4, 1, 0, (0, 0, 0, 0, 0, 4)), (279, .iload 7, 2, 0, (0, 0, 0, 0, 0, 0)), (281, .imul, 1, 0, (0, 0, 0, 0, 0, 0)), (282, .iload_n 1, 1, 0, (0, 0, 0, 0, 0, 0)), (283, .iadd, 1, 0, (0, 0, 0, 0, 0, 0)), (284, .iaload, 1, 0, (13, 36, 0, 0, 0, 0)), (285, .i2l, 1, 0, (0, 0, 0, 0, 0, 0)), (286, .lstore 8, 2, 0, (0, 0, 0, 0, 0, 0)), (288, .lload 8, 2, 0, (0, 0, 0, 0, 0, 0)), (290, .iload_n 2, 1, 0, (0, 0, 0, 0, 0, 0)), (291, .i2l, 1, 0, (0, 0, 0, 0, 0, 0)), (292, .lmul, 1, 0, (0, 0, 0, 0, 0, 0)), (293, .iload_n 3, 1, 0, (0, 0, 0, 0, 0, 0)), (294, .i2l, 1, 0, (0, 0, 0, 0, 0, 0)), (295, .ldiv, 1, 0, (0, 0, 0, 0, 0, 0)), (296, .lstore 10, 2, 0, (0, 0, 0, 0, 0, 0)), (298, .lload 8, 2, 0, (0, 0, 0, 0, 0, 0)), (300, .iload_n 2, 1, 0, (0, 0, 0, 0, 0, 0)), (301, .i2l, 1, 0, (0, 0, 0, 0, 0, 0)), (302, .lmul, 1, 0, (0, 0, 0, 0, 0, 0)), (303, .lload 10, 2, 0, (0, 0, 0, 0, 0, 0)), (305, .iload_n 3, 1, 0, (0, 0, 0, 0, 0, 0)), (306, .i2l, 1, 0, (0, 0, 0, 0, 0, 0)), (307, .lmul, 1, 0, (0, 0, 0, 0, 0, 0)), (308, .lsub, 1, 0, (0, 0, 0, 0, 0, 0)), (309, .aload_n 0, 1, 0, (0, 0, 0, 0, 0, 0)), (310, .getfield 45, 3, 0, (12, 12, 16, 2, 10, 0)), (313, .iload_n 1, 1, 0, (0, 0, 0, 0, 0, 0)), (314, .iaload, 1, 0, (13, 6, 0, 0, 0, 0)), (315, .i2l, 1, 0, (0, 0, 0, 0, 0, 0)), (316, .lmul, 1, 0, (0, 0, 0, 0, 0, 0)), (317, .iload_n 3, 1, 0, (0, 0, 0, 0, 0, 0)), (318, .i2l, 1, 0, (0, 0, 0, 0, 0, 0)), (319, .invokestatic 419, 3, 0, (3, 2, 0, 0, 0, 0)), (322, .lstore 12, 2, 0, (0, 0, 0, 0, 0, 0)), (324, .aload_n 0, 1, 0, (0, 0, 0, 0, 0, 0)), (325, .getfield 7, 3, 0, (12, 1, 16, 2, 1, 0)), (328, .iconst 4, 1, 0, (0, 0, 0, 0, 0, 4)), (329, .iload 7, 2, 0, (0, 0, 0, 0, 0, 0)), (331, .imul, 1, 0, (0, 0, 0, 0, 0, 0)), (332, .iload_n 1, 1, 0, (0, 0, 0, 0, 0, 0)), (333, .iadd, 1, 0, (0, 0, 0, 0, 0, 0)), (334, .lload 10, 2, 0, (0, 0, 0, 0, 0, 0)), (336, .l2i, 1, 0, (0, 0, 0, 0, 0, 0)), (337, .iastore, 1, 0, (13, 36, 0, 0, 0, 0)), (338, .lload 5, 2, 0, (0, 0, 0, 0, 0, 0)), (340, .lload 10, 2, 0, (0, 0, 0, 0, 0, 0)), (342, .ladd, 1, 0, (0, 0, 0, 0, 0, 0)), (343, .lstore 5, 2, 0, (0, 0, 0, 0, 0, 0)), (345, .aload_n 0, 1, 0, (0, 0, 0, 0, 0, 0)), (346, .getfield 13, 3, 0, (12, 2, 17, 2, 1, 0)), (349, .iload 7, 2, 0, (0, 0, 0, 0, 0, 0)), (351, .dup2, 1, 0, (0, 0, 0, 0, 0, 0)), (352, .laload, 1, 0, (14, 9, 0, 0, 0, 0)), (353, .lload 12, 2, 0, (0, 0, 0, 0, 0, 0)), (355, .ladd, 1, 0, (0, 0, 0, 0, 0, 0)), (356, .lastore, 1, 0, (14, 9, 0, 0, 0, 0)), (357, .aload_n 0, 1, 0, (0, 0, 0, 0, 0, 0)), (358, .getfield 13, 3, 0, (12, 2, 17, 2, 1, 0)), (361, .bipush 8, 2, 0, (0, 0, 0, 0, 0, 8)), (363, .dup2, 1, 0, (0, 0, 0, 0, 0, 0)), (364, .laload, 1, 0, (14, 9, 0, 0, 0, 0)), (365, .lload 12, 2, 0, (0, 0, 0, 0, 0, 0)), (367, .lsub, 1, 0, (0, 0, 0, 0, 0, 0)), (368, .lastore, 1, 0, (14, 9, 0, 0, 0, 0)), (369, .iinc 7 1, 3, 0, (0, 0, 0, 0, 0, 1)), (372, .goto (-105), 3, 0, (0, 0, 0, 0, 0, 0)), (375, .aload_n 0, 1, 0, (0, 0, 0, 0, 0, 0)), (376, .getfield 7, 3, 0, (12, 1, 16, 2, 1, 0)), (379, .bipush 32, 2, 0, (0, 0, 0, 0, 0, 32)), (381, .iload_n 1, 1, 0, (0, 0, 0, 0, 0, 0)), (382, .iadd, 1, 0, (0, 0, 0, 0, 0, 0)), (383, .lload 5, 2, 0, (0, 0, 0, 0, 0, 0)), (385, .lneg, 1, 0, (0, 0, 0, 0, 0, 0)), (386, .l2i, 1, 0, (0, 0, 0, 0, 0, 0)), (387, .iastore, 1, 0, (13, 36, 0, 0, 0, 0)), (388, .iload 4, 2, 0, (0, 0, 0, 0, 0, 0)), (390, .ireturn, 1, 0, (0, 0, 0, 0, 0, 0))]
set_option maxRecDepth 100000 in
theorem rk305 : R305.all (rok 2 305 1 [(215, [0, 0, 0]), (304, [0, 0]), (306, [0, 0, 0]), (217, [1, 1])]) = true := by decide +kernel
set_option maxRecDepth 100000 in
theorem tab305 {F215 : PM → Int32 → Int32 → Int32 → Int32} {G215 : PM → Int32 → Int32 → Int32 → Prop} {F304 : PM → Int32 → Int32 → Int32} {G304 : PM → Int32 → Int32 → Prop} {F306 : PM → Int32 → Int32 → Int32 → Int32} {G306 : PM → Int32 → Int32 → Int32 → Prop} {F217 : PM → Int64 → Int64 → Int64} {G217 : PM → Int64 → Int64 → Prop} : TabOK 2 305 1 [CC215 F215 G215, CC304 F304 G304, CC306 F306 G306, CC217 F217 G217] R305 := tab_ok (K := K305) rfl rfl (fun h => d305 h) rk305 (by decide +kernel)
set_option maxRecDepth 100000 in
theorem pc305 : cutpc [45, 127, 178, 267] R305 = true := by decide +kernel
set_option maxRecDepth 100000 in
theorem r12_doConvert_267 (F215 : PM → Int32 → Int32 → Int32 → Int32) (G215 : PM → Int32 → Int32 → Int32 → Prop) (o215 : CalOK 2 (CC215 F215 G215)) (F304 : PM → Int32 → Int32 → Int32) (G304 : PM → Int32 → Int32 → Prop) (o304 : CalOK 2 (CC304 F304 G304)) (F306 : PM → Int32 → Int32 → Int32 → Int32) (G306 : PM → Int32 → Int32 → Int32 → Prop) (o306 : CalOK 2 (CC306 F306 G306)) (F217 : PM → Int64 → Int64 → Int64) (G217 : PM → Int64 → Int64 → Prop) (o217 : CalOK 2 (CC217 F217 G217)) (kv267 : PM → Int32 → Int32 → Int32 → Int32 → Int64 → Int32 → Int32 × PM) (kg267 : PM → Int32 → Int32 → Int32 → Int32 → Int64 → Int32 → Prop) (hk267 : ∀ (p : PM) (v1 : Int32) (v2 : Int32) (v3 : Int32) (v4 : Int32) (v5 : Int64) (v7 : Int32) (d6 d8 d9 d10 d11 d12 d13 : ZV), Gr 2 p → kg267 p v1 v2 v3 v4 v5 v7 → ZJ 2 305 267 [zR 12 1, zI v1, zI v2, zI v3, zI v4, zL v5, d6, zI v7, d8, d9, d10, d11, d12, d13] [] p (hwI (kv267 p v1 v2 v3 v4 v5 v7))) : ∀ (p : PM) (v1 : Int32) (v2 : Int32) (v3 : Int32) (v4 : Int32) (v5 : Int64) (v7 : Int32) (d6 d8 d9 d10 d11 d12 d13 : ZV), Gr 2 p → bg12_doConvert_267 F217 G217 kg267 p v1 v2 v3 v4 v5 v7 → ZJ 2 305 267 [zR 12 1, zI v1, zI v2, zI v3, zI v4, zL v5, d6, zI v7, d8, d9, d10, d11, d12, d13] [] p (hwI (bv12_doConvert_267 F217 kv267 p v1 v2 v3 v4 v5 v7)) := by
  intro p v1 v2 v3 v4 v5 v7 d6 d8 d9 d10 d11 d12 d13 hg H
  exact rwI (n := 3000) (q := 267) (la := [zR 12 1, zI v1, zI v2, zI v3, zI v4, zL v5, d6, zI v7, d8, d9, d10, d11, d12, d13]) (sa := []) (ks := [fun _ _ s => (0, s), fun _ _ s => (0, s), fun _ _ s => (0, s), fun la sa s => kv267 s (ai la 1) (ai la 2) (ai la 3) (ai la 4) (al la 5) (ai la 7)]) (gs := [fun _ _ _ => False, fun _ _ _ => False, fun _ _ _ => False, fun la sa s => zsw (tc2 la [(112, 1), (0, 0), (0, 0), (0, 0), (0, 0), (1, 0), (2, 0), (0, 0), (2, 0), (2, 0), (2, 0), (2, 0), (2, 0), (2, 0)] && tc2 sa []) False (kg267 s (ai la 1) (ai la 2) (ai la 3) (ai la 4) (al la 5) (ai la 7))]) (fcons o215 (fcons o304 (fcons o306 (fcons o217 (fnil))))) tab305 pc305 ⟨fun _ _ _ _ H => H.elim, fun _ _ _ _ H => H.elim, fun _ _ _ _ H => H.elim, fun la sa s hg H => zcut H fun H => hk267 s (ai la 1) (ai la 2) (ai la 3) (ai la 4) (al la 5) (ai la 7) (zld la 6) (zld la 8) (zld la 9) (zld la 10) (zld la 11) (zld la 12) (zld la 13) hg H, trivial⟩ hg H
theorem t12_doConvert_267 : ∀ (n : Nat), ∀ (p : PM) (v1 : Int32) (v2 : Int32) (v3 : Int32) (v4 : Int32) (v5 : Int64) (v7 : Int32) (d6 d8 d9 d10 d11 d12 d13 : ZV), Gr 2 p → g12_doConvert_267 n p v1 v2 v3 v4 v5 v7 → ZJ 2 305 267 [zR 12 1, zI v1, zI v2, zI v3, zI v4, zL v5, d6, zI v7, d8, d9, d10, d11, d12, d13] [] p (hwI (v12_doConvert_267 n p v1 v2 v3 v4 v5 v7)) := by
  intro n
  induction n with
  | zero =>
    intro p v1 v2 v3 v4 v5 v7 d6 d8 d9 d10 d11 d12 d13 hg H
    exact H.elim
  | succ n ih => exact r12_doConvert_267 v12_in g12_in ok215 v12_hasContract g12_hasContract ok304 v12_converted g12_converted ok306 v12_floor g12_floor ok217 (v12_doConvert_267 n) (g12_doConvert_267 n) ih
set_option maxRecDepth 100000 in
theorem r12_doConvert_178 (F215 : PM → Int32 → Int32 → Int32 → Int32) (G215 : PM → Int32 → Int32 → Int32 → Prop) (o215 : CalOK 2 (CC215 F215 G215)) (F304 : PM → Int32 → Int32 → Int32) (G304 : PM → Int32 → Int32 → Prop) (o304 : CalOK 2 (CC304 F304 G304)) (F306 : PM → Int32 → Int32 → Int32 → Int32) (G306 : PM → Int32 → Int32 → Int32 → Prop) (o306 : CalOK 2 (CC306 F306 G306)) (F217 : PM → Int64 → Int64 → Int64) (G217 : PM → Int64 → Int64 → Prop) (o217 : CalOK 2 (CC217 F217 G217)) (kv178 : PM → Int32 → Int32 → Int32 → Int32 → Int32 → Int32 × PM) (kg178 : PM → Int32 → Int32 → Int32 → Int32 → Int32 → Prop) (hk178 : ∀ (p : PM) (v1 : Int32) (v2 : Int32) (v3 : Int32) (v4 : Int32) (v5 : Int32) (d6 d7 d8 d9 d10 d11 d12 d13 : ZV), Gr 2 p → kg178 p v1 v2 v3 v4 v5 → ZJ 2 305 178 [zR 12 1, zI v1, zI v2, zI v3, zI v4, zI v5, d6, d7, d8, d9, d10, d11, d12, d13] [] p (hwI (kv178 p v1 v2 v3 v4 v5))) (kv267 : PM → Int32 → Int32 → Int32 → Int32 → Int64 → Int32 → Int32 × PM) (kg267 : PM → Int32 → Int32 → Int32 → Int32 → Int64 → Int32 → Prop) (hk267 : ∀ (p : PM) (v1 : Int32) (v2 : Int32) (v3 : Int32) (v4 : Int32) (v5 : Int64) (v7 : Int32) (d6 d8 d9 d10 d11 d12 d13 : ZV), Gr 2 p → kg267 p v1 v2 v3 v4 v5 v7 → ZJ 2 305 267 [zR 12 1, zI v1, zI v2, zI v3, zI v4, zL v5, d6, zI v7, d8, d9, d10, d11, d12, d13] [] p (hwI (kv267 p v1 v2 v3 v4 v5 v7))) : ∀ (p : PM) (v1 : Int32) (v2 : Int32) (v3 : Int32) (v4 : Int32) (v5 : Int32) (d6 d7 d8 d9 d10 d11 d12 d13 : ZV), Gr 2 p → bg12_doConvert_178 F304 G304 F306 G306 kg178 kg267 p v1 v2 v3 v4 v5 → ZJ 2 305 178 [zR 12 1, zI v1, zI v2, zI v3, zI v4, zI v5, d6, d7, d8, d9, d10, d11, d12, d13] [] p (hwI (bv12_doConvert_178 F304 F306 kv178 kv267 p v1 v2 v3 v4 v5)) := by
  intro p v1 v2 v3 v4 v5 d6 d7 d8 d9 d10 d11 d12 d13 hg H
  exact rwI (n := 3000) (q := 178) (la := [zR 12 1, zI v1, zI v2, zI v3, zI v4, zI v5, d6, d7, d8, d9, d10, d11, d12, d13]) (sa := []) (ks := [fun _ _ s => (0, s), fun _ _ s => (0, s), fun la sa s => kv178 s (ai la 1) (ai la 2) (ai la 3) (ai la 4) (ai la 5), fun la sa s => kv267 s (ai la 1) (ai la 2) (ai la 3) (ai la 4) (al la 5) (ai la 7)]) (gs := [fun _ _ _ => False, fun _ _ _ => False, fun la sa s => zsw (tc2 la [(112, 1), (0, 0), (0, 0), (0, 0), (0, 0), (0, 0), (2, 0), (2, 0), (2, 0), (2, 0), (2, 0), (2, 0), (2, 0), (2, 0)] && tc2 sa []) False (kg178 s (ai la 1) (ai la 2) (ai la 3) (ai la 4) (ai la 5)), fun la sa s => zsw (tc2 la [(112, 1), (0, 0), (0, 0), (0, 0), (0, 0), (1, 0), (2, 0), (0, 0), (2, 0), (2, 0), (2, 0), (2, 0), (2, 0), (2, 0)] && tc2 sa []) False (kg267 s (ai la 1) (ai la 2) (ai la 3) (ai la 4) (al la 5) (ai la 7))]) (fcons o215 (fcons o304 (fcons o306 (fcons o217 (fnil))))) tab305 pc305 ⟨fun _ _ _ _ H => H.elim, fun _ _ _ _ H => H.elim, fun la sa s hg H => zcut H fun H => hk178 s (ai la 1) (ai la 2) (ai la 3) (ai la 4) (ai la 5) (zld la 6) (zld la 7) (zld la 8) (zld la 9) (zld la 10) (zld la 11) (zld la 12) (zld la 13) hg H, fun la sa s hg H => zcut H fun H => hk267 s (ai la 1) (ai la 2) (ai la 3) (ai la 4) (al la 5) (ai la 7) (zld la 6) (zld la 8) (zld la 9) (zld la 10) (zld la 11) (zld la 12) (zld la 13) hg H, trivial⟩ hg H
theorem t12_doConvert_178 : ∀ (n : Nat), ∀ (p : PM) (v1 : Int32) (v2 : Int32) (v3 : Int32) (v4 : Int32) (v5 : Int32) (d6 d7 d8 d9 d10 d11 d12 d13 : ZV), Gr 2 p → g12_doConvert_178 n p v1 v2 v3 v4 v5 → ZJ 2 305 178 [zR 12 1, zI v1, zI v2, zI v3, zI v4, zI v5, d6, d7, d8, d9, d10, d11, d12, d13] [] p (hwI (v12_doConvert_178 n p v1 v2 v3 v4 v5)) := by
  intro n
  induction n with
  | zero =>
    intro p v1 v2 v3 v4 v5 d6 d7 d8 d9 d10 d11 d12 d13 hg H
    exact H.elim
  | succ n ih => exact r12_doConvert_178 v12_in g12_in ok215 v12_hasContract g12_hasContract ok304 v12_converted g12_converted ok306 v12_floor g12_floor ok217 (v12_doConvert_178 n) (g12_doConvert_178 n) ih (v12_doConvert_267 FU) (g12_doConvert_267 FU) (t12_doConvert_267 FU)
set_option maxRecDepth 100000 in
theorem r12_doConvert_127 (F215 : PM → Int32 → Int32 → Int32 → Int32) (G215 : PM → Int32 → Int32 → Int32 → Prop) (o215 : CalOK 2 (CC215 F215 G215)) (F304 : PM → Int32 → Int32 → Int32) (G304 : PM → Int32 → Int32 → Prop) (o304 : CalOK 2 (CC304 F304 G304)) (F306 : PM → Int32 → Int32 → Int32 → Int32) (G306 : PM → Int32 → Int32 → Int32 → Prop) (o306 : CalOK 2 (CC306 F306 G306)) (F217 : PM → Int64 → Int64 → Int64) (G217 : PM → Int64 → Int64 → Prop) (o217 : CalOK 2 (CC217 F217 G217)) (kv127 : PM → Int32 → Int32 → Int32 → Int32 → Int32 → Int32 × PM) (kg127 : PM → Int32 → Int32 → Int32 → Int32 → Int32 → Prop) (hk127 : ∀ (p : PM) (v1 : Int32) (v2 : Int32) (v3 : Int32) (v4 : Int32) (v5 : Int32) (d6 d7 d8 d9 d10 d11 d12 d13 : ZV), Gr 2 p → kg127 p v1 v2 v3 v4 v5 → ZJ 2 305 127 [zR 12 1, zI v1, zI v2, zI v3, zI v4, zI v5, d6, d7, d8, d9, d10, d11, d12, d13] [] p (hwI (kv127 p v1 v2 v3 v4 v5))) (kv178 : PM → Int32 → Int32 → Int32 → Int32 → Int32 → Int32 × PM) (kg178 : PM → Int32 → Int32 → Int32 → Int32 → Int32 → Prop) (hk178 : ∀ (p : PM) (v1 : Int32) (v2 : Int32) (v3 : Int32) (v4 : Int32) (v5 : Int32) (d6 d7 d8 d9 d10 d11 d12 d13 : ZV), Gr 2 p → kg178 p v1 v2 v3 v4 v5 → ZJ 2 305 178 [zR 12 1, zI v1, zI v2, zI v3, zI v4, zI v5, d6, d7, d8, d9, d10, d11, d12, d13] [] p (hwI (kv178 p v1 v2 v3 v4 v5))) : ∀ (p : PM) (v1 : Int32) (v2 : Int32) (v3 : Int32) (v4 : Int32) (v5 : Int32) (d6 d7 d8 d9 d10 d11 d12 d13 : ZV), Gr 2 p → bg12_doConvert_127 F304 G304 kg127 kg178 p v1 v2 v3 v4 v5 → ZJ 2 305 127 [zR 12 1, zI v1, zI v2, zI v3, zI v4, zI v5, d6, d7, d8, d9, d10, d11, d12, d13] [] p (hwI (bv12_doConvert_127 F304 kv127 kv178 p v1 v2 v3 v4 v5)) := by
  intro p v1 v2 v3 v4 v5 d6 d7 d8 d9 d10 d11 d12 d13 hg H
  exact rwI (n := 3000) (q := 127) (la := [zR 12 1, zI v1, zI v2, zI v3, zI v4, zI v5, d6, d7, d8, d9, d10, d11, d12, d13]) (sa := []) (ks := [fun _ _ s => (0, s), fun la sa s => kv127 s (ai la 1) (ai la 2) (ai la 3) (ai la 4) (ai la 5), fun la sa s => kv178 s (ai la 1) (ai la 2) (ai la 3) (ai la 4) (ai la 5), fun _ _ s => (0, s)]) (gs := [fun _ _ _ => False, fun la sa s => zsw (tc2 la [(112, 1), (0, 0), (0, 0), (0, 0), (0, 0), (0, 0), (2, 0), (2, 0), (2, 0), (2, 0), (2, 0), (2, 0), (2, 0), (2, 0)] && tc2 sa []) False (kg127 s (ai la 1) (ai la 2) (ai la 3) (ai la 4) (ai la 5)), fun la sa s => zsw (tc2 la [(112, 1), (0, 0), (0, 0), (0, 0), (0, 0), (0, 0), (2, 0), (2, 0), (2, 0), (2, 0), (2, 0), (2, 0), (2, 0), (2, 0)] && tc2 sa []) False (kg178 s (ai la 1) (ai la 2) (ai la 3) (ai la 4) (ai la 5)), fun _ _ _ => False]) (fcons o215 (fcons o304 (fcons o306 (fcons o217 (fnil))))) tab305 pc305 ⟨fun _ _ _ _ H => H.elim, fun la sa s hg H => zcut H fun H => hk127 s (ai la 1) (ai la 2) (ai la 3) (ai la 4) (ai la 5) (zld la 6) (zld la 7) (zld la 8) (zld la 9) (zld la 10) (zld la 11) (zld la 12) (zld la 13) hg H, fun la sa s hg H => zcut H fun H => hk178 s (ai la 1) (ai la 2) (ai la 3) (ai la 4) (ai la 5) (zld la 6) (zld la 7) (zld la 8) (zld la 9) (zld la 10) (zld la 11) (zld la 12) (zld la 13) hg H, fun _ _ _ _ H => H.elim, trivial⟩ hg H
theorem t12_doConvert_127 : ∀ (n : Nat), ∀ (p : PM) (v1 : Int32) (v2 : Int32) (v3 : Int32) (v4 : Int32) (v5 : Int32) (d6 d7 d8 d9 d10 d11 d12 d13 : ZV), Gr 2 p → g12_doConvert_127 n p v1 v2 v3 v4 v5 → ZJ 2 305 127 [zR 12 1, zI v1, zI v2, zI v3, zI v4, zI v5, d6, d7, d8, d9, d10, d11, d12, d13] [] p (hwI (v12_doConvert_127 n p v1 v2 v3 v4 v5)) := by
  intro n
  induction n with
  | zero =>
    intro p v1 v2 v3 v4 v5 d6 d7 d8 d9 d10 d11 d12 d13 hg H
    exact H.elim
  | succ n ih => exact r12_doConvert_127 v12_in g12_in ok215 v12_hasContract g12_hasContract ok304 v12_converted g12_converted ok306 v12_floor g12_floor ok217 (v12_doConvert_127 n) (g12_doConvert_127 n) ih (v12_doConvert_178 FU) (g12_doConvert_178 FU) (t12_doConvert_178 FU)
set_option maxRecDepth 100000 in
theorem r12_doConvert_45 (F215 : PM → Int32 → Int32 → Int32 → Int32) (G215 : PM → Int32 → Int32 → Int32 → Prop) (o215 : CalOK 2 (CC215 F215 G215)) (F304 : PM → Int32 → Int32 → Int32) (G304 : PM → Int32 → Int32 → Prop) (o304 : CalOK 2 (CC304 F304 G304)) (F306 : PM → Int32 → Int32 → Int32 → Int32) (G306 : PM → Int32 → Int32 → Int32 → Prop) (o306 : CalOK 2 (CC306 F306 G306)) (F217 : PM → Int64 → Int64 → Int64) (G217 : PM → Int64 → Int64 → Prop) (o217 : CalOK 2 (CC217 F217 G217)) (kv45 : PM → Int32 → Int32 → Int32 → Int32 → Int32 × PM) (kg45 : PM → Int32 → Int32 → Int32 → Int32 → Prop) (hk45 : ∀ (p : PM) (v1 : Int32) (v2 : Int32) (v3 : Int32) (v4 : Int32) (d5 d6 d7 d8 d9 d10 d11 d12 d13 : ZV), Gr 2 p → kg45 p v1 v2 v3 v4 → ZJ 2 305 45 [zR 12 1, zI v1, zI v2, zI v3, zI v4, d5, d6, d7, d8, d9, d10, d11, d12, d13] [] p (hwI (kv45 p v1 v2 v3 v4))) (kv127 : PM → Int32 → Int32 → Int32 → Int32 → Int32 → Int32 × PM) (kg127 : PM → Int32 → Int32 → Int32 → Int32 → Int32 → Prop) (hk127 : ∀ (p : PM) (v1 : Int32) (v2 : Int32) (v3 : Int32) (v4 : Int32) (v5 : Int32) (d6 d7 d8 d9 d10 d11 d12 d13 : ZV), Gr 2 p → kg127 p v1 v2 v3 v4 v5 → ZJ 2 305 127 [zR 12 1, zI v1, zI v2, zI v3, zI v4, zI v5, d6, d7, d8, d9, d10, d11, d12, d13] [] p (hwI (kv127 p v1 v2 v3 v4 v5))) : ∀ (p : PM) (v1 : Int32) (v2 : Int32) (v3 : Int32) (v4 : Int32) (d5 d6 d7 d8 d9 d10 d11 d12 d13 : ZV), Gr 2 p → bg12_doConvert_45 kg45 kg127 p v1 v2 v3 v4 → ZJ 2 305 45 [zR 12 1, zI v1, zI v2, zI v3, zI v4, d5, d6, d7, d8, d9, d10, d11, d12, d13] [] p (hwI (bv12_doConvert_45 kv45 kv127 p v1 v2 v3 v4)) := by
  intro p v1 v2 v3 v4 d5 d6 d7 d8 d9 d10 d11 d12 d13 hg H
  exact rwI (n := 3000) (q := 45) (la := [zR 12 1, zI v1, zI v2, zI v3, zI v4, d5, d6, d7, d8, d9, d10, d11, d12, d13]) (sa := []) (ks := [fun la sa s => kv45 s (ai la 1) (ai la 2) (ai la 3) (ai la 4), fun la sa s => kv127 s (ai la 1) (ai la 2) (ai la 3) (ai la 4) (ai la 5), fun _ _ s => (0, s), fun _ _ s => (0, s)]) (gs := [fun la sa s => zsw (tc2 la [(112, 1), (0, 0), (0, 0), (0, 0), (0, 0), (2, 0), (2, 0), (2, 0), (2, 0), (2, 0), (2, 0), (2, 0), (2, 0), (2, 0)] && tc2 sa []) False (kg45 s (ai la 1) (ai la 2) (ai la 3) (ai la 4)), fun la sa s => zsw (tc2 la [(112, 1), (0, 0), (0, 0), (0, 0), (0, 0), (0, 0), (2, 0), (2, 0), (2, 0), (2, 0), (2, 0), (2, 0), (2, 0), (2, 0)] && tc2 sa []) False (kg127 s (ai la 1) (ai la 2) (ai la 3) (ai la 4) (ai la 5)), fun _ _ _ => False, fun _ _ _ => False]) (fcons o215 (fcons o304 (fcons o306 (fcons o217 (fnil))))) tab305 pc305 ⟨fun la sa s hg H => zcut H fun H => hk45 s (ai la 1) (ai la 2) (ai la 3) (ai la 4) (zld la 5) (zld la 6) (zld la 7) (zld la 8) (zld la 9) (zld la 10) (zld la 11) (zld la 12) (zld la 13) hg H, fun la sa s hg H => zcut H fun H => hk127 s (ai la 1) (ai la 2) (ai la 3) (ai la 4) (ai la 5) (zld la 6) (zld la 7) (zld la 8) (zld la 9) (zld la 10) (zld la 11) (zld la 12) (zld la 13) hg H, fun _ _ _ _ H => H.elim, fun _ _ _ _ H => H.elim, trivial⟩ hg H
theorem t12_doConvert_45 : ∀ (n : Nat), ∀ (p : PM) (v1 : Int32) (v2 : Int32) (v3 : Int32) (v4 : Int32) (d5 d6 d7 d8 d9 d10 d11 d12 d13 : ZV), Gr 2 p → g12_doConvert_45 n p v1 v2 v3 v4 → ZJ 2 305 45 [zR 12 1, zI v1, zI v2, zI v3, zI v4, d5, d6, d7, d8, d9, d10, d11, d12, d13] [] p (hwI (v12_doConvert_45 n p v1 v2 v3 v4)) := by
  intro n
  induction n with
  | zero =>
    intro p v1 v2 v3 v4 d5 d6 d7 d8 d9 d10 d11 d12 d13 hg H
    exact H.elim
  | succ n ih => exact r12_doConvert_45 v12_in g12_in ok215 v12_hasContract g12_hasContract ok304 v12_converted g12_converted ok306 v12_floor g12_floor ok217 (v12_doConvert_45 n) (g12_doConvert_45 n) ih (v12_doConvert_127 FU) (g12_doConvert_127 FU) (t12_doConvert_127 FU)
set_option maxRecDepth 100000 in
theorem r12_doConvert (F215 : PM → Int32 → Int32 → Int32 → Int32) (G215 : PM → Int32 → Int32 → Int32 → Prop) (o215 : CalOK 2 (CC215 F215 G215)) (F304 : PM → Int32 → Int32 → Int32) (G304 : PM → Int32 → Int32 → Prop) (o304 : CalOK 2 (CC304 F304 G304)) (F306 : PM → Int32 → Int32 → Int32 → Int32) (G306 : PM → Int32 → Int32 → Int32 → Prop) (o306 : CalOK 2 (CC306 F306 G306)) (F217 : PM → Int64 → Int64 → Int64) (G217 : PM → Int64 → Int64 → Prop) (o217 : CalOK 2 (CC217 F217 G217)) (kv45 : PM → Int32 → Int32 → Int32 → Int32 → Int32 × PM) (kg45 : PM → Int32 → Int32 → Int32 → Int32 → Prop) (hk45 : ∀ (p : PM) (v1 : Int32) (v2 : Int32) (v3 : Int32) (v4 : Int32) (d5 d6 d7 d8 d9 d10 d11 d12 d13 : ZV), Gr 2 p → kg45 p v1 v2 v3 v4 → ZJ 2 305 45 [zR 12 1, zI v1, zI v2, zI v3, zI v4, d5, d6, d7, d8, d9, d10, d11, d12, d13] [] p (hwI (kv45 p v1 v2 v3 v4))) : ∀ (p : PM) (v1 : Int32) (v2 : Int32) (v3 : Int32), Gr 2 p → bg12_doConvert F215 G215 kg45 p v1 v2 v3 → ZJ 2 305 0 [zR 12 1, zI v1, zI v2, zI v3, zJ, zJ, zJ, zJ, zJ, zJ, zJ, zJ, zJ, zJ] [] p (hwI (bv12_doConvert F215 kv45 p v1 v2 v3)) := by
  intro p v1 v2 v3  hg H
  exact rwI (n := 3000) (q := 0) (la := [zR 12 1, zI v1, zI v2, zI v3, zJ, zJ, zJ, zJ, zJ, zJ, zJ, zJ, zJ, zJ]) (sa := []) (ks := [fun la sa s => kv45 s (ai la 1) (ai la 2) (ai la 3) (ai la 4), fun _ _ s => (0, s), fun _ _ s => (0, s), fun _ _ s => (0, s)]) (gs := [fun la sa s => zsw (tc2 la [(112, 1), (0, 0), (0, 0), (0, 0), (0, 0), (2, 0), (2, 0), (2, 0), (2, 0), (2, 0), (2, 0), (2, 0), (2, 0), (2, 0)] && tc2 sa []) False (kg45 s (ai la 1) (ai la 2) (ai la 3) (ai la 4)), fun _ _ _ => False, fun _ _ _ => False, fun _ _ _ => False]) (fcons o215 (fcons o304 (fcons o306 (fcons o217 (fnil))))) tab305 pc305 ⟨fun la sa s hg H => zcut H fun H => hk45 s (ai la 1) (ai la 2) (ai la 3) (ai la 4) (zld la 5) (zld la 6) (zld la 7) (zld la 8) (zld la 9) (zld la 10) (zld la 11) (zld la 12) (zld la 13) hg H, fun _ _ _ _ H => H.elim, fun _ _ _ _ H => H.elim, fun _ _ _ _ H => H.elim, trivial⟩ hg H
theorem t12_doConvert : ∀ (p : PM) (v1 : Int32) (v2 : Int32) (v3 : Int32), Gr 2 p → g12_doConvert p v1 v2 v3 → ZJ 2 305 0 [zR 12 1, zI v1, zI v2, zI v3, zJ, zJ, zJ, zJ, zJ, zJ, zJ, zJ, zJ, zJ] [] p (hwI (v12_doConvert p v1 v2 v3)) := r12_doConvert v12_in g12_in ok215 v12_hasContract g12_hasContract ok304 v12_converted g12_converted ok306 v12_floor g12_floor ok217 (v12_doConvert_45 FU) (g12_doConvert_45 FU) (t12_doConvert_45 FU)
def CC305 (F : PM → Int32 → Int32 → Int32 → Int32 × PM) (G : PM → Int32 → Int32 → Int32 → Prop) : Cal := (305, [15, 0, 0, 0], 1, false, fun as p => (zI (F p (ai as 1) (ai as 2) (ai as 3)).1, (F p (ai as 1) (ai as 2) (ai as 3)).2), fun as p => zsw (tc2 as [(112, 1), (0, 0), (0, 0), (0, 0)]) False (G p (ai as 1) (ai as 2) (ai as 3)))
set_option maxRecDepth 100000 in
theorem okr305 (F : PM → Int32 → Int32 → Int32 → Int32 × PM) (G : PM → Int32 → Int32 → Int32 → Prop) (h : ∀ (p : PM) (v1 : Int32) (v2 : Int32) (v3 : Int32), Gr 2 p → G p v1 v2 v3 → ZJ 2 305 0 [zR 12 1, zI v1, zI v2, zI v3, zJ, zJ, zJ, zJ, zJ, zJ, zJ, zJ, zJ, zJ] [] p (hwI (F p v1 v2 v3))) : CalOK 2 (CC305 F G) := cal_ok (m := 14) (by unfold mL; rw [mX_305]) (fun as p hg H => h p (ai as 1) (ai as 2) (ai as 3) hg H)
theorem ok305 : CalOK 2 (CC305 v12_doConvert g12_doConvert) := okr305 v12_doConvert g12_doConvert t12_doConvert
noncomputable def bv12_callOf (F279 : PM → Int32 → Int64 → Int64 → Int64 × PM) (p : PM) (v1 : Int32) : Int64 × PM :=
  let r1 : Int64 × PM := F279 p v1 ((p.1 13 36 (v1).toNatClampNeg)).toInt64 ((p.1 13 37 (v1).toNatClampNeg)).toInt64
  (r1.1, r1.2)
noncomputable def v12_callOf (p : PM) (v1 : Int32) : Int64 × PM := bv12_callOf v12_call p v1
noncomputable def bg12_callOf (F279 : PM → Int32 → Int64 → Int64 → Int64 × PM) (G279 : PM → Int32 → Int64 → Int64 → Prop) (p : PM) (v1 : Int32) : Prop :=
  (inb v1 4) ∧ (
  (inb v1 4) ∧ (
  (G279 p v1 ((p.1 13 36 (v1).toNatClampNeg)).toInt64 ((p.1 13 37 (v1).toNatClampNeg)).toInt64) ∧ (
  let r1 : Int64 × PM := F279 p v1 ((p.1 13 36 (v1).toNatClampNeg)).toInt64 ((p.1 13 37 (v1).toNatClampNeg)).toInt64
  True)))
noncomputable def g12_callOf (p : PM) (v1 : Int32) : Prop := bg12_callOf v12_call g12_call p v1
def R307 : List Row := [(0, .aload_n 0, 1, 0, (0, 0, 0, 0, 0, 0)), (1, .iload_n 1, 1, 0, (0, 0, 0, 0, 0, 0)), (2, .aload_n 0, 1, 0, (0, 0, 0, 0, 0, 0)), (3, .getfield 144, 3, 0, (12, 51, 16, 2, 36, 0)), (6, .iload_n 1, 1, 0, (0, 0, 0, 0, 0, 0)), (7, .iaload, 1, 0, (13, 4, 0, 0, 0, 0)), (8, .i2l, 1, 0, (0, 0, 0, 0, 0, 0)), (9, .aload_n 0, 1, 0, (0, 0, 0, 0, 0, 0)), (10, .getfield 147, 3, 0, (12, 52, 16, 2, 37, 0)), (13, .iload_n 1, 1, 0, (0, 0, 0, 0, 0, 0)), (14, .iaload, 1, 0, (13, 4, 0, 0, 0, 0)), (15, .i2l, 1, 0, (0, 0, 0, 0, 0, 0)), (16, .invokevirtual 475, 3, 0, (0, 4, 0, 0, 1, 0)), (19, .lreturn, 1, 0, (0, 0, 0, 0, 0, 0))]
set_option maxRecDepth 100000 in
theorem rk307 : R307.all (rok 2 307 2 [(279, [15, 0, 1, 1])]) = true := by decide +kernel
set_option maxRecDepth 100000 in
theorem tab307 {F279 : PM → Int32 → Int64 → Int64 → Int64 × PM} {G279 : PM → Int32 → Int64 → Int64 → Prop} : TabOK 2 307 2 [CC279 F279 G279] R307 := tab_ok (K := K307) rfl rfl (fun h => d307 h) rk307 (by decide +kernel)
set_option maxRecDepth 100000 in
theorem pc307 : cutpc [] R307 = true := by decide +kernel
set_option maxRecDepth 100000 in
theorem r12_callOf (F279 : PM → Int32 → Int64 → Int64 → Int64 × PM) (G279 : PM → Int32 → Int64 → Int64 → Prop) (o279 : CalOK 2 (CC279 F279 G279)) : ∀ (p : PM) (v1 : Int32), Gr 2 p → bg12_callOf F279 G279 p v1 → ZJ 2 307 0 [zR 12 1, zI v1] [] p (hwL (bv12_callOf F279 p v1)) := by
  intro p v1  hg H
  exact rwL (n := 3000) (q := 0) (la := [zR 12 1, zI v1]) (sa := []) (ks := []) (gs := []) (fcons o279 (fnil)) tab307 pc307 trivial hg H
theorem t12_callOf : ∀ (p : PM) (v1 : Int32), Gr 2 p → g12_callOf p v1 → ZJ 2 307 0 [zR 12 1, zI v1] [] p (hwL (v12_callOf p v1)) := r12_callOf v12_call g12_call ok279
def CC307 (F : PM → Int32 → Int64 × PM) (G : PM → Int32 → Prop) : Cal := (307, [15, 0], 2, false, fun as p => (zL (F p (ai as 1)).1, (F p (ai as 1)).2), fun as p => zsw (tc2 as [(112, 1), (0, 0)]) False (G p (ai as 1)))
set_option maxRecDepth 100000 in
theorem okr307 (F : PM → Int32 → Int64 × PM) (G : PM → Int32 → Prop) (h : ∀ (p : PM) (v1 : Int32), Gr 2 p → G p v1 → ZJ 2 307 0 [zR 12 1, zI v1] [] p (hwL (F p v1))) : CalOK 2 (CC307 F G) := cal_ok (m := 2) (by unfold mL; rw [mX_307]) (fun as p hg H => h p (ai as 1) hg H)
theorem ok307 : CalOK 2 (CC307 v12_callOf g12_callOf) := okr307 v12_callOf g12_callOf t12_callOf
noncomputable def bv12_doPay_89 (F279 : PM → Int32 → Int64 → Int64 → Int64 × PM) (F307 : PM → Int32 → Int64 × PM) (p : PM) (v1 : Int32) (v2 : Int32) (v3 : Int32) : Int64 × PM :=
  if (p.1 12 1 0) = 0 then (
    if v2 < 0 then (
      let r4 : Int64 × PM := F279 p v1 (((p.1 13 36 (v1).toNatClampNeg) + v2)).toInt64 (((p.1 13 37 (v1).toNatClampNeg) + v3)).toInt64
      if 0 < (lg_cmp r4.1 (cl 0)) then (
        let p8 : PM := pI r4.2 12 1 0 (cn 3)
        if (p8.1 12 1 0) = 0 then (
          let p9 : PM := pI p8 13 36 (v1).toNatClampNeg ((p8.1 13 36 (v1).toNatClampNeg) + v2)
          let p10 : PM := pI p9 13 37 (v1).toNatClampNeg ((p9.1 13 37 (v1).toNatClampNeg) + v3)
          let r11 : Int64 × PM := F307 p10 v1
          (r11.1, r11.2))
        else (
          ((cl 0), p8)))
      else (
        if (r4.2.1 12 1 0) = 0 then (
          let p5 : PM := pI r4.2 13 36 (v1).toNatClampNeg ((r4.2.1 13 36 (v1).toNatClampNeg) + v2)
          let p6 : PM := pI p5 13 37 (v1).toNatClampNeg ((p5.1 13 37 (v1).toNatClampNeg) + v3)
          let r7 : Int64 × PM := F307 p6 v1
          (r7.1, r7.2))
        else (
          ((cl 0), r4.2))))
    else (
      if v3 < 0 then (
        let r15 : Int64 × PM := F279 p v1 (((p.1 13 36 (v1).toNatClampNeg) + v2)).toInt64 (((p.1 13 37 (v1).toNatClampNeg) + v3)).toInt64
        if 0 < (lg_cmp r15.1 (cl 0)) then (
          let p19 : PM := pI r15.2 12 1 0 (cn 3)
          if (p19.1 12 1 0) = 0 then (
            let p20 : PM := pI p19 13 36 (v1).toNatClampNeg ((p19.1 13 36 (v1).toNatClampNeg) + v2)
            let p21 : PM := pI p20 13 37 (v1).toNatClampNeg ((p20.1 13 37 (v1).toNatClampNeg) + v3)
            let r22 : Int64 × PM := F307 p21 v1
            (r22.1, r22.2))
          else (
            ((cl 0), p19)))
        else (
          if (r15.2.1 12 1 0) = 0 then (
            let p16 : PM := pI r15.2 13 36 (v1).toNatClampNeg ((r15.2.1 13 36 (v1).toNatClampNeg) + v2)
            let p17 : PM := pI p16 13 37 (v1).toNatClampNeg ((p16.1 13 37 (v1).toNatClampNeg) + v3)
            let r18 : Int64 × PM := F307 p17 v1
            (r18.1, r18.2))
          else (
            ((cl 0), r15.2))))
      else (
        if (p.1 12 1 0) = 0 then (
          let p12 : PM := pI p 13 36 (v1).toNatClampNeg ((p.1 13 36 (v1).toNatClampNeg) + v2)
          let p13 : PM := pI p12 13 37 (v1).toNatClampNeg ((p12.1 13 37 (v1).toNatClampNeg) + v3)
          let r14 : Int64 × PM := F307 p13 v1
          (r14.1, r14.2))
        else (
          ((cl 0), p)))))
  else (
    if (p.1 12 1 0) = 0 then (
      let p1 : PM := pI p 13 36 (v1).toNatClampNeg ((p.1 13 36 (v1).toNatClampNeg) + v2)
      let p2 : PM := pI p1 13 37 (v1).toNatClampNeg ((p1.1 13 37 (v1).toNatClampNeg) + v3)
      let r3 : Int64 × PM := F307 p2 v1
      (r3.1, r3.2))
    else (
      ((cl 0), p)))
noncomputable def v12_doPay_89 (p : PM) (v1 : Int32) (v2 : Int32) (v3 : Int32) : Int64 × PM := bv12_doPay_89 v12_call v12_callOf p v1 v2 v3
noncomputable def bg12_doPay_89 (F279 : PM → Int32 → Int64 → Int64 → Int64 × PM) (G279 : PM → Int32 → Int64 → Int64 → Prop) (F307 : PM → Int32 → Int64 × PM) (G307 : PM → Int32 → Prop) (p : PM) (v1 : Int32) (v2 : Int32) (v3 : Int32) : Prop :=
  if (p.1 12 1 0) = 0 then (
    if v2 < 0 then (
      (inb v1 4) ∧ (
      (inb v1 4) ∧ (
      (G279 p v1 (((p.1 13 36 (v1).toNatClampNeg) + v2)).toInt64 (((p.1 13 37 (v1).toNatClampNeg) + v3)).toInt64) ∧ (
      let r4 : Int64 × PM := F279 p v1 (((p.1 13 36 (v1).toNatClampNeg) + v2)).toInt64 (((p.1 13 37 (v1).toNatClampNeg) + v3)).toInt64
      if 0 < (lg_cmp r4.1 (cl 0)) then (
        let p8 : PM := pI r4.2 12 1 0 (cn 3)
        if (p8.1 12 1 0) = 0 then (
          (inb v1 4) ∧ (
          (inb v1 4) ∧ (
          let p9 : PM := pI p8 13 36 (v1).toNatClampNeg ((p8.1 13 36 (v1).toNatClampNeg) + v2)
          (inb v1 4) ∧ (
          (inb v1 4) ∧ (
          let p10 : PM := pI p9 13 37 (v1).toNatClampNeg ((p9.1 13 37 (v1).toNatClampNeg) + v3)
          (G307 p10 v1) ∧ (
          let r11 : Int64 × PM := F307 p10 v1
          True))))))
        else (
          True))
      else (
        if (r4.2.1 12 1 0) = 0 then (
          (inb v1 4) ∧ (
          (inb v1 4) ∧ (
          let p5 : PM := pI r4.2 13 36 (v1).toNatClampNeg ((r4.2.1 13 36 (v1).toNatClampNeg) + v2)
          (inb v1 4) ∧ (
          (inb v1 4) ∧ (
          let p6 : PM := pI p5 13 37 (v1).toNatClampNeg ((p5.1 13 37 (v1).toNatClampNeg) + v3)
          (G307 p6 v1) ∧ (
          let r7 : Int64 × PM := F307 p6 v1
          True))))))
        else (
          True))))))
    else (
      if v3 < 0 then (
        (inb v1 4) ∧ (
        (inb v1 4) ∧ (
        (G279 p v1 (((p.1 13 36 (v1).toNatClampNeg) + v2)).toInt64 (((p.1 13 37 (v1).toNatClampNeg) + v3)).toInt64) ∧ (
        let r15 : Int64 × PM := F279 p v1 (((p.1 13 36 (v1).toNatClampNeg) + v2)).toInt64 (((p.1 13 37 (v1).toNatClampNeg) + v3)).toInt64
        if 0 < (lg_cmp r15.1 (cl 0)) then (
          let p19 : PM := pI r15.2 12 1 0 (cn 3)
          if (p19.1 12 1 0) = 0 then (
            (inb v1 4) ∧ (
            (inb v1 4) ∧ (
            let p20 : PM := pI p19 13 36 (v1).toNatClampNeg ((p19.1 13 36 (v1).toNatClampNeg) + v2)
            (inb v1 4) ∧ (
            (inb v1 4) ∧ (
            let p21 : PM := pI p20 13 37 (v1).toNatClampNeg ((p20.1 13 37 (v1).toNatClampNeg) + v3)
            (G307 p21 v1) ∧ (
            let r22 : Int64 × PM := F307 p21 v1
            True))))))
          else (
            True))
        else (
          if (r15.2.1 12 1 0) = 0 then (
            (inb v1 4) ∧ (
            (inb v1 4) ∧ (
            let p16 : PM := pI r15.2 13 36 (v1).toNatClampNeg ((r15.2.1 13 36 (v1).toNatClampNeg) + v2)
            (inb v1 4) ∧ (
            (inb v1 4) ∧ (
            let p17 : PM := pI p16 13 37 (v1).toNatClampNeg ((p16.1 13 37 (v1).toNatClampNeg) + v3)
            (G307 p17 v1) ∧ (
            let r18 : Int64 × PM := F307 p17 v1
            True))))))
          else (
            True))))))
      else (
        if (p.1 12 1 0) = 0 then (
          (inb v1 4) ∧ (
          (inb v1 4) ∧ (
          let p12 : PM := pI p 13 36 (v1).toNatClampNeg ((p.1 13 36 (v1).toNatClampNeg) + v2)
          (inb v1 4) ∧ (
          (inb v1 4) ∧ (
          let p13 : PM := pI p12 13 37 (v1).toNatClampNeg ((p12.1 13 37 (v1).toNatClampNeg) + v3)
          (G307 p13 v1) ∧ (
          let r14 : Int64 × PM := F307 p13 v1
          True))))))
        else (
          True))))
  else (
    if (p.1 12 1 0) = 0 then (
      (inb v1 4) ∧ (
      (inb v1 4) ∧ (
      let p1 : PM := pI p 13 36 (v1).toNatClampNeg ((p.1 13 36 (v1).toNatClampNeg) + v2)
      (inb v1 4) ∧ (
      (inb v1 4) ∧ (
      let p2 : PM := pI p1 13 37 (v1).toNatClampNeg ((p1.1 13 37 (v1).toNatClampNeg) + v3)
      (G307 p2 v1) ∧ (
      let r3 : Int64 × PM := F307 p2 v1
      True))))))
    else (
      True))
noncomputable def g12_doPay_89 (p : PM) (v1 : Int32) (v2 : Int32) (v3 : Int32) : Prop := bg12_doPay_89 v12_call g12_call v12_callOf g12_callOf p v1 v2 v3
noncomputable def bv12_doPay_38 (kv89 : PM → Int32 → Int32 → Int32 → Int64 × PM) (p : PM) (v1 : Int32) (v2 : Int32) (v3 : Int32) : Int64 × PM :=
  let p1 : PM := pI p 12 1 0 (cn 2)
  if (p1.1 12 1 0) = 0 then (
    if (p1.1 15 9 (v1).toNatClampNeg) = 0 then (
      if ((p1.1 13 36 (v1).toNatClampNeg) + v2) < 0 then (
        let p3 : PM := pI p1 12 1 0 (cn 3)
        kv89 p3 v1 v2 v3)
      else (
        if ((p1.1 13 37 (v1).toNatClampNeg) + v3) < 0 then (
          let p4 : PM := pI p1 12 1 0 (cn 3)
          kv89 p4 v1 v2 v3)
        else (
          kv89 p1 v1 v2 v3)))
    else (
      let p2 : PM := pI p1 12 1 0 (cn 3)
      kv89 p2 v1 v2 v3))
  else (
    kv89 p1 v1 v2 v3)
noncomputable def v12_doPay_38 (p : PM) (v1 : Int32) (v2 : Int32) (v3 : Int32) : Int64 × PM := bv12_doPay_38 v12_doPay_89 p v1 v2 v3
noncomputable def bg12_doPay_38 (kg89 : PM → Int32 → Int32 → Int32 → Prop) (p : PM) (v1 : Int32) (v2 : Int32) (v3 : Int32) : Prop :=
  let p1 : PM := pI p 12 1 0 (cn 2)
  if (p1.1 12 1 0) = 0 then (
    (inb v1 4) ∧ (
    if (p1.1 15 9 (v1).toNatClampNeg) = 0 then (
      (inb v1 4) ∧ (
      if ((p1.1 13 36 (v1).toNatClampNeg) + v2) < 0 then (
        let p3 : PM := pI p1 12 1 0 (cn 3)
        kg89 p3 v1 v2 v3)
      else (
        (inb v1 4) ∧ (
        if ((p1.1 13 37 (v1).toNatClampNeg) + v3) < 0 then (
          let p4 : PM := pI p1 12 1 0 (cn 3)
          kg89 p4 v1 v2 v3)
        else (
          kg89 p1 v1 v2 v3)))))
    else (
      let p2 : PM := pI p1 12 1 0 (cn 3)
      kg89 p2 v1 v2 v3)))
  else (
    kg89 p1 v1 v2 v3)
noncomputable def g12_doPay_38 (p : PM) (v1 : Int32) (v2 : Int32) (v3 : Int32) : Prop := bg12_doPay_38 g12_doPay_89 p v1 v2 v3
noncomputable def bv12_doPay (F215 : PM → Int32 → Int32 → Int32 → Int32) (kv38 : PM → Int32 → Int32 → Int32 → Int64 × PM) (kv89 : PM → Int32 → Int32 → Int32 → Int64 × PM) (p : PM) (v1 : Int32) (v2 : Int32) (v3 : Int32) : Int64 × PM :=
  if (F215 p v1 (cn 0) (cn 3)) = 0 then (
    let p5 : PM := pI p 12 1 0 (cn 1)
    if (p5.1 12 1 0) = 0 then (
      if (p5.1 15 9 (v1).toNatClampNeg) = 0 then (
        if ((p5.1 13 36 (v1).toNatClampNeg) + v2) < 0 then (
          let p7 : PM := pI p5 12 1 0 (cn 3)
          kv89 p7 v1 v2 v3)
        else (
          if ((p5.1 13 37 (v1).toNatClampNeg) + v3) < 0 then (
            let p8 : PM := pI p5 12 1 0 (cn 3)
            kv89 p8 v1 v2 v3)
          else (
            kv89 p5 v1 v2 v3)))
      else (
        let p6 : PM := pI p5 12 1 0 (cn 3)
        kv89 p6 v1 v2 v3))
    else (
      kv89 p5 v1 v2 v3))
  else (
    if (F215 p v2 (cn (-9999)) (cn 9999)) = 0 then (
      kv38 p v1 v2 v3)
    else (
      if (F215 p v3 (cn (-99)) (cn 99)) = 0 then (
        kv38 p v1 v2 v3)
      else (
        let p1 : PM := pI p 12 1 0 (cn 0)
        if (p1.1 12 1 0) = 0 then (
          if (p1.1 15 9 (v1).toNatClampNeg) = 0 then (
            if ((p1.1 13 36 (v1).toNatClampNeg) + v2) < 0 then (
              let p3 : PM := pI p1 12 1 0 (cn 3)
              kv89 p3 v1 v2 v3)
            else (
              if ((p1.1 13 37 (v1).toNatClampNeg) + v3) < 0 then (
                let p4 : PM := pI p1 12 1 0 (cn 3)
                kv89 p4 v1 v2 v3)
              else (
                kv89 p1 v1 v2 v3)))
          else (
            let p2 : PM := pI p1 12 1 0 (cn 3)
            kv89 p2 v1 v2 v3))
        else (
          kv89 p1 v1 v2 v3))))
noncomputable def v12_doPay (p : PM) (v1 : Int32) (v2 : Int32) (v3 : Int32) : Int64 × PM := bv12_doPay v12_in v12_doPay_38 v12_doPay_89 p v1 v2 v3
noncomputable def bg12_doPay (F215 : PM → Int32 → Int32 → Int32 → Int32) (G215 : PM → Int32 → Int32 → Int32 → Prop) (kg38 : PM → Int32 → Int32 → Int32 → Prop) (kg89 : PM → Int32 → Int32 → Int32 → Prop) (p : PM) (v1 : Int32) (v2 : Int32) (v3 : Int32) : Prop :=
  (G215 p v1 (cn 0) (cn 3)) ∧ (
  if (F215 p v1 (cn 0) (cn 3)) = 0 then (
    let p5 : PM := pI p 12 1 0 (cn 1)
    if (p5.1 12 1 0) = 0 then (
      (inb v1 4) ∧ (
      if (p5.1 15 9 (v1).toNatClampNeg) = 0 then (
        (inb v1 4) ∧ (
        if ((p5.1 13 36 (v1).toNatClampNeg) + v2) < 0 then (
          let p7 : PM := pI p5 12 1 0 (cn 3)
          kg89 p7 v1 v2 v3)
        else (
          (inb v1 4) ∧ (
          if ((p5.1 13 37 (v1).toNatClampNeg) + v3) < 0 then (
            let p8 : PM := pI p5 12 1 0 (cn 3)
            kg89 p8 v1 v2 v3)
          else (
            kg89 p5 v1 v2 v3)))))
      else (
        let p6 : PM := pI p5 12 1 0 (cn 3)
        kg89 p6 v1 v2 v3)))
    else (
      kg89 p5 v1 v2 v3))
  else (
    (G215 p v2 (cn (-9999)) (cn 9999)) ∧ (
    if (F215 p v2 (cn (-9999)) (cn 9999)) = 0 then (
      kg38 p v1 v2 v3)
    else (
      (G215 p v3 (cn (-99)) (cn 99)) ∧ (
      if (F215 p v3 (cn (-99)) (cn 99)) = 0 then (
        kg38 p v1 v2 v3)
      else (
        let p1 : PM := pI p 12 1 0 (cn 0)
        if (p1.1 12 1 0) = 0 then (
          (inb v1 4) ∧ (
          if (p1.1 15 9 (v1).toNatClampNeg) = 0 then (
            (inb v1 4) ∧ (
            if ((p1.1 13 36 (v1).toNatClampNeg) + v2) < 0 then (
              let p3 : PM := pI p1 12 1 0 (cn 3)
              kg89 p3 v1 v2 v3)
            else (
              (inb v1 4) ∧ (
              if ((p1.1 13 37 (v1).toNatClampNeg) + v3) < 0 then (
                let p4 : PM := pI p1 12 1 0 (cn 3)
                kg89 p4 v1 v2 v3)
              else (
                kg89 p1 v1 v2 v3)))))
          else (
            let p2 : PM := pI p1 12 1 0 (cn 3)
            kg89 p2 v1 v2 v3)))
        else (
          kg89 p1 v1 v2 v3)))))))
noncomputable def g12_doPay (p : PM) (v1 : Int32) (v2 : Int32) (v3 : Int32) : Prop := bg12_doPay v12_in g12_in g12_doPay_38 g12_doPay_89 p v1 v2 v3
def R308 : List Row := [(0, .aload_n 0, 1, 0, (0, 0, 0, 0, 0, 0)), (1, .iload_n 1, 1, 0, (0, 0, 0, 0, 0, 0)), (2, .iconst 0, 1, 0, (0, 0, 0, 0, 0, 0)), (3, .iconst 3, 1, 0, (0, 0, 0, 0, 0, 3)), (4, .invokestatic 209, 3, 0, (0, 3, 0, 0, 0, 0)), (7, .ifCond .ne 7, 3, 0, (0, 0, 0, 0, 0, 0)), (10, .iconst 1, 1, 0, (0, 0, 0, 0, 0, 1)), (11, .goto 32, 3, 0, (0, 0, 0, 0, 0, 0)), (14, .iload_n 2, 1, 0, (0, 0, 0, 0, 0, 0)), (15, .sipush (-9999), 3, 0, (0, 0, 0, 0, 0, -9999)), (18, .sipush 9999, 3, 0, (0, 0, 0, 0, 0, 9999)), (21, .invokestatic 209, 3, 0, (0, 3, 0, 0, 0, 0)), (24, .ifCond .eq 14, 3, 0, (0, 0, 0, 0, 0, 0)), (27, .iload_n 3, 1, 0, (0, 0, 0, 0, 0, 0)), (28, .bipush (-99), 2, 0, (0, 0, 0, 0, 0, -99)), (30, .bipush 99, 2, 0, (0, 0, 0, 0, 0, 99)), (32, .invokestatic 209, 3, 0, (0, 3, 0, 0, 0, 0)), (35, .ifCond .ne 7, 3, 0, (0, 0, 0, 0, 0, 0)), (38, .iconst 2, 1, 1, (0, 0, 0, 0, 0, 2)), (39, .goto 4, 3, 0, (0, 0, 0, 0, 0, 0)), (42, .iconst 0, 1, 0, (0, 0, 0, 0, 0, 0)), (43, .putfield 180, 3, 0, (12, 0, 0, 1, 0, 0)), (46, .aload_n 0, 1, 0, (0, 0, 0, 0, 0, 0)), (47, .getfield 180, 3, 0, (12, 0, 0, 1, 0, 0)), (50, .ifCond .ne 39, 3, 0, (0, 0, 0, 0, 0, 0)), (53, .aload_n 0, 1, 0, (0, 0, 0, 0, 0, 0)), (54, .getfield 153, 3, 0, (12, 54, 18, 2, 9, 0)), (57, .iload_n 1, 1, 0, (0, 0, 0, 0, 0, 0)), (58, .baload, 1, 0, (15, 4, 0, 0, 0, 0)), (59, .ifCond .ne 25, 3, 0, (0, 0, 0, 0, 0, 0)), (62, .aload_n 0, 1, 0, (0, 0, 0, 0, 0, 0)), (63, .getfield 144, 3, 0, (12, 51, 16, 2, 36, 0)), (66, .iload_n 1, 1, 0, (0, 0, 0, 0, 0, 0)), (67, .iaload, 1, 0, (13, 4, 0, 0, 0, 0)), (68, .iload_n 2, 1, 0, (0, 0, 0, 0, 0, 0)), (69, .iadd, 1, 0, (0, 0, 0, 0, 0, 0)), (70, .ifCond .lt 14, 3, 0, (0, 0, 0, 0, 0, 0)), (73, .aload_n 0, 1, 0, (0, 0, 0, 0, 0, 0)), (74, .getfield 147, 3, 0, (12, 52, 16, 2, 37, 0)), (77, .iload_n 1, 1, 0, (0, 0, 0, 0, 0, 0)), (78, .iaload, 1, 0, (13, 4, 0, 0, 0, 0)), (79, .iload_n 3, 1, 0, (0, 0, 0, 0, 0, 0)), (80, .iadd, 1, 0, (0, 0, 0, 0, 0, 0)), (81, .ifCond .ge 8, 3, 0, (0, 0, 0, 0, 0, 0)), (84, .aload_n 0, 1, 0, (0, 0, 0, 0, 0, 0)), (85, .iconst 3, 1, 0, (0, 0, 0, 0, 0, 3)), (86, .putfield 180, 3, 0, (12, 0, 0, 1, 0, 0)), (89, .aload_n 0, 1, 2, (0, 0, 0, 0, 0, 0)), (90, .getfield 180, 3, 0, (12, 0, 0, 1, 0, 0)), (93, .ifCond .ne 44, 3, 0, (0, 0, 0, 0, 0, 0)), (96, .iload_n 2, 1, 0, (0, 0, 0, 0, 0, 0)), (97, .ifCond .lt 7, 3, 0, (0, 0, 0, 0, 0, 0)), (100, .iload_n 3, 1, 0, (0, 0, 0, 0, 0, 0)), (101, .ifCond .ge 36, 3, 0, (0, 0, 0, 0, 0, 0)), (104, .aload_n 0, 1, 0, (0, 0, 0, 0, 0, 0)), (105, .iload_n 1, 1, 0, (0, 0, 0, 0, 0, 0)), (106, .aload_n 0, 1, 0, (0, 0, 0, 0, 0, 0)), (107, .getfield 144, 3, 0, (12, 51, 16, 2, 36, 0)), (110, .iload_n 1, 1, 0, (0, 0, 0, 0, 0, 0)), (111, .iaload, 1, 0, (13, 4, 0, 0, 0, 0)), (112, .iload_n 2, 1, 0, (0, 0, 0, 0, 0, 0)), (113, .iadd, 1, 0, (0, 0, 0, 0, 0, 0)), (114, .i2l, 1, 0, (0, 0, 0, 0, 0, 0)), (115, .aload_n 0, 1, 0, (0, 0, 0, 0, 0, 0)), (116, .getfield 147, 3, 0, (12, 52, 16, 2, 37, 0)), (119, .iload_n 1, 1, 0, (0, 0, 0, 0, 0, 0)), (120, .iaload, 1, 0, (13, 4, 0, 0, 0, 0)), (121, .iload_n 3, 1, 0, (0, 0, 0, 0, 0, 0)), (122, .iadd, 1, 0, (0, 0, 0, 0, 0, 0)), (123, .i2l, 1, 0, (0, 0, 0, 0, 0, 0)), (124, .invokevirtual 475, 3, 0, (2, 4, 0, 0, 1, 0)), (127, .lconst 0, 1, 0, (0, 0, 0, 0, 0, 0)), (128, .lcmp, 1, 0, (0, 0, 0, 0, 0, 0)), (129, .ifCond .le 8, 3, 0, (0, 0, 0, 0, 0, 0)), (132, .aload_n 0, 1, 0, (0, 0, 0, 0, 0, 0)), (133, .iconst 3, 1, 0, (0, 0, 0, 0, 0, 3)), (134, .putfield 180, 3, 0, (12, 0, 0, 1, 0, 0)), (137, .aload_n 0, 1, 0, (0, 0, 0, 0, 0, 0)), (138, .getfield 180, 3, 0, (12, 0, 0, 1, 0, 0)), (141, .ifCond .eq 5, 3, 0, (0, 0, 0, 0, 0, 0)), (144, .lconst 0, 1, 0, (0, 0, 0, 0, 0, 0)), (145, .lreturn, 1, 0, (0, 0, 0, 0, 0, 0)), (146, .aload_n 0, 1, 0, (0, 0, 0, 0, 0, 0)), (147, .getfield 144, 3, 0, (12, 51, 16, 2, 36, 0)), (150, .iload_n 1, 1, 0, (0, 0, 0, 0, 0, 0)), (151, .dup2, 1, 0, (0, 0, 0, 0, 0, 0)), (152, .iaload, 1, 0, (13, 4, 0, 0, 0, 0)), (153, .iload_n 2, 1, 0, (0, 0, 0, 0, 0, 0)), (154, .iadd, 1, 0, (0, 0, 0, 0, 0, 0)), (155, .iastore, 1, 0, (13, 4, 0, 0, 0, 0)), (156, .aload_n 0, 1, 0, (0, 0, 0, 0, 0, 0)), (157, .getfield 147, 3, 0, (12, 52, 16, 2, 37, 0)), (160, .iload_n 1, 1, 0, (0, 0, 0, 0, 0, 0)), (161, .dup2, 1, 0, (0, 0, 0, 0, 0, 0)), (162, .iaload, 1, 0, (13, 4, 0, 0, 0, 0)), (163, .iload_n 3, 1, 0, (0, 0, 0, 0, 0, 0)), (164, .iadd, 1, 0, (0, 0, 0, 0, 0, 0)), (165, .iastore, 1, 0, (13, 4, 0, 0, 0, 0)), (166, .aload_n 0, 1, 0, (0, 0, 0, 0, 0, 0)), (167, .iload_n 1, 1, 0, (0, 0, 0, 0, 0, 0)), (168, .invokevirtual 479, 3, 0, (1, 2, 0, 0, 1, 0)), (171, .lreturn, 1, 0, (0, 0, 0, 0, 0, 0))]
set_option maxRecDepth 100000 in
theorem rk308 : R308.all (rok 2 308 2 [(215, [0, 0, 0]), (307, [15, 0]), (279, [15, 0, 1, 1])]) = true := by decide +kernel
set_option maxRecDepth 100000 in
theorem tab308 {F215 : PM → Int32 → Int32 → Int32 → Int32} {G215 : PM → Int32 → Int32 → Int32 → Prop} {F307 : PM → Int32 → Int64 × PM} {G307 : PM → Int32 → Prop} {F279 : PM → Int32 → Int64 → Int64 → Int64 × PM} {G279 : PM → Int32 → Int64 → Int64 → Prop} : TabOK 2 308 2 [CC215 F215 G215, CC307 F307 G307, CC279 F279 G279] R308 := tab_ok (K := K308) rfl rfl (fun h => d308 h) rk308 (by decide +kernel)
set_option maxRecDepth 100000 in
theorem pc308 : cutpc [38, 89] R308 = true := by decide +kernel
set_option maxRecDepth 100000 in
theorem r12_doPay_89 (F215 : PM → Int32 → Int32 → Int32 → Int32) (G215 : PM → Int32 → Int32 → Int32 → Prop) (o215 : CalOK 2 (CC215 F215 G215)) (F307 : PM → Int32 → Int64 × PM) (G307 : PM → Int32 → Prop) (o307 : CalOK 2 (CC307 F307 G307)) (F279 : PM → Int32 → Int64 → Int64 → Int64 × PM) (G279 : PM → Int32 → Int64 → Int64 → Prop) (o279 : CalOK 2 (CC279 F279 G279)) : ∀ (p : PM) (v1 : Int32) (v2 : Int32) (v3 : Int32), Gr 2 p → bg12_doPay_89 F279 G279 F307 G307 p v1 v2 v3 → ZJ 2 308 89 [zR 12 1, zI v1, zI v2, zI v3] [] p (hwL (bv12_doPay_89 F279 F307 p v1 v2 v3)) := by
  intro p v1 v2 v3  hg H
  exact rwL (n := 3000) (q := 89) (la := [zR 12 1, zI v1, zI v2, zI v3]) (sa := []) (ks := [fun _ _ s => (0, s), fun _ _ s => (0, s)]) (gs := [fun _ _ _ => False, fun _ _ _ => False]) (fcons o215 (fcons o307 (fcons o279 (fnil)))) tab308 pc308 ⟨fun _ _ _ _ H => H.elim, fun _ _ _ _ H => H.elim, trivial⟩ hg H
theorem t12_doPay_89 : ∀ (p : PM) (v1 : Int32) (v2 : Int32) (v3 : Int32), Gr 2 p → g12_doPay_89 p v1 v2 v3 → ZJ 2 308 89 [zR 12 1, zI v1, zI v2, zI v3] [] p (hwL (v12_doPay_89 p v1 v2 v3)) := r12_doPay_89 v12_in g12_in ok215 v12_callOf g12_callOf ok307 v12_call g12_call ok279
set_option maxRecDepth 100000 in
theorem r12_doPay_38 (F215 : PM → Int32 → Int32 → Int32 → Int32) (G215 : PM → Int32 → Int32 → Int32 → Prop) (o215 : CalOK 2 (CC215 F215 G215)) (F307 : PM → Int32 → Int64 × PM) (G307 : PM → Int32 → Prop) (o307 : CalOK 2 (CC307 F307 G307)) (F279 : PM → Int32 → Int64 → Int64 → Int64 × PM) (G279 : PM → Int32 → Int64 → Int64 → Prop) (o279 : CalOK 2 (CC279 F279 G279)) (kv89 : PM → Int32 → Int32 → Int32 → Int64 × PM) (kg89 : PM → Int32 → Int32 → Int32 → Prop) (hk89 : ∀ (p : PM) (v1 : Int32) (v2 : Int32) (v3 : Int32), Gr 2 p → kg89 p v1 v2 v3 → ZJ 2 308 89 [zR 12 1, zI v1, zI v2, zI v3] [] p (hwL (kv89 p v1 v2 v3))) : ∀ (p : PM) (v1 : Int32) (v2 : Int32) (v3 : Int32), Gr 2 p → bg12_doPay_38 kg89 p v1 v2 v3 → ZJ 2 308 38 [zR 12 1, zI v1, zI v2, zI v3] [zR 12 1] p (hwL (bv12_doPay_38 kv89 p v1 v2 v3)) := by
  intro p v1 v2 v3  hg H
  exact rwL (n := 3000) (q := 38) (la := [zR 12 1, zI v1, zI v2, zI v3]) (sa := [zR 12 1]) (ks := [fun _ _ s => (0, s), fun la sa s => kv89 s (ai la 1) (ai la 2) (ai la 3)]) (gs := [fun _ _ _ => False, fun la sa s => zsw (tc2 la [(112, 1), (0, 0), (0, 0), (0, 0)] && tc2 sa []) False (kg89 s (ai la 1) (ai la 2) (ai la 3))]) (fcons o215 (fcons o307 (fcons o279 (fnil)))) tab308 pc308 ⟨fun _ _ _ _ H => H.elim, fun la sa s hg H => zcut H fun H => hk89 s (ai la 1) (ai la 2) (ai la 3) hg H, trivial⟩ hg H
theorem t12_doPay_38 : ∀ (p : PM) (v1 : Int32) (v2 : Int32) (v3 : Int32), Gr 2 p → g12_doPay_38 p v1 v2 v3 → ZJ 2 308 38 [zR 12 1, zI v1, zI v2, zI v3] [zR 12 1] p (hwL (v12_doPay_38 p v1 v2 v3)) := r12_doPay_38 v12_in g12_in ok215 v12_callOf g12_callOf ok307 v12_call g12_call ok279 (v12_doPay_89) (g12_doPay_89) (t12_doPay_89)
set_option maxRecDepth 100000 in
theorem r12_doPay (F215 : PM → Int32 → Int32 → Int32 → Int32) (G215 : PM → Int32 → Int32 → Int32 → Prop) (o215 : CalOK 2 (CC215 F215 G215)) (F307 : PM → Int32 → Int64 × PM) (G307 : PM → Int32 → Prop) (o307 : CalOK 2 (CC307 F307 G307)) (F279 : PM → Int32 → Int64 → Int64 → Int64 × PM) (G279 : PM → Int32 → Int64 → Int64 → Prop) (o279 : CalOK 2 (CC279 F279 G279)) (kv38 : PM → Int32 → Int32 → Int32 → Int64 × PM) (kg38 : PM → Int32 → Int32 → Int32 → Prop) (hk38 : ∀ (p : PM) (v1 : Int32) (v2 : Int32) (v3 : Int32), Gr 2 p → kg38 p v1 v2 v3 → ZJ 2 308 38 [zR 12 1, zI v1, zI v2, zI v3] [zR 12 1] p (hwL (kv38 p v1 v2 v3))) (kv89 : PM → Int32 → Int32 → Int32 → Int64 × PM) (kg89 : PM → Int32 → Int32 → Int32 → Prop) (hk89 : ∀ (p : PM) (v1 : Int32) (v2 : Int32) (v3 : Int32), Gr 2 p → kg89 p v1 v2 v3 → ZJ 2 308 89 [zR 12 1, zI v1, zI v2, zI v3] [] p (hwL (kv89 p v1 v2 v3))) : ∀ (p : PM) (v1 : Int32) (v2 : Int32) (v3 : Int32), Gr 2 p → bg12_doPay F215 G215 kg38 kg89 p v1 v2 v3 → ZJ 2 308 0 [zR 12 1, zI v1, zI v2, zI v3] [] p (hwL (bv12_doPay F215 kv38 kv89 p v1 v2 v3)) := by
  intro p v1 v2 v3  hg H
  exact rwL (n := 3000) (q := 0) (la := [zR 12 1, zI v1, zI v2, zI v3]) (sa := []) (ks := [fun la sa s => kv38 s (ai la 1) (ai la 2) (ai la 3), fun la sa s => kv89 s (ai la 1) (ai la 2) (ai la 3)]) (gs := [fun la sa s => zsw (tc2 la [(112, 1), (0, 0), (0, 0), (0, 0)] && tc2 sa [(112, 1)]) False (kg38 s (ai la 1) (ai la 2) (ai la 3)), fun la sa s => zsw (tc2 la [(112, 1), (0, 0), (0, 0), (0, 0)] && tc2 sa []) False (kg89 s (ai la 1) (ai la 2) (ai la 3))]) (fcons o215 (fcons o307 (fcons o279 (fnil)))) tab308 pc308 ⟨fun la sa s hg H => zcut H fun H => hk38 s (ai la 1) (ai la 2) (ai la 3) hg H, fun la sa s hg H => zcut H fun H => hk89 s (ai la 1) (ai la 2) (ai la 3) hg H, trivial⟩ hg H
theorem t12_doPay : ∀ (p : PM) (v1 : Int32) (v2 : Int32) (v3 : Int32), Gr 2 p → g12_doPay p v1 v2 v3 → ZJ 2 308 0 [zR 12 1, zI v1, zI v2, zI v3] [] p (hwL (v12_doPay p v1 v2 v3)) := r12_doPay v12_in g12_in ok215 v12_callOf g12_callOf ok307 v12_call g12_call ok279 (v12_doPay_38) (g12_doPay_38) (t12_doPay_38) (v12_doPay_89) (g12_doPay_89) (t12_doPay_89)
def CC308 (F : PM → Int32 → Int32 → Int32 → Int64 × PM) (G : PM → Int32 → Int32 → Int32 → Prop) : Cal := (308, [15, 0, 0, 0], 2, false, fun as p => (zL (F p (ai as 1) (ai as 2) (ai as 3)).1, (F p (ai as 1) (ai as 2) (ai as 3)).2), fun as p => zsw (tc2 as [(112, 1), (0, 0), (0, 0), (0, 0)]) False (G p (ai as 1) (ai as 2) (ai as 3)))
set_option maxRecDepth 100000 in
theorem okr308 (F : PM → Int32 → Int32 → Int32 → Int64 × PM) (G : PM → Int32 → Int32 → Int32 → Prop) (h : ∀ (p : PM) (v1 : Int32) (v2 : Int32) (v3 : Int32), Gr 2 p → G p v1 v2 v3 → ZJ 2 308 0 [zR 12 1, zI v1, zI v2, zI v3] [] p (hwL (F p v1 v2 v3))) : CalOK 2 (CC308 F G) := cal_ok (m := 4) (by unfold mL; rw [mX_308]) (fun as p hg H => h p (ai as 1) (ai as 2) (ai as 3) hg H)
theorem ok308 : CalOK 2 (CC308 v12_doPay g12_doPay) := okr308 v12_doPay g12_doPay t12_doPay
noncomputable def bv12_doFund_43 (p : PM) (v1 : Int32) (v2 : Int32) (s0 : Int32) : Int32 × PM :=
  let p1 : PM := pI p 12 1 0 s0
  if (p1.1 12 1 0) = 0 then (
    let x3 : Int32 := (p1.1 13 38 (v1).toNatClampNeg)
    if (p1.1 12 1 0) = 0 then (
      let p4 : PM := pI p1 13 38 (v1).toNatClampNeg v2
      (x3, p4))
    else (
      (x3, p1)))
  else (
    if (p1.1 12 1 0) = 0 then (
      let p2 : PM := pI p1 13 38 (v1).toNatClampNeg v2
      ((cn 0), p2))
    else (
      ((cn 0), p1)))
noncomputable def v12_doFund_43 (p : PM) (v1 : Int32) (v2 : Int32) (s0 : Int32) : Int32 × PM := bv12_doFund_43 p v1 v2 s0
noncomputable def bg12_doFund_43 (p : PM) (v1 : Int32) (v2 : Int32) (s0 : Int32) : Prop :=
  let p1 : PM := pI p 12 1 0 s0
  if (p1.1 12 1 0) = 0 then (
    (inb v1 4) ∧ (
    let x3 : Int32 := (p1.1 13 38 (v1).toNatClampNeg)
    if (p1.1 12 1 0) = 0 then (
      (inb v1 4) ∧ (
      let p4 : PM := pI p1 13 38 (v1).toNatClampNeg v2
      True))
    else (
      True)))
  else (
    if (p1.1 12 1 0) = 0 then (
      (inb v1 4) ∧ (
      let p2 : PM := pI p1 13 38 (v1).toNatClampNeg v2
      True))
    else (
      True))
noncomputable def g12_doFund_43 (p : PM) (v1 : Int32) (v2 : Int32) (s0 : Int32) : Prop := bg12_doFund_43 p v1 v2 s0
noncomputable def bv12_doFund (F215 : PM → Int32 → Int32 → Int32 → Int32) (kv43 : PM → Int32 → Int32 → Int32 → Int32 × PM) (p : PM) (v1 : Int32) (v2 : Int32) : Int32 × PM :=
  if (F215 p v1 (cn 0) (cn 3)) = 0 then (
    kv43 p v1 v2 (cn 1))
  else (
    if (F215 p v2 (cn 0) (cn 9999)) = 0 then (
      kv43 p v1 v2 (cn 2))
    else (
      if (p.1 15 9 (v1).toNatClampNeg) = 0 then (
        kv43 p v1 v2 (cn 0))
      else (
        kv43 p v1 v2 (cn 3))))
noncomputable def v12_doFund (p : PM) (v1 : Int32) (v2 : Int32) : Int32 × PM := bv12_doFund v12_in v12_doFund_43 p v1 v2
noncomputable def bg12_doFund (F215 : PM → Int32 → Int32 → Int32 → Int32) (G215 : PM → Int32 → Int32 → Int32 → Prop) (kg43 : PM → Int32 → Int32 → Int32 → Prop) (p : PM) (v1 : Int32) (v2 : Int32) : Prop :=
  (G215 p v1 (cn 0) (cn 3)) ∧ (
  if (F215 p v1 (cn 0) (cn 3)) = 0 then (
    kg43 p v1 v2 (cn 1))
  else (
    (G215 p v2 (cn 0) (cn 9999)) ∧ (
    if (F215 p v2 (cn 0) (cn 9999)) = 0 then (
      kg43 p v1 v2 (cn 2))
    else (
      (inb v1 4) ∧ (
      if (p.1 15 9 (v1).toNatClampNeg) = 0 then (
        kg43 p v1 v2 (cn 0))
      else (
        kg43 p v1 v2 (cn 3)))))))
noncomputable def g12_doFund (p : PM) (v1 : Int32) (v2 : Int32) : Prop := bg12_doFund v12_in g12_in g12_doFund_43 p v1 v2
def R309 : List Row := [(0, .aload_n 0, 1, 0, (0, 0, 0, 0, 0, 0)), (1, .iload_n 1, 1, 0, (0, 0, 0, 0, 0, 0)), (2, .iconst 0, 1, 0, (0, 0, 0, 0, 0, 0)), (3, .iconst 3, 1, 0, (0, 0, 0, 0, 0, 3)), (4, .invokestatic 209, 3, 0, (0, 3, 0, 0, 0, 0)), (7, .ifCond .ne 7, 3, 0, (0, 0, 0, 0, 0, 0)), (10, .iconst 1, 1, 0, (0, 0, 0, 0, 0, 1)), (11, .goto 32, 3, 0, (0, 0, 0, 0, 0, 0)), (14, .iload_n 2, 1, 0, (0, 0, 0, 0, 0, 0)), (15, .iconst 0, 1, 0, (0, 0, 0, 0, 0, 0)), (16, .sipush 9999, 3, 0, (0, 0, 0, 0, 0, 9999)), (19, .invokestatic 209, 3, 0, (0, 3, 0, 0, 0, 0)), (22, .ifCond .ne 7, 3, 0, (0, 0, 0, 0, 0, 0)), (25, .iconst 2, 1, 0, (0, 0, 0, 0, 0, 2)), (26, .goto 17, 3, 0, (0, 0, 0, 0, 0, 0)), (29, .aload_n 0, 1, 0, (0, 0, 0, 0, 0, 0)), (30, .getfield 153, 3, 0, (12, 54, 18, 2, 9, 0)), (33, .iload_n 1, 1, 0, (0, 0, 0, 0, 0, 0)), (34, .baload, 1, 0, (15, 4, 0, 0, 0, 0)), (35, .ifCond .eq 7, 3, 0, (0, 0, 0, 0, 0, 0)), (38, .iconst 3, 1, 0, (0, 0, 0, 0, 0, 3)), (39, .goto 4, 3, 0, (0, 0, 0, 0, 0, 0)), (42, .iconst 0, 1, 0, (0, 0, 0, 0, 0, 0)), (43, .putfield 180, 3, 1, (12, 0, 0, 1, 0, 0)), (46, .aload_n 0, 1, 0, (0, 0, 0, 0, 0, 0)), (47, .getfield 180, 3, 0, (12, 0, 0, 1, 0, 0)), (50, .ifCond .ne 12, 3, 0, (0, 0, 0, 0, 0, 0)), (53, .aload_n 0, 1, 0, (0, 0, 0, 0, 0, 0)), (54, .getfield 150, 3, 0, (12, 53, 16, 2, 38, 0)), (57, .iload_n 1, 1, 0, (0, 0, 0, 0, 0, 0)), (58, .iaload, 1, 0, (13, 4, 0, 0, 0, 0)), (59, .goto 4, 3, 0, (0, 0, 0, 0, 0, 0)), (62, .iconst 0, 1, 0, (0, 0, 0, 0, 0, 0)), (63, .istore_n 3, 1, 0, (0, 0, 0, 0, 0, 0)), (64, .aload_n 0, 1, 0, (0, 0, 0, 0, 0, 0)), (65, .getfield 180, 3, 0, (12, 0, 0, 1, 0, 0)), (68, .ifCond .ne 10, 3, 0, (0, 0, 0, 0, 0, 0)), (71, .aload_n 0, 1, 0, (0, 0, 0, 0, 0, 0)), (72, .getfield 150, 3, 0, (12, 53, 16, 2, 38, 0)), (75, .iload_n 1, 1, 0, (0, 0, 0, 0, 0, 0)), (76, .iload_n 2, 1, 0, (0, 0, 0, 0, 0, 0)), (77, .iastore, 1, 0, (13, 4, 0, 0, 0, 0)), (78, .iload_n 3, 1, 0, (0, 0, 0, 0, 0, 0)), (79, .ireturn, 1, 0, (0, 0, 0, 0, 0, 0))]
set_option maxRecDepth 100000 in
theorem rk309 : R309.all (rok 2 309 1 [(215, [0, 0, 0])]) = true := by decide +kernel
set_option maxRecDepth 100000 in
theorem tab309 {F215 : PM → Int32 → Int32 → Int32 → Int32} {G215 : PM → Int32 → Int32 → Int32 → Prop} : TabOK 2 309 1 [CC215 F215 G215] R309 := tab_ok (K := K309) rfl rfl (fun h => d309 h) rk309 (by decide +kernel)
set_option maxRecDepth 100000 in
theorem pc309 : cutpc [43] R309 = true := by decide +kernel
set_option maxRecDepth 100000 in
theorem r12_doFund_43 (F215 : PM → Int32 → Int32 → Int32 → Int32) (G215 : PM → Int32 → Int32 → Int32 → Prop) (o215 : CalOK 2 (CC215 F215 G215)) : ∀ (p : PM) (v1 : Int32) (v2 : Int32) (s0 : Int32) (d3 : ZV), Gr 2 p → bg12_doFund_43 p v1 v2 s0 → ZJ 2 309 43 [zR 12 1, zI v1, zI v2, d3] [zI s0, zR 12 1] p (hwI (bv12_doFund_43 p v1 v2 s0)) := by
  intro p v1 v2 s0 d3 hg H
  exact rwI (n := 3000) (q := 43) (la := [zR 12 1, zI v1, zI v2, d3]) (sa := [zI s0, zR 12 1]) (ks := [fun _ _ s => (0, s)]) (gs := [fun _ _ _ => False]) (fcons o215 (fnil)) tab309 pc309 ⟨fun _ _ _ _ H => H.elim, trivial⟩ hg H
theorem t12_doFund_43 : ∀ (p : PM) (v1 : Int32) (v2 : Int32) (s0 : Int32) (d3 : ZV), Gr 2 p → g12_doFund_43 p v1 v2 s0 → ZJ 2 309 43 [zR 12 1, zI v1, zI v2, d3] [zI s0, zR 12 1] p (hwI (v12_doFund_43 p v1 v2 s0)) := r12_doFund_43 v12_in g12_in ok215
set_option maxRecDepth 100000 in
theorem r12_doFund (F215 : PM → Int32 → Int32 → Int32 → Int32) (G215 : PM → Int32 → Int32 → Int32 → Prop) (o215 : CalOK 2 (CC215 F215 G215)) (kv43 : PM → Int32 → Int32 → Int32 → Int32 × PM) (kg43 : PM → Int32 → Int32 → Int32 → Prop) (hk43 : ∀ (p : PM) (v1 : Int32) (v2 : Int32) (s0 : Int32) (d3 : ZV), Gr 2 p → kg43 p v1 v2 s0 → ZJ 2 309 43 [zR 12 1, zI v1, zI v2, d3] [zI s0, zR 12 1] p (hwI (kv43 p v1 v2 s0))) : ∀ (p : PM) (v1 : Int32) (v2 : Int32), Gr 2 p → bg12_doFund F215 G215 kg43 p v1 v2 → ZJ 2 309 0 [zR 12 1, zI v1, zI v2, zJ] [] p (hwI (bv12_doFund F215 kv43 p v1 v2)) := by
  intro p v1 v2  hg H
  exact rwI (n := 3000) (q := 0) (la := [zR 12 1, zI v1, zI v2, zJ]) (sa := []) (ks := [fun la sa s => kv43 s (ai la 1) (ai la 2) (ai sa 0)]) (gs := [fun la sa s => zsw (tc2 la [(112, 1), (0, 0), (0, 0), (2, 0)] && tc2 sa [(0, 0), (112, 1)]) False (kg43 s (ai la 1) (ai la 2) (ai sa 0))]) (fcons o215 (fnil)) tab309 pc309 ⟨fun la sa s hg H => zcut H fun H => hk43 s (ai la 1) (ai la 2) (ai sa 0) (zld la 3) hg H, trivial⟩ hg H
theorem t12_doFund : ∀ (p : PM) (v1 : Int32) (v2 : Int32), Gr 2 p → g12_doFund p v1 v2 → ZJ 2 309 0 [zR 12 1, zI v1, zI v2, zJ] [] p (hwI (v12_doFund p v1 v2)) := r12_doFund v12_in g12_in ok215 (v12_doFund_43) (g12_doFund_43) (t12_doFund_43)
def CC309 (F : PM → Int32 → Int32 → Int32 × PM) (G : PM → Int32 → Int32 → Prop) : Cal := (309, [15, 0, 0], 1, false, fun as p => (zI (F p (ai as 1) (ai as 2)).1, (F p (ai as 1) (ai as 2)).2), fun as p => zsw (tc2 as [(112, 1), (0, 0), (0, 0)]) False (G p (ai as 1) (ai as 2)))
set_option maxRecDepth 100000 in
theorem okr309 (F : PM → Int32 → Int32 → Int32 × PM) (G : PM → Int32 → Int32 → Prop) (h : ∀ (p : PM) (v1 : Int32) (v2 : Int32), Gr 2 p → G p v1 v2 → ZJ 2 309 0 [zR 12 1, zI v1, zI v2, zJ] [] p (hwI (F p v1 v2))) : CalOK 2 (CC309 F G) := cal_ok (m := 4) (by unfold mL; rw [mX_309]) (fun as p hg H => h p (ai as 1) (ai as 2) hg H)
theorem ok309 : CalOK 2 (CC309 v12_doFund g12_doFund) := okr309 v12_doFund g12_doFund t12_doFund
noncomputable def bv12_doFail_73 (kv73 : PM → Int32 → Int32 → Int32 → Int32 × PM) (p : PM) (v1 : Int32) (v2 : Int32) (v3 : Int32) : Int32 × PM :=
  if v3 < (cn 44) then (
    if (p.1 15 3 (v3).toNatClampNeg) = 0 then (
      kv73 p v1 v2 (v3 + (cn 1)))
    else (
      if ((p.1 13 15 (v3).toNatClampNeg) / (cn 2)) = v1 then (
        let p1 : PM := pI p 15 3 (v3).toNatClampNeg (cn 0)
        kv73 p1 v1 (v2 + (cn 1)) (v3 + (cn 1)))
      else (
        kv73 p v1 v2 (v3 + (cn 1)))))
  else (
    (v2, p))
noncomputable def v12_doFail_73 (n : Nat) : PM → Int32 → Int32 → Int32 → Int32 × PM := Nat.rec (motive := fun _ => PM → Int32 → Int32 → Int32 → Int32 × PM) (fun p _ _ _ => (0, p)) (fun _ ih => bv12_doFail_73 ih) n
theorem ev12_doFail_73 (n : Nat) (p : PM) (v1 : Int32) (v2 : Int32) (v3 : Int32) : v12_doFail_73 (n + 1) p v1 v2 v3 = bv12_doFail_73 (v12_doFail_73 n) p v1 v2 v3 := rfl
noncomputable def bg12_doFail_73 (kg73 : PM → Int32 → Int32 → Int32 → Prop) (p : PM) (v1 : Int32) (v2 : Int32) (v3 : Int32) : Prop :=
  if v3 < (cn 44) then (
    (inb v3 44) ∧ (
    if (p.1 15 3 (v3).toNatClampNeg) = 0 then (
      kg73 p v1 v2 (v3 + (cn 1)))
    else (
      (inb v3 44) ∧ (
      if ((p.1 13 15 (v3).toNatClampNeg) / (cn 2)) = v1 then (
        (inb v3 44) ∧ (
        let p1 : PM := pI p 15 3 (v3).toNatClampNeg (cn 0)
        kg73 p1 v1 (v2 + (cn 1)) (v3 + (cn 1))))
      else (
        kg73 p v1 v2 (v3 + (cn 1)))))))
  else (
    True)
noncomputable def g12_doFail_73 (n : Nat) : PM → Int32 → Int32 → Int32 → Prop := Nat.rec (motive := fun _ => PM → Int32 → Int32 → Int32 → Prop) (fun _ _ _ _ => False) (fun _ ih => bg12_doFail_73 ih) n
theorem eg12_doFail_73 (n : Nat) (p : PM) (v1 : Int32) (v2 : Int32) (v3 : Int32) : g12_doFail_73 (n + 1) p v1 v2 v3 = bg12_doFail_73 (g12_doFail_73 n) p v1 v2 v3 := rfl
noncomputable def bv12_doFail (F215 : PM → Int32 → Int32 → Int32 → Int32) (F307 : PM → Int32 → Int64 × PM) (kv73 : PM → Int32 → Int32 → Int32 → Int32 × PM) (p : PM) (v1 : Int32) : Int32 × PM :=
  if (F215 p v1 (cn 0) (cn 3)) = 0 then (
    let p14 : PM := pI p 12 1 0 (cn 1)
    if (p14.1 12 1 0) = 0 then (
      let p15 : PM := pI p14 15 9 (v1).toNatClampNeg (cn 1)
      let p16 : PM := pI p15 12 1 57 v1
      kv73 p16 v1 (cn 0) (cn 0))
    else (
      ((cn 0), p14)))
  else (
    if (p.1 15 9 (v1).toNatClampNeg) = 0 then (
      let r4 : Int64 × PM := F307 p v1
      if (lg_cmp r4.1 (cl 0)) = 0 then (
        let p5 : PM := pI r4.2 12 1 0 (cn 2)
        if (p5.1 12 1 0) = 0 then (
          let p6 : PM := pI p5 15 9 (v1).toNatClampNeg (cn 1)
          let p7 : PM := pI p6 12 1 57 v1
          kv73 p7 v1 (cn 0) (cn 0))
        else (
          ((cn 0), p5)))
      else (
        if (r4.2.1 12 1 57) < 0 then (
          let p8 : PM := pI r4.2 12 1 0 (cn 0)
          if (p8.1 12 1 0) = 0 then (
            let p9 : PM := pI p8 15 9 (v1).toNatClampNeg (cn 1)
            let p10 : PM := pI p9 12 1 57 v1
            kv73 p10 v1 (cn 0) (cn 0))
          else (
            ((cn 0), p8)))
        else (
          let p11 : PM := pI r4.2 12 1 0 (cn 2)
          if (p11.1 12 1 0) = 0 then (
            let p12 : PM := pI p11 15 9 (v1).toNatClampNeg (cn 1)
            let p13 : PM := pI p12 12 1 57 v1
            kv73 p13 v1 (cn 0) (cn 0))
          else (
            ((cn 0), p11)))))
    else (
      let p1 : PM := pI p 12 1 0 (cn 2)
      if (p1.1 12 1 0) = 0 then (
        let p2 : PM := pI p1 15 9 (v1).toNatClampNeg (cn 1)
        let p3 : PM := pI p2 12 1 57 v1
        kv73 p3 v1 (cn 0) (cn 0))
      else (
        ((cn 0), p1))))
noncomputable def v12_doFail (p : PM) (v1 : Int32) : Int32 × PM := bv12_doFail v12_in v12_callOf (v12_doFail_73 FU) p v1
noncomputable def bg12_doFail (F215 : PM → Int32 → Int32 → Int32 → Int32) (G215 : PM → Int32 → Int32 → Int32 → Prop) (F307 : PM → Int32 → Int64 × PM) (G307 : PM → Int32 → Prop) (kg73 : PM → Int32 → Int32 → Int32 → Prop) (p : PM) (v1 : Int32) : Prop :=
  (G215 p v1 (cn 0) (cn 3)) ∧ (
  if (F215 p v1 (cn 0) (cn 3)) = 0 then (
    let p14 : PM := pI p 12 1 0 (cn 1)
    if (p14.1 12 1 0) = 0 then (
      (inb v1 4) ∧ (
      let p15 : PM := pI p14 15 9 (v1).toNatClampNeg (cn 1)
      let p16 : PM := pI p15 12 1 57 v1
      kg73 p16 v1 (cn 0) (cn 0)))
    else (
      True))
  else (
    (inb v1 4) ∧ (
    if (p.1 15 9 (v1).toNatClampNeg) = 0 then (
      (G307 p v1) ∧ (
      let r4 : Int64 × PM := F307 p v1
      if (lg_cmp r4.1 (cl 0)) = 0 then (
        let p5 : PM := pI r4.2 12 1 0 (cn 2)
        if (p5.1 12 1 0) = 0 then (
          (inb v1 4) ∧ (
          let p6 : PM := pI p5 15 9 (v1).toNatClampNeg (cn 1)
          let p7 : PM := pI p6 12 1 57 v1
          kg73 p7 v1 (cn 0) (cn 0)))
        else (
          True))
      else (
        if (r4.2.1 12 1 57) < 0 then (
          let p8 : PM := pI r4.2 12 1 0 (cn 0)
          if (p8.1 12 1 0) = 0 then (
            (inb v1 4) ∧ (
            let p9 : PM := pI p8 15 9 (v1).toNatClampNeg (cn 1)
            let p10 : PM := pI p9 12 1 57 v1
            kg73 p10 v1 (cn 0) (cn 0)))
          else (
            True))
        else (
          let p11 : PM := pI r4.2 12 1 0 (cn 2)
          if (p11.1 12 1 0) = 0 then (
            (inb v1 4) ∧ (
            let p12 : PM := pI p11 15 9 (v1).toNatClampNeg (cn 1)
            let p13 : PM := pI p12 12 1 57 v1
            kg73 p13 v1 (cn 0) (cn 0)))
          else (
            True)))))
    else (
      let p1 : PM := pI p 12 1 0 (cn 2)
      if (p1.1 12 1 0) = 0 then (
        (inb v1 4) ∧ (
        let p2 : PM := pI p1 15 9 (v1).toNatClampNeg (cn 1)
        let p3 : PM := pI p2 12 1 57 v1
        kg73 p3 v1 (cn 0) (cn 0)))
      else (
        True)))))
noncomputable def g12_doFail (p : PM) (v1 : Int32) : Prop := bg12_doFail v12_in g12_in v12_callOf g12_callOf (g12_doFail_73 FU) p v1
def R310 : List Row := [(0, .aload_n 0, 1, 0, (0, 0, 0, 0, 0, 0)), (1, .iload_n 1, 1, 0, (0, 0, 0, 0, 0, 0)), (2, .iconst 0, 1, 0, (0, 0, 0, 0, 0, 0)), (3, .iconst 3, 1, 0, (0, 0, 0, 0, 0, 3)), (4, .invokestatic 209, 3, 0, (0, 3, 0, 0, 0, 0)), (7, .ifCond .ne 7, 3, 0, (0, 0, 0, 0, 0, 0)), (10, .iconst 1, 1, 0, (0, 0, 0, 0, 0, 1)), (11, .goto 34, 3, 0, (0, 0, 0, 0, 0, 0)), (14, .aload_n 0, 1, 0, (0, 0, 0, 0, 0, 0)), (15, .getfield 153, 3, 0, (12, 54, 18, 2, 9, 0)), (18, .iload_n 1, 1, 0, (0, 0, 0, 0, 0, 0)), (19, .baload, 1, 0, (15, 4, 0, 0, 0, 0)), (20, .ifCond .ne 20, 3, 0, (0, 0, 0, 0, 0, 0)), (23, .aload_n 0, 1, 0, (0, 0, 0, 0, 0, 0)), (24, .iload_n 1, 1, 0, (0, 0, 0, 0, 0, 0)), (25, .invokevirtual 479, 3, 0, (1, 2, 0, 0, 1, 0)), (28, .lconst 0, 1, 0, (0, 0, 0, 0, 0, 0)), (29, .lcmp, 1, 0, (0, 0, 0, 0, 0, 0)), (30, .ifCond .eq 10, 3, 0, (0, 0, 0, 0, 0, 0)), (33, .aload_n 0, 1, 0, (0, 0, 0, 0, 0, 0)), (34, .getfield 188, 3, 0, (12, 57, 0, 1, 0, 0)), (37, .ifCond .lt 7, 3, 0, (0, 0, 0, 0, 0, 0)), (40, .iconst 2, 1, 0, (0, 0, 0, 0, 0, 2)), (41, .goto 4, 3, 0, (0, 0, 0, 0, 0, 0)), (44, .iconst 0, 1, 0, (0, 0, 0, 0, 0, 0)), (45, .putfield 180, 3, 0, (12, 0, 0, 1, 0, 0)), (48, .aload_n 0, 1, 0, (0, 0, 0, 0, 0, 0)), (49, .getfield 180, 3, 0, (12, 0, 0, 1, 0, 0)), (52, .ifCond .eq 5, 3, 0, (0, 0, 0, 0, 0, 0)), (55, .iconst 0, 1, 0, (0, 0, 0, 0, 0, 0)), (56, .ireturn, 1, 0, (0, 0, 0, 0, 0, 0)), (57, .aload_n 0, 1, 0, (0, 0, 0, 0, 0, 0)), (58, .getfield 153, 3, 0, (12, 54, 18, 2, 9, 0)), (61, .iload_n 1, 1, 0, (0, 0, 0, 0, 0, 0)), (62, .iconst 1, 1, 0, (0, 0, 0, 0, 0, 1)), (63, .bastore, 1, 0, (15, 4, 0, 0, 0, 0)), (64, .aload_n 0, 1, 0, (0, 0, 0, 0, 0, 0)), (65, .iload_n 1, 1, 0, (0, 0, 0, 0, 0, 0)), (66, .putfield 188, 3, 0, (12, 57, 0, 1, 0, 0)), (69, .iconst 0, 1, 0, (0, 0, 0, 0, 0, 0)), (70, .istore_n 2, 1, 0, (0, 0, 0, 0, 0, 0)), (71, .iconst 0, 1, 0, (0, 0, 0, 0, 0, 0)), (72, .istore_n 3, 1, 0, (0, 0, 0, 0, 0, 0)), (73, .iload_n 3, 1, 1, (0, 0, 0, 0, 0, 0)), (74, .bipush 44, 2, 0, (0, 0, 0, 0, 0, 44)), (76, .if_icmp .ge 40, 3, 0, (0, 0, 0, 0, 0, 0)), (79, .aload_n 0, 1, 0, (0, 0, 0, 0, 0, 0)), (80, .getfield 60, 3, 0, (12, 19, 18, 2, 3, 0)), (83, .iload_n 3, 1, 0, (0, 0, 0, 0, 0, 0)), (84, .baload, 1, 0, (15, 44, 0, 0, 0, 0)), (85, .ifCond .eq 25, 3, 0, (0, 0, 0, 0, 0, 0)), (88, .aload_n 0, 1, 0, (0, 0, 0, 0, 0, 0)), (89, .getfield 66, 3, 0, (12, 21, 16, 2, 15, 0)), (92, .iload_n 3, 1, 0, (0, 0, 0, 0, 0, 0)), (93, .iaload, 1, 0, (13, 44, 0, 0, 0, 0)), (94, .iconst 2, 1, 0, (0, 0, 0, 0, 0, 2)), (95, .idiv, 1, 0, (0, 0, 0, 0, 0, 0)), (96, .iload_n 1, 1, 0, (0, 0, 0, 0, 0, 0)), (97, .if_icmp .ne 13, 3, 0, (0, 0, 0, 0, 0, 0)), (100, .aload_n 0, 1, 0, (0, 0, 0, 0, 0, 0)), (101, .getfield 60, 3, 0, (12, 19, 18, 2, 3, 0)), (104, .iload_n 3, 1, 0, (0, 0, 0, 0, 0, 0)), (105, .iconst 0, 1, 0, (0, 0, 0, 0, 0, 0)), (106, .bastore, 1, 0, (15, 44, 0, 0, 0, 0)), (107, .iinc 2 1, 3, 0, (0, 0, 0, 0, 0, 1)), (110, .iinc 3 1, 3, 0, (0, 0, 0, 0, 0, 1)), (113, .goto (-40), 3, 0, (0, 0, 0, 0, 0, 0)), (116, .iload_n 2, 1, 0, (0, 0, 0, 0, 0, 0)), (117, .ireturn, 1, 0, (0, 0, 0, 0, 0, 0))]
set_option maxRecDepth 100000 in
theorem rk310 : R310.all (rok 2 310 1 [(215, [0, 0, 0]), (307, [15, 0])]) = true := by decide +kernel
set_option maxRecDepth 100000 in
theorem tab310 {F215 : PM → Int32 → Int32 → Int32 → Int32} {G215 : PM → Int32 → Int32 → Int32 → Prop} {F307 : PM → Int32 → Int64 × PM} {G307 : PM → Int32 → Prop} : TabOK 2 310 1 [CC215 F215 G215, CC307 F307 G307] R310 := tab_ok (K := K310) rfl rfl (fun h => d310 h) rk310 (by decide +kernel)
set_option maxRecDepth 100000 in
theorem pc310 : cutpc [73] R310 = true := by decide +kernel
set_option maxRecDepth 100000 in
theorem r12_doFail_73 (F215 : PM → Int32 → Int32 → Int32 → Int32) (G215 : PM → Int32 → Int32 → Int32 → Prop) (o215 : CalOK 2 (CC215 F215 G215)) (F307 : PM → Int32 → Int64 × PM) (G307 : PM → Int32 → Prop) (o307 : CalOK 2 (CC307 F307 G307)) (kv73 : PM → Int32 → Int32 → Int32 → Int32 × PM) (kg73 : PM → Int32 → Int32 → Int32 → Prop) (hk73 : ∀ (p : PM) (v1 : Int32) (v2 : Int32) (v3 : Int32), Gr 2 p → kg73 p v1 v2 v3 → ZJ 2 310 73 [zR 12 1, zI v1, zI v2, zI v3] [] p (hwI (kv73 p v1 v2 v3))) : ∀ (p : PM) (v1 : Int32) (v2 : Int32) (v3 : Int32), Gr 2 p → bg12_doFail_73 kg73 p v1 v2 v3 → ZJ 2 310 73 [zR 12 1, zI v1, zI v2, zI v3] [] p (hwI (bv12_doFail_73 kv73 p v1 v2 v3)) := by
  intro p v1 v2 v3  hg H
  exact rwI (n := 3000) (q := 73) (la := [zR 12 1, zI v1, zI v2, zI v3]) (sa := []) (ks := [fun la sa s => kv73 s (ai la 1) (ai la 2) (ai la 3)]) (gs := [fun la sa s => zsw (tc2 la [(112, 1), (0, 0), (0, 0), (0, 0)] && tc2 sa []) False (kg73 s (ai la 1) (ai la 2) (ai la 3))]) (fcons o215 (fcons o307 (fnil))) tab310 pc310 ⟨fun la sa s hg H => zcut H fun H => hk73 s (ai la 1) (ai la 2) (ai la 3) hg H, trivial⟩ hg H
theorem t12_doFail_73 : ∀ (n : Nat), ∀ (p : PM) (v1 : Int32) (v2 : Int32) (v3 : Int32), Gr 2 p → g12_doFail_73 n p v1 v2 v3 → ZJ 2 310 73 [zR 12 1, zI v1, zI v2, zI v3] [] p (hwI (v12_doFail_73 n p v1 v2 v3)) := by
  intro n
  induction n with
  | zero =>
    intro p v1 v2 v3  hg H
    exact H.elim
  | succ n ih => exact r12_doFail_73 v12_in g12_in ok215 v12_callOf g12_callOf ok307 (v12_doFail_73 n) (g12_doFail_73 n) ih
set_option maxRecDepth 100000 in
theorem r12_doFail (F215 : PM → Int32 → Int32 → Int32 → Int32) (G215 : PM → Int32 → Int32 → Int32 → Prop) (o215 : CalOK 2 (CC215 F215 G215)) (F307 : PM → Int32 → Int64 × PM) (G307 : PM → Int32 → Prop) (o307 : CalOK 2 (CC307 F307 G307)) (kv73 : PM → Int32 → Int32 → Int32 → Int32 × PM) (kg73 : PM → Int32 → Int32 → Int32 → Prop) (hk73 : ∀ (p : PM) (v1 : Int32) (v2 : Int32) (v3 : Int32), Gr 2 p → kg73 p v1 v2 v3 → ZJ 2 310 73 [zR 12 1, zI v1, zI v2, zI v3] [] p (hwI (kv73 p v1 v2 v3))) : ∀ (p : PM) (v1 : Int32), Gr 2 p → bg12_doFail F215 G215 F307 G307 kg73 p v1 → ZJ 2 310 0 [zR 12 1, zI v1, zJ, zJ] [] p (hwI (bv12_doFail F215 F307 kv73 p v1)) := by
  intro p v1  hg H
  exact rwI (n := 3000) (q := 0) (la := [zR 12 1, zI v1, zJ, zJ]) (sa := []) (ks := [fun la sa s => kv73 s (ai la 1) (ai la 2) (ai la 3)]) (gs := [fun la sa s => zsw (tc2 la [(112, 1), (0, 0), (0, 0), (0, 0)] && tc2 sa []) False (kg73 s (ai la 1) (ai la 2) (ai la 3))]) (fcons o215 (fcons o307 (fnil))) tab310 pc310 ⟨fun la sa s hg H => zcut H fun H => hk73 s (ai la 1) (ai la 2) (ai la 3) hg H, trivial⟩ hg H
theorem t12_doFail : ∀ (p : PM) (v1 : Int32), Gr 2 p → g12_doFail p v1 → ZJ 2 310 0 [zR 12 1, zI v1, zJ, zJ] [] p (hwI (v12_doFail p v1)) := r12_doFail v12_in g12_in ok215 v12_callOf g12_callOf ok307 (v12_doFail_73 FU) (g12_doFail_73 FU) (t12_doFail_73 FU)
def CC310 (F : PM → Int32 → Int32 × PM) (G : PM → Int32 → Prop) : Cal := (310, [15, 0], 1, false, fun as p => (zI (F p (ai as 1)).1, (F p (ai as 1)).2), fun as p => zsw (tc2 as [(112, 1), (0, 0)]) False (G p (ai as 1)))
set_option maxRecDepth 100000 in
theorem okr310 (F : PM → Int32 → Int32 × PM) (G : PM → Int32 → Prop) (h : ∀ (p : PM) (v1 : Int32), Gr 2 p → G p v1 → ZJ 2 310 0 [zR 12 1, zI v1, zJ, zJ] [] p (hwI (F p v1))) : CalOK 2 (CC310 F G) := cal_ok (m := 4) (by unfold mL; rw [mX_310]) (fun as p hg H => h p (ai as 1) hg H)
theorem ok310 : CalOK 2 (CC310 v12_doFail g12_doFail) := okr310 v12_doFail g12_doFail t12_doFail
noncomputable def bv12_doBid_83 (kv83 : PM → Int32 → Int32 → Int32 × PM) (p : PM) (v3 : Int32) (v4 : Int32) : Int32 × PM :=
  if v4 < (cn 4) then (
    if (p.1 15 10 (v4).toNatClampNeg) = 0 then (
      kv83 p (v3 + (cn 0)) (v4 + (cn 1)))
    else (
      kv83 p (v3 + (cn 1)) (v4 + (cn 1))))
  else (
    (v3, p))
noncomputable def v12_doBid_83 (n : Nat) : PM → Int32 → Int32 → Int32 × PM := Nat.rec (motive := fun _ => PM → Int32 → Int32 → Int32 × PM) (fun p _ _ => (0, p)) (fun _ ih => bv12_doBid_83 ih) n
theorem ev12_doBid_83 (n : Nat) (p : PM) (v3 : Int32) (v4 : Int32) : v12_doBid_83 (n + 1) p v3 v4 = bv12_doBid_83 (v12_doBid_83 n) p v3 v4 := rfl
noncomputable def bg12_doBid_83 (kg83 : PM → Int32 → Int32 → Prop) (p : PM) (v3 : Int32) (v4 : Int32) : Prop :=
  if v4 < (cn 4) then (
    (inb v4 4) ∧ (
    if (p.1 15 10 (v4).toNatClampNeg) = 0 then (
      kg83 p (v3 + (cn 0)) (v4 + (cn 1)))
    else (
      kg83 p (v3 + (cn 1)) (v4 + (cn 1)))))
  else (
    True)
noncomputable def g12_doBid_83 (n : Nat) : PM → Int32 → Int32 → Prop := Nat.rec (motive := fun _ => PM → Int32 → Int32 → Prop) (fun _ _ _ => False) (fun _ ih => bg12_doBid_83 ih) n
theorem eg12_doBid_83 (n : Nat) (p : PM) (v3 : Int32) (v4 : Int32) : g12_doBid_83 (n + 1) p v3 v4 = bg12_doBid_83 (g12_doBid_83 n) p v3 v4 := rfl
noncomputable def bv12_doBid (F215 : PM → Int32 → Int32 → Int32 → Int32) (kv83 : PM → Int32 → Int32 → Int32 × PM) (p : PM) (v1 : Int32) (v2 : Int32) : Int32 × PM :=
  if (F215 p v1 (cn 0) (cn 3)) = 0 then (
    let p13 : PM := pI p 12 1 0 (cn 1)
    if (p13.1 12 1 0) = 0 then (
      let p14 : PM := pI p13 15 10 (v1).toNatClampNeg (cn 1)
      let p15 : PM := pI p14 13 39 (v1).toNatClampNeg v2
      kv83 p15 (cn 0) (cn 0))
    else (
      ((cn 0), p13)))
  else (
    if (F215 p v2 (cn (-9999)) (cn 9999)) = 0 then (
      let p10 : PM := pI p 12 1 0 (cn 2)
      if (p10.1 12 1 0) = 0 then (
        let p11 : PM := pI p10 15 10 (v1).toNatClampNeg (cn 1)
        let p12 : PM := pI p11 13 39 (v1).toNatClampNeg v2
        kv83 p12 (cn 0) (cn 0))
      else (
        ((cn 0), p10)))
    else (
      if (p.1 12 1 57) < 0 then (
        let p1 : PM := pI p 12 1 0 (cn 3)
        if (p1.1 12 1 0) = 0 then (
          let p2 : PM := pI p1 15 10 (v1).toNatClampNeg (cn 1)
          let p3 : PM := pI p2 13 39 (v1).toNatClampNeg v2
          kv83 p3 (cn 0) (cn 0))
        else (
          ((cn 0), p1)))
      else (
        if (p.1 15 9 (v1).toNatClampNeg) = 0 then (
          let p4 : PM := pI p 12 1 0 (cn 0)
          if (p4.1 12 1 0) = 0 then (
            let p5 : PM := pI p4 15 10 (v1).toNatClampNeg (cn 1)
            let p6 : PM := pI p5 13 39 (v1).toNatClampNeg v2
            kv83 p6 (cn 0) (cn 0))
          else (
            ((cn 0), p4)))
        else (
          let p7 : PM := pI p 12 1 0 (cn 3)
          if (p7.1 12 1 0) = 0 then (
            let p8 : PM := pI p7 15 10 (v1).toNatClampNeg (cn 1)
            let p9 : PM := pI p8 13 39 (v1).toNatClampNeg v2
            kv83 p9 (cn 0) (cn 0))
          else (
            ((cn 0), p7))))))
noncomputable def v12_doBid (p : PM) (v1 : Int32) (v2 : Int32) : Int32 × PM := bv12_doBid v12_in (v12_doBid_83 FU) p v1 v2
noncomputable def bg12_doBid (F215 : PM → Int32 → Int32 → Int32 → Int32) (G215 : PM → Int32 → Int32 → Int32 → Prop) (kg83 : PM → Int32 → Int32 → Prop) (p : PM) (v1 : Int32) (v2 : Int32) : Prop :=
  (G215 p v1 (cn 0) (cn 3)) ∧ (
  if (F215 p v1 (cn 0) (cn 3)) = 0 then (
    let p13 : PM := pI p 12 1 0 (cn 1)
    if (p13.1 12 1 0) = 0 then (
      (inb v1 4) ∧ (
      let p14 : PM := pI p13 15 10 (v1).toNatClampNeg (cn 1)
      (inb v1 4) ∧ (
      let p15 : PM := pI p14 13 39 (v1).toNatClampNeg v2
      kg83 p15 (cn 0) (cn 0))))
    else (
      True))
  else (
    (G215 p v2 (cn (-9999)) (cn 9999)) ∧ (
    if (F215 p v2 (cn (-9999)) (cn 9999)) = 0 then (
      let p10 : PM := pI p 12 1 0 (cn 2)
      if (p10.1 12 1 0) = 0 then (
        (inb v1 4) ∧ (
        let p11 : PM := pI p10 15 10 (v1).toNatClampNeg (cn 1)
        (inb v1 4) ∧ (
        let p12 : PM := pI p11 13 39 (v1).toNatClampNeg v2
        kg83 p12 (cn 0) (cn 0))))
      else (
        True))
    else (
      if (p.1 12 1 57) < 0 then (
        let p1 : PM := pI p 12 1 0 (cn 3)
        if (p1.1 12 1 0) = 0 then (
          (inb v1 4) ∧ (
          let p2 : PM := pI p1 15 10 (v1).toNatClampNeg (cn 1)
          (inb v1 4) ∧ (
          let p3 : PM := pI p2 13 39 (v1).toNatClampNeg v2
          kg83 p3 (cn 0) (cn 0))))
        else (
          True))
      else (
        (inb v1 4) ∧ (
        if (p.1 15 9 (v1).toNatClampNeg) = 0 then (
          let p4 : PM := pI p 12 1 0 (cn 0)
          if (p4.1 12 1 0) = 0 then (
            (inb v1 4) ∧ (
            let p5 : PM := pI p4 15 10 (v1).toNatClampNeg (cn 1)
            (inb v1 4) ∧ (
            let p6 : PM := pI p5 13 39 (v1).toNatClampNeg v2
            kg83 p6 (cn 0) (cn 0))))
          else (
            True))
        else (
          let p7 : PM := pI p 12 1 0 (cn 3)
          if (p7.1 12 1 0) = 0 then (
            (inb v1 4) ∧ (
            let p8 : PM := pI p7 15 10 (v1).toNatClampNeg (cn 1)
            (inb v1 4) ∧ (
            let p9 : PM := pI p8 13 39 (v1).toNatClampNeg v2
            kg83 p9 (cn 0) (cn 0))))
          else (
            True))))))))
noncomputable def g12_doBid (p : PM) (v1 : Int32) (v2 : Int32) : Prop := bg12_doBid v12_in g12_in (g12_doBid_83 FU) p v1 v2
def R311 : List Row := [(0, .aload_n 0, 1, 0, (0, 0, 0, 0, 0, 0)), (1, .iload_n 1, 1, 0, (0, 0, 0, 0, 0, 0)), (2, .iconst 0, 1, 0, (0, 0, 0, 0, 0, 0)), (3, .iconst 3, 1, 0, (0, 0, 0, 0, 0, 3)), (4, .invokestatic 209, 3, 0, (0, 3, 0, 0, 0, 0)), (7, .ifCond .ne 7, 3, 0, (0, 0, 0, 0, 0, 0)), (10, .iconst 1, 1, 0, (0, 0, 0, 0, 0, 1)), (11, .goto 41, 3, 0, (0, 0, 0, 0, 0, 0)), (14, .iload_n 2, 1, 0, (0, 0, 0, 0, 0, 0)), (15, .sipush (-9999), 3, 0, (0, 0, 0, 0, 0, -9999)), (18, .sipush 9999, 3, 0, (0, 0, 0, 0, 0, 9999)), (21, .invokestatic 209, 3, 0, (0, 3, 0, 0, 0, 0)), (24, .ifCond .ne 7, 3, 0, (0, 0, 0, 0, 0, 0)), (27, .iconst 2, 1, 0, (0, 0, 0, 0, 0, 2)), (28, .goto 24, 3, 0, (0, 0, 0, 0, 0, 0)), (31, .aload_n 0, 1, 0, (0, 0, 0, 0, 0, 0)), (32, .getfield 188, 3, 0, (12, 57, 0, 1, 0, 0)), (35, .ifCond .lt 12, 3, 0, (0, 0, 0, 0, 0, 0)), (38, .aload_n 0, 1, 0, (0, 0, 0, 0, 0, 0)), (39, .getfield 153, 3, 0, (12, 54, 18, 2, 9, 0)), (42, .iload_n 1, 1, 0, (0, 0, 0, 0, 0, 0)), (43, .baload, 1, 0, (15, 4, 0, 0, 0, 0)), (44, .ifCond .eq 7, 3, 0, (0, 0, 0, 0, 0, 0)), (47, .iconst 3, 1, 0, (0, 0, 0, 0, 0, 3)), (48, .goto 4, 3, 0, (0, 0, 0, 0, 0, 0)), (51, .iconst 0, 1, 0, (0, 0, 0, 0, 0, 0)), (52, .putfield 180, 3, 0, (12, 0, 0, 1, 0, 0)), (55, .aload_n 0, 1, 0, (0, 0, 0, 0, 0, 0)), (56, .getfield 180, 3, 0, (12, 0, 0, 1, 0, 0)), (59, .ifCond .eq 5, 3, 0, (0, 0, 0, 0, 0, 0)), (62, .iconst 0, 1, 0, (0, 0, 0, 0, 0, 0)), (63, .ireturn, 1, 0, (0, 0, 0, 0, 0, 0)), (64, .aload_n 0, 1, 0, (0, 0, 0, 0, 0, 0)), (65, .getfield 156, 3, 0, (12, 55, 18, 2, 10, 0)), (68, .iload_n 1, 1, 0, (0, 0, 0, 0, 0, 0)), (69, .iconst 1, 1, 0, (0, 0, 0, 0, 0, 1)), (70, .bastore, 1, 0, (15, 4, 0, 0, 0, 0)), (71, .aload_n 0, 1, 0, (0, 0, 0, 0, 0, 0)), (72, .getfield 159, 3, 0, (12, 56, 16, 2, 39, 0)), (75, .iload_n 1, 1, 0, (0, 0, 0, 0, 0, 0)), (76, .iload_n 2, 1, 0, (0, 0, 0, 0, 0, 0)), (77, .iastore, 1, 0, (13, 4, 0, 0, 0, 0)), (78, .iconst 0, 1, 0, (0, 0, 0, 0, 0, 0)), (79, .istore_n 3, 1, 0, (0, 0, 0, 0, 0, 0)), (80, .iconst 0, 1, 0, (0, 0, 0, 0, 0, 0)), (81, .istore 4, 2, 0, (0, 0, 0, 0, 0, 0)), (83, .iload 4, 2, 1, (0, 0, 0, 0, 0, 0)), (85, .iconst 4, 1, 0, (0, 0, 0, 0, 0, 4)), (86, .if_icmp .ge 27, 3, 0, (0, 0, 0, 0, 0, 0)), (89, .iload_n 3, 1, 0, (0, 0, 0, 0, 0, 0)), (90, .aload_n 0, 1, 0, (0, 0, 0, 0, 0, 0)), (91, .getfield 156, 3, 0, (12, 55, 18, 2, 10, 0)), (94, .iload 4, 2, 0, (0, 0, 0, 0, 0, 0)), (96, .baload, 1, 0, (15, 4, 0, 0, 0, 0)), (97, .ifCond .eq 7, 3, 0, (0, 0, 0, 0, 0, 0)), (100, .iconst 1, 1, 0, (0, 0, 0, 0, 0, 1)), (101, .goto 4, 3, 0, (0, 0, 0, 0, 0, 0)), (104, .iconst 0, 1, 0, (0, 0, 0, 0, 0, 0)), (105, .iadd, 1, 0, (0, 0, 0, 0, 0, 0)), (106, .istore_n 3, 1, 0, (0, 0, 0, 0, 0, 0)), (107, .iinc 4 1, 3, 0, (0, 0, 0, 0, 0, 1)), (110, .goto (-27), 3, 0, (0, 0, 0, 0, 0, 0)), (113, .iload_n 3, 1, 0, (0, 0, 0, 0, 0, 0)), (114, .ireturn, 1, 0, (0, 0, 0, 0, 0, 0))]
set_option maxRecDepth 100000 in
theorem rk311 : R311.all (rok 2 311 1 [(215, [0, 0, 0])]) = true := by decide +kernel
set_option maxRecDepth 100000 in
theorem tab311 {F215 : PM → Int32 → Int32 → Int32 → Int32} {G215 : PM → Int32 → Int32 → Int32 → Prop} : TabOK 2 311 1 [CC215 F215 G215] R311 := tab_ok (K := K311) rfl rfl (fun h => d311 h) rk311 (by decide +kernel)
set_option maxRecDepth 100000 in
theorem pc311 : cutpc [83] R311 = true := by decide +kernel
set_option maxRecDepth 100000 in
theorem r12_doBid_83 (F215 : PM → Int32 → Int32 → Int32 → Int32) (G215 : PM → Int32 → Int32 → Int32 → Prop) (o215 : CalOK 2 (CC215 F215 G215)) (kv83 : PM → Int32 → Int32 → Int32 × PM) (kg83 : PM → Int32 → Int32 → Prop) (hk83 : ∀ (p : PM) (v3 : Int32) (v4 : Int32) (d1 d2 : ZV), Gr 2 p → kg83 p v3 v4 → ZJ 2 311 83 [zR 12 1, d1, d2, zI v3, zI v4] [] p (hwI (kv83 p v3 v4))) : ∀ (p : PM) (v3 : Int32) (v4 : Int32) (d1 d2 : ZV), Gr 2 p → bg12_doBid_83 kg83 p v3 v4 → ZJ 2 311 83 [zR 12 1, d1, d2, zI v3, zI v4] [] p (hwI (bv12_doBid_83 kv83 p v3 v4)) := by
  intro p v3 v4 d1 d2 hg H
  exact rwI (n := 3000) (q := 83) (la := [zR 12 1, d1, d2, zI v3, zI v4]) (sa := []) (ks := [fun la sa s => kv83 s (ai la 3) (ai la 4)]) (gs := [fun la sa s => zsw (tc2 la [(112, 1), (2, 0), (2, 0), (0, 0), (0, 0)] && tc2 sa []) False (kg83 s (ai la 3) (ai la 4))]) (fcons o215 (fnil)) tab311 pc311 ⟨fun la sa s hg H => zcut H fun H => hk83 s (ai la 3) (ai la 4) (zld la 1) (zld la 2) hg H, trivial⟩ hg H
theorem t12_doBid_83 : ∀ (n : Nat), ∀ (p : PM) (v3 : Int32) (v4 : Int32) (d1 d2 : ZV), Gr 2 p → g12_doBid_83 n p v3 v4 → ZJ 2 311 83 [zR 12 1, d1, d2, zI v3, zI v4] [] p (hwI (v12_doBid_83 n p v3 v4)) := by
  intro n
  induction n with
  | zero =>
    intro p v3 v4 d1 d2 hg H
    exact H.elim
  | succ n ih => exact r12_doBid_83 v12_in g12_in ok215 (v12_doBid_83 n) (g12_doBid_83 n) ih
set_option maxRecDepth 100000 in
theorem r12_doBid (F215 : PM → Int32 → Int32 → Int32 → Int32) (G215 : PM → Int32 → Int32 → Int32 → Prop) (o215 : CalOK 2 (CC215 F215 G215)) (kv83 : PM → Int32 → Int32 → Int32 × PM) (kg83 : PM → Int32 → Int32 → Prop) (hk83 : ∀ (p : PM) (v3 : Int32) (v4 : Int32) (d1 d2 : ZV), Gr 2 p → kg83 p v3 v4 → ZJ 2 311 83 [zR 12 1, d1, d2, zI v3, zI v4] [] p (hwI (kv83 p v3 v4))) : ∀ (p : PM) (v1 : Int32) (v2 : Int32), Gr 2 p → bg12_doBid F215 G215 kg83 p v1 v2 → ZJ 2 311 0 [zR 12 1, zI v1, zI v2, zJ, zJ] [] p (hwI (bv12_doBid F215 kv83 p v1 v2)) := by
  intro p v1 v2  hg H
  exact rwI (n := 3000) (q := 0) (la := [zR 12 1, zI v1, zI v2, zJ, zJ]) (sa := []) (ks := [fun la sa s => kv83 s (ai la 3) (ai la 4)]) (gs := [fun la sa s => zsw (tc2 la [(112, 1), (2, 0), (2, 0), (0, 0), (0, 0)] && tc2 sa []) False (kg83 s (ai la 3) (ai la 4))]) (fcons o215 (fnil)) tab311 pc311 ⟨fun la sa s hg H => zcut H fun H => hk83 s (ai la 3) (ai la 4) (zld la 1) (zld la 2) hg H, trivial⟩ hg H
theorem t12_doBid : ∀ (p : PM) (v1 : Int32) (v2 : Int32), Gr 2 p → g12_doBid p v1 v2 → ZJ 2 311 0 [zR 12 1, zI v1, zI v2, zJ, zJ] [] p (hwI (v12_doBid p v1 v2)) := r12_doBid v12_in g12_in ok215 (v12_doBid_83 FU) (g12_doBid_83 FU) (t12_doBid_83 FU)
def CC311 (F : PM → Int32 → Int32 → Int32 × PM) (G : PM → Int32 → Int32 → Prop) : Cal := (311, [15, 0, 0], 1, false, fun as p => (zI (F p (ai as 1) (ai as 2)).1, (F p (ai as 1) (ai as 2)).2), fun as p => zsw (tc2 as [(112, 1), (0, 0), (0, 0)]) False (G p (ai as 1) (ai as 2)))
set_option maxRecDepth 100000 in
theorem okr311 (F : PM → Int32 → Int32 → Int32 × PM) (G : PM → Int32 → Int32 → Prop) (h : ∀ (p : PM) (v1 : Int32) (v2 : Int32), Gr 2 p → G p v1 v2 → ZJ 2 311 0 [zR 12 1, zI v1, zI v2, zJ, zJ] [] p (hwI (F p v1 v2))) : CalOK 2 (CC311 F G) := cal_ok (m := 5) (by unfold mL; rw [mX_311]) (fun as p hg H => h p (ai as 1) (ai as 2) hg H)
theorem ok311 : CalOK 2 (CC311 v12_doBid g12_doBid) := okr311 v12_doBid g12_doBid t12_doBid
