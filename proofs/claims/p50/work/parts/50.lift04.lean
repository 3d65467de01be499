/-! methods as functions over one part, by program (wip/p50/lift.py) -/
noncomputable def bv8_tradeAll_2 (F128 : PM → Nat → Nat → Int32 → Int32 → PM) (F131 : PM → Nat → Int32 → Int32 → Nat) (F209 : PM → Int32 → Int32 → Int32) (kv2 : PM → Nat → Int32 → Int32 → PM) (p : PM) (v1 : Nat) (v2 : Int32) (v3 : Int32) : PM :=
  if v3 < (cn 1000000) then (
    let x1 : Nat := (F131 p v1 (cn 1) v2)
    let x2 : Nat := (F131 p v1 (cn 0) v2)
    if x1 = 0 then (
      p)
    else (
      if x2 = 0 then (
        p)
      else (
        let p3 : PM := F128 p x1 x2 v2 (F209 p (p.1 10 x1 9) (p.1 10 x2 9))
        kv2 p3 v1 v2 (v3 + (cn 1)))))
  else (
    p)
noncomputable def v8_tradeAll_2 (n : Nat) : PM → Nat → Int32 → Int32 → PM := Nat.rec (motive := fun _ => PM → Nat → Int32 → Int32 → PM) (fun p _ _ _ => p) (fun _ ih => bv8_tradeAll_2 v8_strike v8_firstAt v14_min_7cf53 ih) n
theorem ev8_tradeAll_2 (n : Nat) (p : PM) (v1 : Nat) (v2 : Int32) (v3 : Int32) : v8_tradeAll_2 (n + 1) p v1 v2 v3 = bv8_tradeAll_2 v8_strike v8_firstAt v14_min_7cf53 (v8_tradeAll_2 n) p v1 v2 v3 := rfl
noncomputable def bg8_tradeAll_2 (F128 : PM → Nat → Nat → Int32 → Int32 → PM) (G128 : PM → Nat → Nat → Int32 → Int32 → Prop) (F131 : PM → Nat → Int32 → Int32 → Nat) (G131 : PM → Nat → Int32 → Int32 → Prop) (F209 : PM → Int32 → Int32 → Int32) (G209 : PM → Int32 → Int32 → Prop) (kg2 : PM → Nat → Int32 → Int32 → Prop) (p : PM) (v1 : Nat) (v2 : Int32) (v3 : Int32) : Prop :=
  if v3 < (cn 1000000) then (
    (G131 p v1 (cn 1) v2) ∧ (
    let x1 : Nat := (F131 p v1 (cn 1) v2)
    (G131 p v1 (cn 0) v2) ∧ (
    let x2 : Nat := (F131 p v1 (cn 0) v2)
    if x1 = 0 then (
      True)
    else (
      if x2 = 0 then (
        True)
      else (
        (¬ x1 = 0) ∧ (
        (¬ x2 = 0) ∧ (
        (G209 p (p.1 10 x1 9) (p.1 10 x2 9)) ∧ (
        (G128 p x1 x2 v2 (F209 p (p.1 10 x1 9) (p.1 10 x2 9))) ∧ (
        let p3 : PM := F128 p x1 x2 v2 (F209 p (p.1 10 x1 9) (p.1 10 x2 9))
        kg2 p3 v1 v2 (v3 + (cn 1)))))))))))
  else (
    True)
noncomputable def g8_tradeAll_2 (n : Nat) : PM → Nat → Int32 → Int32 → Prop := Nat.rec (motive := fun _ => PM → Nat → Int32 → Int32 → Prop) (fun _ _ _ _ => False) (fun _ ih => bg8_tradeAll_2 v8_strike g8_strike v8_firstAt g8_firstAt v14_min_7cf53 g14_min_7cf53 ih) n
theorem eg8_tradeAll_2 (n : Nat) (p : PM) (v1 : Nat) (v2 : Int32) (v3 : Int32) : g8_tradeAll_2 (n + 1) p v1 v2 v3 = bg8_tradeAll_2 v8_strike g8_strike v8_firstAt g8_firstAt v14_min_7cf53 g14_min_7cf53 (g8_tradeAll_2 n) p v1 v2 v3 := rfl
noncomputable def bv8_tradeAll (kv2 : PM → Nat → Int32 → Int32 → PM) (p : PM) (v1 : Nat) (v2 : Int32) : PM :=
  kv2 p v1 v2 (cn 0)
noncomputable def v8_tradeAll (p : PM) (v1 : Nat) (v2 : Int32) : PM := bv8_tradeAll (v8_tradeAll_2 FU) p v1 v2
noncomputable def bg8_tradeAll (kg2 : PM → Nat → Int32 → Int32 → Prop) (p : PM) (v1 : Nat) (v2 : Int32) : Prop :=
  kg2 p v1 v2 (cn 0)
noncomputable def g8_tradeAll (p : PM) (v1 : Nat) (v2 : Int32) : Prop := bg8_tradeAll (g8_tradeAll_2 FU) p v1 v2
def R130 : List Row := [(0, .iconst 0, 1, 0, (0, 0, 0, 0, 0, 0)), (1, .istore_n 3, 1, 0, (0, 0, 0, 0, 0, 0)), (2, .iload_n 3, 1, 1, (0, 0, 0, 0, 0, 0)), (3, .ldc 71, 2, 0, (0, 0, 0, 0, 0, 1000000)), (5, .if_icmp .ge 60, 3, 0, (0, 0, 0, 0, 0, 0)), (8, .aload_n 0, 1, 0, (0, 0, 0, 0, 0, 0)), (9, .aload_n 1, 1, 0, (0, 0, 0, 0, 0, 0)), (10, .iconst 1, 1, 0, (0, 0, 0, 0, 0, 1)), (11, .iload_n 2, 1, 0, (0, 0, 0, 0, 0, 0)), (12, .invokevirtual 183, 3, 0, (0, 4, 0, 0, 1, 0)), (15, .astore 4, 2, 0, (0, 0, 0, 0, 0, 0)), (17, .aload_n 0, 1, 0, (0, 0, 0, 0, 0, 0)), (18, .aload_n 1, 1, 0, (0, 0, 0, 0, 0, 0)), (19, .iconst 0, 1, 0, (0, 0, 0, 0, 0, 0)), (20, .iload_n 2, 1, 0, (0, 0, 0, 0, 0, 0)), (21, .invokevirtual 183, 3, 0, (0, 4, 0, 0, 1, 0)), (24, .astore 5, 2, 0, (0, 0, 0, 0, 0, 0)), (26, .aload 4, 2, 0, (0, 0, 0, 0, 0, 0)), (28, .ifnull 8, 3, 0, (0, 0, 0, 0, 0, 0)), (31, .aload 5, 2, 0, (0, 0, 0, 0, 0, 0)), (33, .ifnonnull 4, 3, 0, (0, 0, 0, 0, 0, 0)), (36, .return_, 1, 0, (0, 0, 0, 0, 0, 0)), (37, .aload_n 0, 1, 0, (0, 0, 0, 0, 0, 0)), (38, .aload 4, 2, 0, (0, 0, 0, 0, 0, 0)), (40, .aload 5, 2, 0, (0, 0, 0, 0, 0, 0)), (42, .iload_n 2, 1, 0, (0, 0, 0, 0, 0, 0)), (43, .aload 4, 2, 0, (0, 0, 0, 0, 0, 0)), (45, .getfield 68, 3, 0, (10, 9, 0, 0, 0, 0)), (48, .aload 5, 2, 0, (0, 0, 0, 0, 0, 0)), (50, .getfield 68, 3, 0, (10, 9, 0, 0, 0, 0)), (53, .invokestatic 128, 3, 0, (1, 2, 0, 0, 0, 0)), (56, .invokevirtual 99, 3, 0, (2, 5, 0, 0, 1, 0)), (59, .iinc 3 1, 3, 0, (0, 0, 0, 0, 0, 1)), (62, .goto (-60), 3, 0, (0, 0, 0, 0, 0, 0)), (65, .return_, 1, 0, (0, 0, 0, 0, 0, 0))]
set_option maxRecDepth 100000 in
theorem rk130 : R130.all (rok 0 130 0 [(131, [11, 4, 0, 0]), (209, [0, 0]), (128, [11, 13, 13, 0, 0])]) = true := by decide +kernel
set_option maxRecDepth 100000 in
theorem tab130 {F131 : PM → Nat → Int32 → Int32 → Nat} {G131 : PM → Nat → Int32 → Int32 → Prop} {F209 : PM → Int32 → Int32 → Int32} {G209 : PM → Int32 → Int32 → Prop} {F128 : PM → Nat → Nat → Int32 → Int32 → PM} {G128 : PM → Nat → Nat → Int32 → Int32 → Prop} : TabOK 0 130 0 [CC131 F131 G131, CC209 F209 G209, CC128 F128 G128] R130 := tab_ok (K := K130) rfl rfl (fun h => d130 h) rk130 (by decide +kernel)
set_option maxRecDepth 100000 in
theorem pc130 : cutpc [2] R130 = true := by decide +kernel
set_option maxRecDepth 100000 in
theorem r8_tradeAll_2 (F131 : PM → Nat → Int32 → Int32 → Nat) (G131 : PM → Nat → Int32 → Int32 → Prop) (o131 : CalOK 0 (CC131 F131 G131)) (F209 : PM → Int32 → Int32 → Int32) (G209 : PM → Int32 → Int32 → Prop) (o209 : CalOK 0 (CC209 F209 G209)) (F128 : PM → Nat → Nat → Int32 → Int32 → PM) (G128 : PM → Nat → Nat → Int32 → Int32 → Prop) (o128 : CalOK 0 (CC128 F128 G128)) (kv2 : PM → Nat → Int32 → Int32 → PM) (kg2 : PM → Nat → Int32 → Int32 → Prop) (hk2 : ∀ (p : PM) (v1 : Nat) (v2 : Int32) (v3 : Int32) (d4 d5 : ZV), Gr 0 p → kg2 p v1 v2 v3 → ZJ 0 130 2 [zR 8 1, zR 1 v1, zI v2, zI v3, d4, d5] [] p (hwV (kv2 p v1 v2 v3))) : ∀ (p : PM) (v1 : Nat) (v2 : Int32) (v3 : Int32) (d4 d5 : ZV), Gr 0 p → bg8_tradeAll_2 F128 G128 F131 G131 F209 G209 kg2 p v1 v2 v3 → ZJ 0 130 2 [zR 8 1, zR 1 v1, zI v2, zI v3, d4, d5] [] p (hwV (bv8_tradeAll_2 F128 F131 F209 kv2 p v1 v2 v3)) := by
  intro p v1 v2 v3 d4 d5 hg H
  exact rwV (n := 3000) (q := 2) (la := [zR 8 1, zR 1 v1, zI v2, zI v3, d4, d5]) (sa := []) (ks := [fun la sa s => kv2 s (ar la 1) (ai la 2) (ai la 3)]) (gs := [fun la sa s => zsw (tc2 la [(108, 1), (5, 0), (0, 0), (0, 0), (2, 0), (2, 0)] && tc2 sa []) False (kg2 s (ar la 1) (ai la 2) (ai la 3))]) (fcons o131 (fcons o209 (fcons o128 (fnil)))) tab130 pc130 ⟨fun la sa s hg H => zcut H fun H => hk2 s (ar la 1) (ai la 2) (ai la 3) (zld la 4) (zld la 5) hg H, trivial⟩ hg H
theorem t8_tradeAll_2 : ∀ (n : Nat), ∀ (p : PM) (v1 : Nat) (v2 : Int32) (v3 : Int32) (d4 d5 : ZV), Gr 0 p → g8_tradeAll_2 n p v1 v2 v3 → ZJ 0 130 2 [zR 8 1, zR 1 v1, zI v2, zI v3, d4, d5] [] p (hwV (v8_tradeAll_2 n p v1 v2 v3)) := by
  intro n
  induction n with
  | zero =>
    intro p v1 v2 v3 d4 d5 hg H
    exact H.elim
  | succ n ih => exact r8_tradeAll_2 v8_firstAt g8_firstAt ok131 v14_min_7cf53 g14_min_7cf53 ok209 v8_strike g8_strike ok128 (v8_tradeAll_2 n) (g8_tradeAll_2 n) ih
set_option maxRecDepth 100000 in
theorem r8_tradeAll (F131 : PM → Nat → Int32 → Int32 → Nat) (G131 : PM → Nat → Int32 → Int32 → Prop) (o131 : CalOK 0 (CC131 F131 G131)) (F209 : PM → Int32 → Int32 → Int32) (G209 : PM → Int32 → Int32 → Prop) (o209 : CalOK 0 (CC209 F209 G209)) (F128 : PM → Nat → Nat → Int32 → Int32 → PM) (G128 : PM → Nat → Nat → Int32 → Int32 → Prop) (o128 : CalOK 0 (CC128 F128 G128)) (kv2 : PM → Nat → Int32 → Int32 → PM) (kg2 : PM → Nat → Int32 → Int32 → Prop) (hk2 : ∀ (p : PM) (v1 : Nat) (v2 : Int32) (v3 : Int32) (d4 d5 : ZV), Gr 0 p → kg2 p v1 v2 v3 → ZJ 0 130 2 [zR 8 1, zR 1 v1, zI v2, zI v3, d4, d5] [] p (hwV (kv2 p v1 v2 v3))) : ∀ (p : PM) (v1 : Nat) (v2 : Int32), Gr 0 p → bg8_tradeAll kg2 p v1 v2 → ZJ 0 130 0 [zR 8 1, zR 1 v1, zI v2, zJ, zJ, zJ] [] p (hwV (bv8_tradeAll kv2 p v1 v2)) := by
  intro p v1 v2  hg H
  exact rwV (n := 3000) (q := 0) (la := [zR 8 1, zR 1 v1, zI v2, zJ, zJ, zJ]) (sa := []) (ks := [fun la sa s => kv2 s (ar la 1) (ai la 2) (ai la 3)]) (gs := [fun la sa s => zsw (tc2 la [(108, 1), (5, 0), (0, 0), (0, 0), (2, 0), (2, 0)] && tc2 sa []) False (kg2 s (ar la 1) (ai la 2) (ai la 3))]) (fcons o131 (fcons o209 (fcons o128 (fnil)))) tab130 pc130 ⟨fun la sa s hg H => zcut H fun H => hk2 s (ar la 1) (ai la 2) (ai la 3) (zld la 4) (zld la 5) hg H, trivial⟩ hg H
theorem t8_tradeAll : ∀ (p : PM) (v1 : Nat) (v2 : Int32), Gr 0 p → g8_tradeAll p v1 v2 → ZJ 0 130 0 [zR 8 1, zR 1 v1, zI v2, zJ, zJ, zJ] [] p (hwV (v8_tradeAll p v1 v2)) := r8_tradeAll v8_firstAt g8_firstAt ok131 v14_min_7cf53 g14_min_7cf53 ok209 v8_strike g8_strike ok128 (v8_tradeAll_2 FU) (g8_tradeAll_2 FU) (t8_tradeAll_2 FU)
def CC130 (F : PM → Nat → Int32 → PM) (G : PM → Nat → Int32 → Prop) : Cal := (130, [11, 4, 0], 0, false, fun as p => (zJ, (F p (ar as 1) (ai as 2))), fun as p => zsw (tc2 as [(108, 1), (5, 0), (0, 0)]) False (G p (ar as 1) (ai as 2)))
set_option maxRecDepth 100000 in
theorem okr130 (F : PM → Nat → Int32 → PM) (G : PM → Nat → Int32 → Prop) (h : ∀ (p : PM) (v1 : Nat) (v2 : Int32), Gr 0 p → G p v1 v2 → ZJ 0 130 0 [zR 8 1, zR 1 v1, zI v2, zJ, zJ, zJ] [] p (hwV (F p v1 v2))) : CalOK 0 (CC130 F G) := cal_ok (m := 6) (by unfold mL; rw [mX_130]) (fun as p hg H => h p (ar as 1) (ai as 2) hg H)
theorem ok130 : CalOK 0 (CC130 v8_tradeAll g8_tradeAll) := okr130 v8_tradeAll g8_tradeAll t8_tradeAll
noncomputable def bv6_openBook_16 (F148 : PM → Nat → Int32) (kv16 : PM → Nat → Int32 → PM) (p : PM) (v1 : Nat) (v4 : Int32) : PM :=
  if v4 < (cn 40) then (
    if (p.1 10 ((v4).toNatClampNeg + 1) 2) = (cn 1) then (
      if (p.2.2 10 ((v4).toNatClampNeg + 1) 4) = v1 then (
        if (p.1 10 ((v4).toNatClampNeg + 1) 6) = (cn (-100000)) then (
          let p2 : PM := pI p 10 ((v4).toNatClampNeg + 1) 2 (cn 0)
          let p3 : PM := pI p2 10 ((v4).toNatClampNeg + 1) 11 (F148 p2 ((v4).toNatClampNeg + 1))
          kv16 p3 v1 (v4 + (cn 1)))
        else (
          let p1 : PM := pI p 10 ((v4).toNatClampNeg + 1) 11 (F148 p ((v4).toNatClampNeg + 1))
          kv16 p1 v1 (v4 + (cn 1))))
      else (
        kv16 p v1 (v4 + (cn 1))))
    else (
      kv16 p v1 (v4 + (cn 1))))
  else (
    p)
noncomputable def v6_openBook_16 (n : Nat) : PM → Nat → Int32 → PM := Nat.rec (motive := fun _ => PM → Nat → Int32 → PM) (fun p _ _ => p) (fun _ ih => bv6_openBook_16 v10_showable ih) n
theorem ev6_openBook_16 (n : Nat) (p : PM) (v1 : Nat) (v4 : Int32) : v6_openBook_16 (n + 1) p v1 v4 = bv6_openBook_16 v10_showable (v6_openBook_16 n) p v1 v4 := rfl
noncomputable def bg6_openBook_16 (F148 : PM → Nat → Int32) (G148 : PM → Nat → Prop) (kg16 : PM → Nat → Int32 → Prop) (p : PM) (v1 : Nat) (v4 : Int32) : Prop :=
  if v4 < (cn 40) then (
    (inb v4 40) ∧ (
    if (p.1 10 ((v4).toNatClampNeg + 1) 2) = (cn 1) then (
      if (p.2.2 10 ((v4).toNatClampNeg + 1) 4) = v1 then (
        if (p.1 10 ((v4).toNatClampNeg + 1) 6) = (cn (-100000)) then (
          let p2 : PM := pI p 10 ((v4).toNatClampNeg + 1) 2 (cn 0)
          (G148 p2 ((v4).toNatClampNeg + 1)) ∧ (
          let p3 : PM := pI p2 10 ((v4).toNatClampNeg + 1) 11 (F148 p2 ((v4).toNatClampNeg + 1))
          kg16 p3 v1 (v4 + (cn 1))))
        else (
          (G148 p ((v4).toNatClampNeg + 1)) ∧ (
          let p1 : PM := pI p 10 ((v4).toNatClampNeg + 1) 11 (F148 p ((v4).toNatClampNeg + 1))
          kg16 p1 v1 (v4 + (cn 1)))))
      else (
        kg16 p v1 (v4 + (cn 1))))
    else (
      kg16 p v1 (v4 + (cn 1)))))
  else (
    True)
noncomputable def g6_openBook_16 (n : Nat) : PM → Nat → Int32 → Prop := Nat.rec (motive := fun _ => PM → Nat → Int32 → Prop) (fun _ _ _ => False) (fun _ ih => bg6_openBook_16 v10_showable g10_showable ih) n
theorem eg6_openBook_16 (n : Nat) (p : PM) (v1 : Nat) (v4 : Int32) : g6_openBook_16 (n + 1) p v1 v4 = bg6_openBook_16 v10_showable g10_showable (g6_openBook_16 n) p v1 v4 := rfl
noncomputable def bv6_openBook (kv16 : PM → Nat → Int32 → PM) (p : PM) (v1 : Nat) : PM :=
  let p1 : PM := pI p 1 v1 5 (cn 0)
  kv16 p1 v1 (cn 0)
noncomputable def v6_openBook (p : PM) (v1 : Nat) : PM := bv6_openBook (v6_openBook_16 FU) p v1
noncomputable def bg6_openBook (kg16 : PM → Nat → Int32 → Prop) (p : PM) (v1 : Nat) : Prop :=
  (¬ v1 = 0) ∧ (
  let p1 : PM := pI p 1 v1 5 (cn 0)
  kg16 p1 v1 (cn 0))
noncomputable def g6_openBook (p : PM) (v1 : Nat) : Prop := bg6_openBook (g6_openBook_16 FU) p v1
def R94 : List Row := [(0, .aload_n 1, 1, 0, (0, 0, 0, 0, 0, 0)), (1, .iconst 0, 1, 0, (0, 0, 0, 0, 0, 0)), (2, .putfield 154, 3, 0, (1, 5, 1, 0, 0, 0)), (5, .aload_n 0, 1, 0, (0, 0, 0, 0, 0, 0)), (6, .getfield 11, 3, 0, (6, 1, 23, 2, 1, 0)), (9, .astore_n 2, 1, 0, (0, 0, 0, 0, 0, 0)), (10, .aload_n 2, 1, 0, (0, 0, 0, 0, 0, 0)), (11, .arraylength, 1, 0, (20, 40, 0, 0, 0, 40)), (12, .istore_n 3, 1, 0, (0, 0, 0, 0, 0, 0)), (13, .iconst 0, 1, 0, (0, 0, 0, 0, 0, 0)), (14, .istore 4, 2, 0, (0, 0, 0, 0, 0, 0)), (16, .iload 4, 2, 1, (0, 0, 0, 0, 0, 0)), (18, .iload_n 3, 1, 0, (0, 0, 0, 0, 0, 0)), (19, .if_icmp .ge 59, 3, 0, (0, 0, 0, 0, 0, 0)), (22, .aload_n 2, 1, 0, (0, 0, 0, 0, 0, 0)), (23, .iload 4, 2, 0, (0, 0, 0, 0, 0, 0)), (25, .aaload, 1, 0, (20, 40, 0, 1, 1, 0)), (26, .astore 5, 2, 0, (0, 0, 0, 0, 0, 0)), (28, .aload 5, 2, 0, (0, 0, 0, 0, 0, 0)), (30, .getfield 29, 3, 0, (10, 2, 0, 1, 0, 0)), (33, .iconst 1, 1, 0, (0, 0, 0, 0, 0, 1)), (34, .if_icmp .ne 38, 3, 0, (0, 0, 0, 0, 0, 0)), (37, .aload 5, 2, 0, (0, 0, 0, 0, 0, 0)), (39, .getfield 130, 3, 0, (10, 4, 4, 1, 0, 0)), (42, .aload_n 1, 1, 0, (0, 0, 0, 0, 0, 0)), (43, .if_acmp .ne 29, 3, 0, (0, 0, 0, 0, 0, 0)), (46, .aload 5, 2, 0, (0, 0, 0, 0, 0, 0)), (48, .getfield 52, 3, 0, (10, 6, 0, 1, 0, 0)), (51, .ldc 71, 2, 0, (0, 0, 0, 0, 0, -100000)), (53, .if_icmp .ne 9, 3, 0, (0, 0, 0, 0, 0, 0)), (56, .aload 5, 2, 0, (0, 0, 0, 0, 0, 0)), (58, .iconst 0, 1, 0, (0, 0, 0, 0, 0, 0)), (59, .putfield 29, 3, 0, (10, 2, 0, 1, 0, 0)), (62, .aload 5, 2, 0, (0, 0, 0, 0, 0, 0)), (64, .aload 5, 2, 0, (0, 0, 0, 0, 0, 0)), (66, .invokevirtual 58, 3, 0, (0, 1, 0, 0, 1, 0)), (69, .putfield 62, 3, 0, (10, 11, 0, 1, 0, 0)), (72, .iinc 4 1, 3, 0, (0, 0, 0, 0, 0, 1)), (75, .goto (-59), 3, 0, (0, 0, 0, 0, 0, 0)), (78, .return_, 1, 0, (0, 0, 0, 0, 0, 0))]
set_option maxRecDepth 100000 in
theorem rk94 : R94.all (rok 0 94 0 [(148, [13])]) = true := by decide +kernel
set_option maxRecDepth 100000 in
theorem tab94 {F148 : PM → Nat → Int32} {G148 : PM → Nat → Prop} : TabOK 0 94 0 [CC148 F148 G148] R94 := tab_ok (K := K94) rfl rfl (fun h => d94 h) rk94 (by decide +kernel)
set_option maxRecDepth 100000 in
theorem pc94 : cutpc [16] R94 = true := by decide +kernel
set_option maxRecDepth 100000 in
theorem r6_openBook_16 (F148 : PM → Nat → Int32) (G148 : PM → Nat → Prop) (o148 : CalOK 0 (CC148 F148 G148)) (kv16 : PM → Nat → Int32 → PM) (kg16 : PM → Nat → Int32 → Prop) (hk16 : ∀ (p : PM) (v1 : Nat) (v4 : Int32) (d0 d5 : ZV), Gr 0 p → kg16 p v1 v4 → ZJ 0 94 16 [d0, zR 1 v1, zR 20 1, zC 40, zI v4, d5] [] p (hwV (kv16 p v1 v4))) : ∀ (p : PM) (v1 : Nat) (v4 : Int32) (d0 d5 : ZV), Gr 0 p → bg6_openBook_16 F148 G148 kg16 p v1 v4 → ZJ 0 94 16 [d0, zR 1 v1, zR 20 1, zC 40, zI v4, d5] [] p (hwV (bv6_openBook_16 F148 kv16 p v1 v4)) := by
  intro p v1 v4 d0 d5 hg H
  exact rwV (n := 3000) (q := 16) (la := [d0, zR 1 v1, zR 20 1, zC 40, zI v4, d5]) (sa := []) (ks := [fun la sa s => kv16 s (ar la 1) (ai la 4)]) (gs := [fun la sa s => zsw (tc2 la [(2, 0), (5, 0), (120, 1), (3, 40), (0, 0), (2, 0)] && tc2 sa []) False (kg16 s (ar la 1) (ai la 4))]) (fcons o148 (fnil)) tab94 pc94 ⟨fun la sa s hg H => zcut H fun H => hk16 s (ar la 1) (ai la 4) (zld la 0) (zld la 5) hg H, trivial⟩ hg H
theorem t6_openBook_16 : ∀ (n : Nat), ∀ (p : PM) (v1 : Nat) (v4 : Int32) (d0 d5 : ZV), Gr 0 p → g6_openBook_16 n p v1 v4 → ZJ 0 94 16 [d0, zR 1 v1, zR 20 1, zC 40, zI v4, d5] [] p (hwV (v6_openBook_16 n p v1 v4)) := by
  intro n
  induction n with
  | zero =>
    intro p v1 v4 d0 d5 hg H
    exact H.elim
  | succ n ih => exact r6_openBook_16 v10_showable g10_showable ok148 (v6_openBook_16 n) (g6_openBook_16 n) ih
set_option maxRecDepth 100000 in
theorem r6_openBook (F148 : PM → Nat → Int32) (G148 : PM → Nat → Prop) (o148 : CalOK 0 (CC148 F148 G148)) (kv16 : PM → Nat → Int32 → PM) (kg16 : PM → Nat → Int32 → Prop) (hk16 : ∀ (p : PM) (v1 : Nat) (v4 : Int32) (d0 d5 : ZV), Gr 0 p → kg16 p v1 v4 → ZJ 0 94 16 [d0, zR 1 v1, zR 20 1, zC 40, zI v4, d5] [] p (hwV (kv16 p v1 v4))) : ∀ (p : PM) (v1 : Nat), Gr 0 p → bg6_openBook kg16 p v1 → ZJ 0 94 0 [zR 6 1, zR 1 v1, zJ, zJ, zJ, zJ] [] p (hwV (bv6_openBook kv16 p v1)) := by
  intro p v1  hg H
  exact rwV (n := 3000) (q := 0) (la := [zR 6 1, zR 1 v1, zJ, zJ, zJ, zJ]) (sa := []) (ks := [fun la sa s => kv16 s (ar la 1) (ai la 4)]) (gs := [fun la sa s => zsw (tc2 la [(2, 0), (5, 0), (120, 1), (3, 40), (0, 0), (2, 0)] && tc2 sa []) False (kg16 s (ar la 1) (ai la 4))]) (fcons o148 (fnil)) tab94 pc94 ⟨fun la sa s hg H => zcut H fun H => hk16 s (ar la 1) (ai la 4) (zld la 0) (zld la 5) hg H, trivial⟩ hg H
theorem t6_openBook : ∀ (p : PM) (v1 : Nat), Gr 0 p → g6_openBook p v1 → ZJ 0 94 0 [zR 6 1, zR 1 v1, zJ, zJ, zJ, zJ] [] p (hwV (v6_openBook p v1)) := r6_openBook v10_showable g10_showable ok148 (v6_openBook_16 FU) (g6_openBook_16 FU) (t6_openBook_16 FU)
def CC94 (F : PM → Nat → PM) (G : PM → Nat → Prop) : Cal := (94, [9, 4], 0, false, fun as p => (zJ, (F p (ar as 1))), fun as p => zsw (tc2 as [(106, 1), (5, 0)]) False (G p (ar as 1)))
set_option maxRecDepth 100000 in
theorem okr94 (F : PM → Nat → PM) (G : PM → Nat → Prop) (h : ∀ (p : PM) (v1 : Nat), Gr 0 p → G p v1 → ZJ 0 94 0 [zR 6 1, zR 1 v1, zJ, zJ, zJ, zJ] [] p (hwV (F p v1))) : CalOK 0 (CC94 F G) := cal_ok (m := 6) (by unfold mL; rw [mX_94]) (fun as p hg H => h p (ar as 1) hg H)
theorem ok94 : CalOK 0 (CC94 v6_openBook g6_openBook) := okr94 v6_openBook g6_openBook t6_openBook
noncomputable def bv8_endAuction (F13 : PM → Nat → Int32 → Int32) (F94 : PM → Nat → PM) (F130 : PM → Nat → Int32 → PM) (F133 : PM → Nat → Int32) (p : PM) (v1 : Nat) : Int32 × PM :=
  if (F133 p v1) = (cn (-100000)) then (
    if (F133 p v1) = (cn (-100000)) then (
      let p1 : PM := F94 p v1
      ((cn 1), p1))
    else (
      let p2 : PM := F130 p v1 (F133 p v1)
      let p3 : PM := pI p2 1 v1 4 (F133 p v1)
      let p4 : PM := F94 p3 v1
      ((cn 1), p4)))
  else (
    if (F13 p v1 (F133 p v1)) = 0 then (
      if (F133 p v1) = (cn (-100000)) then (
        let p5 : PM := F94 p v1
        ((cn 1), p5))
      else (
        let p6 : PM := F130 p v1 (F133 p v1)
        let p7 : PM := pI p6 1 v1 4 (F133 p v1)
        let p8 : PM := F94 p7 v1
        ((cn 1), p8)))
    else (
      if (p.1 1 v1 6) = 0 then (
        let p13 : PM := pI p 1 v1 7 ((p.1 6 1 2) + (cn 5))
        let p14 : PM := pI p13 1 v1 6 (cn 1)
        ((cn 0), p14))
      else (
        if (F133 p v1) = (cn (-100000)) then (
          let p9 : PM := F94 p v1
          ((cn 1), p9))
        else (
          let p10 : PM := F130 p v1 (F133 p v1)
          let p11 : PM := pI p10 1 v1 4 (F133 p v1)
          let p12 : PM := F94 p11 v1
          ((cn 1), p12)))))
noncomputable def v8_endAuction (p : PM) (v1 : Nat) : Int32 × PM := bv8_endAuction v1_isBeyondBand v6_openBook v8_tradeAll v8_findPrice p v1
noncomputable def bg8_endAuction (F13 : PM → Nat → Int32 → Int32) (G13 : PM → Nat → Int32 → Prop) (F94 : PM → Nat → PM) (G94 : PM → Nat → Prop) (F130 : PM → Nat → Int32 → PM) (G130 : PM → Nat → Int32 → Prop) (F133 : PM → Nat → Int32) (G133 : PM → Nat → Prop) (p : PM) (v1 : Nat) : Prop :=
  (G133 p v1) ∧ (
  if (F133 p v1) = (cn (-100000)) then (
    if (F133 p v1) = (cn (-100000)) then (
      (G94 p v1) ∧ (
      let p1 : PM := F94 p v1
      True))
    else (
      (G130 p v1 (F133 p v1)) ∧ (
      let p2 : PM := F130 p v1 (F133 p v1)
      (¬ v1 = 0) ∧ (
      let p3 : PM := pI p2 1 v1 4 (F133 p v1)
      (G94 p3 v1) ∧ (
      let p4 : PM := F94 p3 v1
      True)))))
  else (
    (¬ v1 = 0) ∧ (
    (G13 p v1 (F133 p v1)) ∧ (
    if (F13 p v1 (F133 p v1)) = 0 then (
      if (F133 p v1) = (cn (-100000)) then (
        (G94 p v1) ∧ (
        let p5 : PM := F94 p v1
        True))
      else (
        (G130 p v1 (F133 p v1)) ∧ (
        let p6 : PM := F130 p v1 (F133 p v1)
        (¬ v1 = 0) ∧ (
        let p7 : PM := pI p6 1 v1 4 (F133 p v1)
        (G94 p7 v1) ∧ (
        let p8 : PM := F94 p7 v1
        True)))))
    else (
      (¬ v1 = 0) ∧ (
      if (p.1 1 v1 6) = 0 then (
        (¬ v1 = 0) ∧ (
        let p13 : PM := pI p 1 v1 7 ((p.1 6 1 2) + (cn 5))
        (¬ v1 = 0) ∧ (
        let p14 : PM := pI p13 1 v1 6 (cn 1)
        True)))
      else (
        if (F133 p v1) = (cn (-100000)) then (
          (G94 p v1) ∧ (
          let p9 : PM := F94 p v1
          True))
        else (
          (G130 p v1 (F133 p v1)) ∧ (
          let p10 : PM := F130 p v1 (F133 p v1)
          (¬ v1 = 0) ∧ (
          let p11 : PM := pI p10 1 v1 4 (F133 p v1)
          (G94 p11 v1) ∧ (
          let p12 : PM := F94 p11 v1
          True)))))))))))
noncomputable def g8_endAuction (p : PM) (v1 : Nat) : Prop := bg8_endAuction v1_isBeyondBand g1_isBeyondBand v6_openBook g6_openBook v8_tradeAll g8_tradeAll v8_findPrice g8_findPrice p v1
def R129 : List Row := [(0, .aload_n 0, 1, 0, (0, 0, 0, 0, 0, 0)), (1, .aload_n 1, 1, 0, (0, 0, 0, 0, 0, 0)), (2, .invokevirtual 159, 3, 0, (0, 2, 0, 0, 1, 0)), (5, .istore_n 2, 1, 0, (0, 0, 0, 0, 0, 0)), (6, .iload_n 2, 1, 0, (0, 0, 0, 0, 0, 0)), (7, .ldc 79, 2, 0, (0, 0, 0, 0, 0, -100000)), (9, .if_icmp .eq 38, 3, 0, (0, 0, 0, 0, 0, 0)), (12, .aload_n 1, 1, 0, (0, 0, 0, 0, 0, 0)), (13, .iload_n 2, 1, 0, (0, 0, 0, 0, 0, 0)), (14, .invokevirtual 63, 3, 0, (3, 2, 0, 0, 2, 0)), (17, .ifCond .eq 30, 3, 0, (0, 0, 0, 0, 0, 0)), (20, .aload_n 1, 1, 0, (0, 0, 0, 0, 0, 0)), (21, .getfield 163, 3, 0, (1, 6, 1, 0, 0, 0)), (24, .ifCond .ne 23, 3, 0, (0, 0, 0, 0, 0, 0)), (27, .aload_n 1, 1, 0, (0, 0, 0, 0, 0, 0)), (28, .aload_n 0, 1, 0, (0, 0, 0, 0, 0, 0)), (29, .getfield 21, 3, 0, (8, 0, 9, 2, 1, 0)), (32, .getfield 166, 3, 0, (6, 2, 0, 1, 0, 0)), (35, .iconst 5, 1, 0, (0, 0, 0, 0, 0, 5)), (36, .iadd, 1, 0, (0, 0, 0, 0, 0, 0)), (37, .putfield 169, 3, 0, (1, 7, 0, 0, 0, 0)), (40, .aload_n 1, 1, 0, (0, 0, 0, 0, 0, 0)), (41, .iconst 1, 1, 0, (0, 0, 0, 0, 0, 1)), (42, .putfield 163, 3, 0, (1, 6, 1, 0, 0, 0)), (45, .iconst 0, 1, 0, (0, 0, 0, 0, 0, 0)), (46, .ireturn, 1, 0, (1, 0, 0, 0, 0, 0)), (47, .iload_n 2, 1, 0, (0, 0, 0, 0, 0, 0)), (48, .ldc 79, 2, 0, (0, 0, 0, 0, 0, -100000)), (50, .if_icmp .eq 14, 3, 0, (0, 0, 0, 0, 0, 0)), (53, .aload_n 0, 1, 0, (0, 0, 0, 0, 0, 0)), (54, .aload_n 1, 1, 0, (0, 0, 0, 0, 0, 0)), (55, .iload_n 2, 1, 0, (0, 0, 0, 0, 0, 0)), (56, .invokevirtual 172, 3, 0, (2, 3, 0, 0, 1, 0)), (59, .aload_n 1, 1, 0, (0, 0, 0, 0, 0, 0)), (60, .iload_n 2, 1, 0, (0, 0, 0, 0, 0, 0)), (61, .putfield 176, 3, 0, (1, 4, 0, 0, 0, 0)), (64, .aload_n 0, 1, 0, (0, 0, 0, 0, 0, 0)), (65, .getfield 21, 3, 0, (8, 0, 9, 2, 1, 0)), (68, .aload_n 1, 1, 0, (0, 0, 0, 0, 0, 0)), (69, .invokevirtual 179, 3, 0, (1, 2, 0, 0, 1, 0)), (72, .iconst 1, 1, 0, (0, 0, 0, 0, 0, 1)), (73, .ireturn, 1, 0, (1, 0, 0, 0, 0, 0))]
set_option maxRecDepth 100000 in
theorem rk129 : R129.all (rok 0 129 1 [(133, [11, 4]), (94, [9, 4]), (130, [11, 4, 0]), (13, [4, 0])]) = true := by decide +kernel
set_option maxRecDepth 100000 in
theorem tab129 {F133 : PM → Nat → Int32} {G133 : PM → Nat → Prop} {F94 : PM → Nat → PM} {G94 : PM → Nat → Prop} {F130 : PM → Nat → Int32 → PM} {G130 : PM → Nat → Int32 → Prop} {F13 : PM → Nat → Int32 → Int32} {G13 : PM → Nat → Int32 → Prop} : TabOK 0 129 1 [CC133 F133 G133, CC94 F94 G94, CC130 F130 G130, CC13 F13 G13] R129 := tab_ok (K := K129) rfl rfl (fun h => d129 h) rk129 (by decide +kernel)
set_option maxRecDepth 100000 in
theorem pc129 : cutpc [] R129 = true := by decide +kernel
set_option maxRecDepth 100000 in
theorem r8_endAuction (F133 : PM → Nat → Int32) (G133 : PM → Nat → Prop) (o133 : CalOK 0 (CC133 F133 G133)) (F94 : PM → Nat → PM) (G94 : PM → Nat → Prop) (o94 : CalOK 0 (CC94 F94 G94)) (F130 : PM → Nat → Int32 → PM) (G130 : PM → Nat → Int32 → Prop) (o130 : CalOK 0 (CC130 F130 G130)) (F13 : PM → Nat → Int32 → Int32) (G13 : PM → Nat → Int32 → Prop) (o13 : CalOK 0 (CC13 F13 G13)) : ∀ (p : PM) (v1 : Nat), Gr 0 p → bg8_endAuction F13 G13 F94 G94 F130 G130 F133 G133 p v1 → ZJ 0 129 0 [zR 8 1, zR 1 v1, zJ] [] p (hwI (bv8_endAuction F13 F94 F130 F133 p v1)) := by
  intro p v1  hg H
  exact rwI (n := 3000) (q := 0) (la := [zR 8 1, zR 1 v1, zJ]) (sa := []) (ks := []) (gs := []) (fcons o133 (fcons o94 (fcons o130 (fcons o13 (fnil))))) tab129 pc129 trivial hg H
theorem t8_endAuction : ∀ (p : PM) (v1 : Nat), Gr 0 p → g8_endAuction p v1 → ZJ 0 129 0 [zR 8 1, zR 1 v1, zJ] [] p (hwI (v8_endAuction p v1)) := r8_endAuction v8_findPrice g8_findPrice ok133 v6_openBook g6_openBook ok94 v8_tradeAll g8_tradeAll ok130 v1_isBeyondBand g1_isBeyondBand ok13
def CC129 (F : PM → Nat → Int32 × PM) (G : PM → Nat → Prop) : Cal := (129, [11, 4], 1, false, fun as p => (zI (F p (ar as 1)).1, (F p (ar as 1)).2), fun as p => zsw (tc2 as [(108, 1), (5, 0)]) False (G p (ar as 1)))
set_option maxRecDepth 100000 in
theorem okr129 (F : PM → Nat → Int32 × PM) (G : PM → Nat → Prop) (h : ∀ (p : PM) (v1 : Nat), Gr 0 p → G p v1 → ZJ 0 129 0 [zR 8 1, zR 1 v1, zJ] [] p (hwI (F p v1))) : CalOK 0 (CC129 F G) := cal_ok (m := 3) (by unfold mL; rw [mX_129]) (fun as p hg H => h p (ar as 1) hg H)
theorem ok129 : CalOK 0 (CC129 v8_endAuction g8_endAuction) := okr129 v8_endAuction g8_endAuction t8_endAuction
noncomputable def bv10_isDue (p : PM) (v0 : Nat) : Int32 :=
  if (p.1 10 v0 1) = (cn 2) then (
    if (p.1 10 v0 2) = (cn 2) then (
      if (p.1 1 (p.2.2 10 v0 4) 5) = 0 then (
        if (p.1 10 v0 5) = 0 then (
          if (p.1 10 v0 14) < (p.1 1 (p.2.2 10 v0 4) 3) then (
            (cn 0))
          else (
            (cn 1)))
        else (
          if (p.1 1 (p.2.2 10 v0 4) 3) < (p.1 10 v0 14) then (
            (cn 0))
          else (
            (cn 1))))
      else (
        (cn 0)))
    else (
      (cn 0)))
  else (
    (cn 0))
noncomputable def v10_isDue (p : PM) (v0 : Nat) : Int32 := bv10_isDue p v0
noncomputable def bg10_isDue (p : PM) (v0 : Nat) : Prop :=
  (¬ v0 = 0) ∧ (
  if (p.1 10 v0 1) = (cn 2) then (
    (¬ v0 = 0) ∧ (
    if (p.1 10 v0 2) = (cn 2) then (
      (¬ v0 = 0) ∧ (
      (¬ (p.2.2 10 v0 4) = 0) ∧ (
      if (p.1 1 (p.2.2 10 v0 4) 5) = 0 then (
        (¬ v0 = 0) ∧ (
        if (p.1 10 v0 5) = 0 then (
          (¬ v0 = 0) ∧ (
          (¬ (p.2.2 10 v0 4) = 0) ∧ (
          (¬ v0 = 0) ∧ (
          if (p.1 10 v0 14) < (p.1 1 (p.2.2 10 v0 4) 3) then (
            True)
          else (
            True)))))
        else (
          (¬ v0 = 0) ∧ (
          (¬ (p.2.2 10 v0 4) = 0) ∧ (
          (¬ v0 = 0) ∧ (
          if (p.1 1 (p.2.2 10 v0 4) 3) < (p.1 10 v0 14) then (
            True)
          else (
            True)))))))
      else (
        True))))
    else (
      True)))
  else (
    True))
noncomputable def g10_isDue (p : PM) (v0 : Nat) : Prop := bg10_isDue p v0
def R146 : List Row := [(0, .aload_n 0, 1, 0, (0, 0, 0, 0, 0, 0)), (1, .getfield 23, 3, 0, (10, 1, 0, 0, 0, 0)), (4, .iconst 2, 1, 0, (0, 0, 0, 0, 0, 2)), (5, .if_icmp .ne 63, 3, 0, (0, 0, 0, 0, 0, 0)), (8, .aload_n 0, 1, 0, (0, 0, 0, 0, 0, 0)), (9, .getfield 26, 3, 0, (10, 2, 0, 0, 0, 0)), (12, .iconst 2, 1, 0, (0, 0, 0, 0, 0, 2)), (13, .if_icmp .ne 55, 3, 0, (0, 0, 0, 0, 0, 0)), (16, .aload_n 0, 1, 0, (0, 0, 0, 0, 0, 0)), (17, .getfield 15, 3, 0, (10, 4, 4, 0, 0, 0)), (20, .getfield 81, 3, 0, (1, 5, 1, 0, 0, 0)), (23, .ifCond .ne 45, 3, 0, (0, 0, 0, 0, 0, 0)), (26, .aload_n 0, 1, 0, (0, 0, 0, 0, 0, 0)), (27, .getfield 29, 3, 0, (10, 5, 1, 0, 0, 0)), (30, .ifCond .eq 20, 3, 0, (0, 0, 0, 0, 0, 0)), (33, .aload_n 0, 1, 0, (0, 0, 0, 0, 0, 0)), (34, .getfield 15, 3, 0, (10, 4, 4, 0, 0, 0)), (37, .getfield 84, 3, 0, (1, 3, 0, 0, 0, 0)), (40, .aload_n 0, 1, 0, (0, 0, 0, 0, 0, 0)), (41, .getfield 64, 3, 0, (10, 14, 0, 0, 0, 0)), (44, .if_icmp .lt 24, 3, 0, (0, 0, 0, 0, 0, 0)), (47, .goto 17, 3, 0, (0, 0, 0, 0, 0, 0)), (50, .aload_n 0, 1, 0, (0, 0, 0, 0, 0, 0)), (51, .getfield 15, 3, 0, (10, 4, 4, 0, 0, 0)), (54, .getfield 84, 3, 0, (1, 3, 0, 0, 0, 0)), (57, .aload_n 0, 1, 0, (0, 0, 0, 0, 0, 0)), (58, .getfield 64, 3, 0, (10, 14, 0, 0, 0, 0)), (61, .if_icmp .gt 7, 3, 0, (0, 0, 0, 0, 0, 0)), (64, .iconst 1, 1, 0, (0, 0, 0, 0, 0, 1)), (65, .goto 4, 3, 0, (0, 0, 0, 0, 0, 0)), (68, .iconst 0, 1, 0, (0, 0, 0, 0, 0, 0)), (69, .ireturn, 1, 0, (1, 0, 0, 0, 0, 0))]
set_option maxRecDepth 100000 in
theorem rk146 : R146.all (rok 0 146 1 []) = true := by decide +kernel
set_option maxRecDepth 100000 in
theorem tab146 : TabOK 0 146 1 [] R146 := tab_ok (K := K146) rfl rfl (fun h => d146 h) rk146 (by decide +kernel)
set_option maxRecDepth 100000 in
theorem pc146 : cutpc [] R146 = true := by decide +kernel
set_option maxRecDepth 100000 in
theorem r10_isDue (p : PM) (hg : Gr 0 p) : ∀ (v0 : Nat), bg10_isDue p v0 → ZJ 0 146 0 [zR 10 v0] [] p (hoI p (bv10_isDue p v0)) := by
  intro v0  H
  exact roI (n := 3000) (q := 0) (la := [zR 10 v0]) (sa := []) (ks := []) (gs := []) (fnil) tab146 pc146 trivial hg H
theorem t10_isDue (p : PM) (hg : Gr 0 p) : ∀ (v0 : Nat), g10_isDue p v0 → ZJ 0 146 0 [zR 10 v0] [] p (hoI p (v10_isDue p v0)) := r10_isDue p hg
def CC146 (F : PM → Nat → Int32) (G : PM → Nat → Prop) : Cal := (146, [13], 1, true, fun as p => (zI (F p (ar as 0)), p), fun as p => zsw (tc2 as [(14, 0)]) False (G p (ar as 0)))
set_option maxRecDepth 100000 in
theorem okr146 (F : PM → Nat → Int32) (G : PM → Nat → Prop) (h : ∀ (p : PM) (v0 : Nat), Gr 0 p → G p v0 → ZJ 0 146 0 [zR 10 v0] [] p (hoI p (F p v0))) : CalOK 0 (CC146 F G) := cal_ok (m := 1) (by unfold mL; rw [mX_146]) (fun as p hg H => h p (ar as 0) hg H)
theorem ok146 : CalOK 0 (CC146 v10_isDue g10_isDue) := okr146 v10_isDue g10_isDue (fun p v0 hg H => t10_isDue p hg v0 H)
noncomputable def bv6_dueStop_13 (p : PM) (F146 : PM → Nat → Int32) (kv13 : Nat → Int32 → Nat) (v1 : Nat) (v4 : Int32) : Nat :=
  if v4 < (cn 40) then (
    if (F146 p ((v4).toNatClampNeg + 1)) = 0 then (
      kv13 v1 (v4 + (cn 1)))
    else (
      if v1 = 0 then (
        kv13 ((v4).toNatClampNeg + 1) (v4 + (cn 1)))
      else (
        if (p.1 10 ((v4).toNatClampNeg + 1) 0) < (p.1 10 v1 0) then (
          kv13 ((v4).toNatClampNeg + 1) (v4 + (cn 1)))
        else (
          kv13 v1 (v4 + (cn 1))))))
  else (
    v1)
noncomputable def v6_dueStop_13 (p : PM) (n : Nat) : Nat → Int32 → Nat := Nat.rec (motive := fun _ => Nat → Int32 → Nat) (fun _ _ => 0) (fun _ ih => bv6_dueStop_13 p v10_isDue ih) n
theorem ev6_dueStop_13 (p : PM) (n : Nat) (v1 : Nat) (v4 : Int32) : v6_dueStop_13 p (n + 1) v1 v4 = bv6_dueStop_13 p v10_isDue (v6_dueStop_13 p n) v1 v4 := rfl
noncomputable def bg6_dueStop_13 (p : PM) (F146 : PM → Nat → Int32) (G146 : PM → Nat → Prop) (kg13 : Nat → Int32 → Prop) (v1 : Nat) (v4 : Int32) : Prop :=
  if v4 < (cn 40) then (
    (inb v4 40) ∧ (
    (G146 p ((v4).toNatClampNeg + 1)) ∧ (
    if (F146 p ((v4).toNatClampNeg + 1)) = 0 then (
      kg13 v1 (v4 + (cn 1)))
    else (
      if v1 = 0 then (
        kg13 ((v4).toNatClampNeg + 1) (v4 + (cn 1)))
      else (
        (¬ v1 = 0) ∧ (
        if (p.1 10 ((v4).toNatClampNeg + 1) 0) < (p.1 10 v1 0) then (
          kg13 ((v4).toNatClampNeg + 1) (v4 + (cn 1)))
        else (
          kg13 v1 (v4 + (cn 1)))))))))
  else (
    True)
noncomputable def g6_dueStop_13 (p : PM) (n : Nat) : Nat → Int32 → Prop := Nat.rec (motive := fun _ => Nat → Int32 → Prop) (fun _ _ => False) (fun _ ih => bg6_dueStop_13 p v10_isDue g10_isDue ih) n
theorem eg6_dueStop_13 (p : PM) (n : Nat) (v1 : Nat) (v4 : Int32) : g6_dueStop_13 p (n + 1) v1 v4 = bg6_dueStop_13 p v10_isDue g10_isDue (g6_dueStop_13 p n) v1 v4 := rfl
noncomputable def bv6_dueStop (p : PM) (kv13 : Nat → Int32 → Nat) : Nat :=
  kv13 0 (cn 0)
noncomputable def v6_dueStop (p : PM) : Nat := bv6_dueStop p (v6_dueStop_13 p FU)
noncomputable def bg6_dueStop (p : PM) (kg13 : Nat → Int32 → Prop) : Prop :=
  kg13 0 (cn 0)
noncomputable def g6_dueStop (p : PM) : Prop := bg6_dueStop p (g6_dueStop_13 p FU)
def R96 : List Row := [(0, .aconst_null, 1, 0, (10, 0, 0, 0, 0, 0)), (1, .astore_n 1, 1, 0, (0, 0, 0, 0, 0, 0)), (2, .aload_n 0, 1, 0, (0, 0, 0, 0, 0, 0)), (3, .getfield 11, 3, 0, (6, 1, 23, 2, 1, 0)), (6, .astore_n 2, 1, 0, (0, 0, 0, 0, 0, 0)), (7, .aload_n 2, 1, 0, (0, 0, 0, 0, 0, 0)), (8, .arraylength, 1, 0, (20, 40, 0, 0, 0, 40)), (9, .istore_n 3, 1, 0, (0, 0, 0, 0, 0, 0)), (10, .iconst 0, 1, 0, (0, 0, 0, 0, 0, 0)), (11, .istore 4, 2, 0, (0, 0, 0, 0, 0, 0)), (13, .iload 4, 2, 1, (0, 0, 0, 0, 0, 0)), (15, .iload_n 3, 1, 0, (0, 0, 0, 0, 0, 0)), (16, .if_icmp .ge 42, 3, 0, (0, 0, 0, 0, 0, 0)), (19, .aload_n 2, 1, 0, (0, 0, 0, 0, 0, 0)), (20, .iload 4, 2, 0, (0, 0, 0, 0, 0, 0)), (22, .aaload, 1, 0, (20, 40, 0, 1, 1, 0)), (23, .astore 5, 2, 0, (0, 0, 0, 0, 0, 0)), (25, .aload 5, 2, 0, (0, 0, 0, 0, 0, 0)), (27, .invokevirtual 182, 3, 0, (0, 1, 0, 0, 1, 0)), (30, .ifCond .eq 22, 3, 0, (0, 0, 0, 0, 0, 0)), (33, .aload_n 1, 1, 0, (0, 0, 0, 0, 0, 0)), (34, .ifnull 15, 3, 0, (0, 0, 0, 0, 0, 0)), (37, .aload 5, 2, 0, (0, 0, 0, 0, 0, 0)), (39, .getfield 45, 3, 0, (10, 0, 0, 1, 0, 0)), (42, .aload_n 1, 1, 0, (0, 0, 0, 0, 0, 0)), (43, .getfield 45, 3, 0, (10, 0, 0, 0, 0, 0)), (46, .if_icmp .ge 6, 3, 0, (0, 0, 0, 0, 0, 0)), (49, .aload 5, 2, 0, (0, 0, 0, 0, 0, 0)), (51, .astore_n 1, 1, 0, (0, 0, 0, 0, 0, 0)), (52, .iinc 4 1, 3, 0, (0, 0, 0, 0, 0, 1)), (55, .goto (-42), 3, 0, (0, 0, 0, 0, 0, 0)), (58, .aload_n 1, 1, 0, (0, 0, 0, 0, 0, 0)), (59, .areturn, 1, 0, (10, 0, 0, 0, 0, 0))]
set_option maxRecDepth 100000 in
theorem rk96 : R96.all (rok 0 96 (3 + 10) [(146, [13])]) = true := by decide +kernel
set_option maxRecDepth 100000 in
theorem tab96 {F146 : PM → Nat → Int32} {G146 : PM → Nat → Prop} : TabOK 0 96 (3 + 10) [CC146 F146 G146] R96 := tab_ok (K := K96) rfl rfl (fun h => d96 h) rk96 (by decide +kernel)
set_option maxRecDepth 100000 in
theorem pc96 : cutpc [13] R96 = true := by decide +kernel
set_option maxRecDepth 100000 in
theorem r6_dueStop_13 (p : PM) (hg : Gr 0 p) (F146 : PM → Nat → Int32) (G146 : PM → Nat → Prop) (o146 : CalOK 0 (CC146 F146 G146)) (kv13 : Nat → Int32 → Nat) (kg13 : Nat → Int32 → Prop) (hk13 : ∀ (v1 : Nat) (v4 : Int32) (d0 d5 : ZV), kg13 v1 v4 → ZJ 0 96 13 [d0, zR 10 v1, zR 20 1, zC 40, zI v4, d5] [] p (hoR 10 p (kv13 v1 v4))) : ∀ (v1 : Nat) (v4 : Int32) (d0 d5 : ZV), bg6_dueStop_13 p F146 G146 kg13 v1 v4 → ZJ 0 96 13 [d0, zR 10 v1, zR 20 1, zC 40, zI v4, d5] [] p (hoR 10 p (bv6_dueStop_13 p F146 kv13 v1 v4)) := by
  intro v1 v4 d0 d5 H
  exact roR 10 (n := 3000) (q := 13) (la := [d0, zR 10 v1, zR 20 1, zC 40, zI v4, d5]) (sa := []) (ks := [fun la sa _ => kv13 (ar la 1) (ai la 4)]) (gs := [fun la sa _ => zsw (tc2 la [(2, 0), (14, 0), (120, 1), (3, 40), (0, 0), (2, 0)] && tc2 sa []) False (kg13 (ar la 1) (ai la 4))]) (fcons o146 (fnil)) tab96 pc96 ⟨fun la sa s hg H => zcut H fun H => hk13 (ar la 1) (ai la 4) (zld la 0) (zld la 5) H, trivial⟩ hg H
theorem t6_dueStop_13 (p : PM) (hg : Gr 0 p) : ∀ (n : Nat), ∀ (v1 : Nat) (v4 : Int32) (d0 d5 : ZV), g6_dueStop_13 p n v1 v4 → ZJ 0 96 13 [d0, zR 10 v1, zR 20 1, zC 40, zI v4, d5] [] p (hoR 10 p (v6_dueStop_13 p n v1 v4)) := by
  intro n
  induction n with
  | zero =>
    intro v1 v4 d0 d5 H
    exact H.elim
  | succ n ih => exact r6_dueStop_13 p hg v10_isDue g10_isDue ok146 (v6_dueStop_13 p n) (g6_dueStop_13 p n) ih
set_option maxRecDepth 100000 in
theorem r6_dueStop (p : PM) (hg : Gr 0 p) (F146 : PM → Nat → Int32) (G146 : PM → Nat → Prop) (o146 : CalOK 0 (CC146 F146 G146)) (kv13 : Nat → Int32 → Nat) (kg13 : Nat → Int32 → Prop) (hk13 : ∀ (v1 : Nat) (v4 : Int32) (d0 d5 : ZV), kg13 v1 v4 → ZJ 0 96 13 [d0, zR 10 v1, zR 20 1, zC 40, zI v4, d5] [] p (hoR 10 p (kv13 v1 v4))) : bg6_dueStop p kg13 → ZJ 0 96 0 [zR 6 1, zJ, zJ, zJ, zJ, zJ] [] p (hoR 10 p (bv6_dueStop p kv13)) := by
  intro   H
  exact roR 10 (n := 3000) (q := 0) (la := [zR 6 1, zJ, zJ, zJ, zJ, zJ]) (sa := []) (ks := [fun la sa _ => kv13 (ar la 1) (ai la 4)]) (gs := [fun la sa _ => zsw (tc2 la [(2, 0), (14, 0), (120, 1), (3, 40), (0, 0), (2, 0)] && tc2 sa []) False (kg13 (ar la 1) (ai la 4))]) (fcons o146 (fnil)) tab96 pc96 ⟨fun la sa s hg H => zcut H fun H => hk13 (ar la 1) (ai la 4) (zld la 0) (zld la 5) H, trivial⟩ hg H
theorem t6_dueStop (p : PM) (hg : Gr 0 p) : g6_dueStop p → ZJ 0 96 0 [zR 6 1, zJ, zJ, zJ, zJ, zJ] [] p (hoR 10 p (v6_dueStop p)) := r6_dueStop p hg v10_isDue g10_isDue ok146 (v6_dueStop_13 p FU) (g6_dueStop_13 p FU) (t6_dueStop_13 p hg FU)
def CC96 (F : PM → Nat) (G : PM → Prop) : Cal := (96, [9], (3 + 10), true, fun as p => (zR 10 (F p ), p), fun as p => zsw (tc2 as [(106, 1)]) False (G p ))
set_option maxRecDepth 100000 in
theorem okr96 (F : PM → Nat) (G : PM → Prop) (h : ∀ (p : PM), Gr 0 p → G p  → ZJ 0 96 0 [zR 6 1, zJ, zJ, zJ, zJ, zJ] [] p (hoR 10 p (F p ))) : CalOK 0 (CC96 F G) := cal_ok (m := 6) (by unfold mL; rw [mX_96]) (fun as p hg H => h p  hg H)
theorem ok96 : CalOK 0 (CC96 v6_dueStop g6_dueStop) := okr96 v6_dueStop g6_dueStop (fun p  hg H => t6_dueStop p hg  H)
noncomputable def bv14_max_7cf53 (p : PM) (v0 : Int32) (v1 : Int32) : Int32 :=
  if v0 < v1 then (
    v1)
  else (
    v0)
noncomputable def v14_max_7cf53 (p : PM) (v0 : Int32) (v1 : Int32) : Int32 := bv14_max_7cf53 p v0 v1
noncomputable def bg14_max_7cf53 (p : PM) (v0 : Int32) (v1 : Int32) : Prop :=
  if v0 < v1 then (
    True)
  else (
    True)
noncomputable def g14_max_7cf53 (p : PM) (v0 : Int32) (v1 : Int32) : Prop := bg14_max_7cf53 p v0 v1
def R207 : List Row := [(0, .iload_n 0, 1, 0, (0, 0, 0, 0, 0, 0)), (1, .iload_n 1, 1, 0, (0, 0, 0, 0, 0, 0)), (2, .if_icmp .lt 7, 3, 0, (0, 0, 0, 0, 0, 0)), (5, .iload_n 0, 1, 0, (0, 0, 0, 0, 0, 0)), (6, .goto 4, 3, 0, (0, 0, 0, 0, 0, 0)), (9, .iload_n 1, 1, 0, (0, 0, 0, 0, 0, 0)), (10, .ireturn, 1, 0, (0, 0, 0, 0, 0, 0))]
set_option maxRecDepth 100000 in
theorem rk207 : R207.all (rok 0 207 1 []) = true := by decide +kernel
set_option maxRecDepth 100000 in
theorem tab207 : TabOK 0 207 1 [] R207 := tab_ok (K := K207) rfl rfl (fun h => d207 h) rk207 (by decide +kernel)
set_option maxRecDepth 100000 in
theorem pc207 : cutpc [] R207 = true := by decide +kernel
set_option maxRecDepth 100000 in
theorem r14_max_7cf53 (p : PM) (hg : Gr 0 p) : ∀ (v0 : Int32) (v1 : Int32), bg14_max_7cf53 p v0 v1 → ZJ 0 207 0 [zI v0, zI v1] [] p (hoI p (bv14_max_7cf53 p v0 v1)) := by
  intro v0 v1  H
  exact roI (n := 3000) (q := 0) (la := [zI v0, zI v1]) (sa := []) (ks := []) (gs := []) (fnil) tab207 pc207 trivial hg H
theorem t14_max_7cf53 (p : PM) (hg : Gr 0 p) : ∀ (v0 : Int32) (v1 : Int32), g14_max_7cf53 p v0 v1 → ZJ 0 207 0 [zI v0, zI v1] [] p (hoI p (v14_max_7cf53 p v0 v1)) := r14_max_7cf53 p hg
def CC207 (F : PM → Int32 → Int32 → Int32) (G : PM → Int32 → Int32 → Prop) : Cal := (207, [0, 0], 1, true, fun as p => (zI (F p (ai as 0) (ai as 1)), p), fun as p => zsw (tc2 as [(0, 0), (0, 0)]) False (G p (ai as 0) (ai as 1)))
set_option maxRecDepth 100000 in
theorem okr207 (F : PM → Int32 → Int32 → Int32) (G : PM → Int32 → Int32 → Prop) (h : ∀ (p : PM) (v0 : Int32) (v1 : Int32), Gr 0 p → G p v0 v1 → ZJ 0 207 0 [zI v0, zI v1] [] p (hoI p (F p v0 v1))) : CalOK 0 (CC207 F G) := cal_ok (m := 2) (by unfold mL; rw [mX_207]) (fun as p hg H => h p (ai as 0) (ai as 1) hg H)
theorem ok207 : CalOK 0 (CC207 v14_max_7cf53 g14_max_7cf53) := okr207 v14_max_7cf53 g14_max_7cf53 (fun p v0 v1 hg H => t14_max_7cf53 p hg v0 v1 H)
noncomputable def bv7_find (p : PM) (v1 : Int32) : Nat :=
  if v1 < 0 then (
    0)
  else (
    if v1 < (p.1 7 1 2) then (
      if v1 < ((p.1 7 1 2) - (cn 60)) then (
        0)
      else (
        if (irm v1 (cn 60)) < 0 then (
          0)
        else (
          if (irm v1 (cn 60)) < (cn 60) then (
            if (p.1 4 (((irm v1 (cn 60))).toNatClampNeg + 1) 6) = 0 then (
              0)
            else (
              (((irm v1 (cn 60))).toNatClampNeg + 1)))
          else (
            0))))
    else (
      0))
noncomputable def v7_find (p : PM) (v1 : Int32) : Nat := bv7_find p v1
noncomputable def bg7_find (p : PM) (v1 : Int32) : Prop :=
  if v1 < 0 then (
    True)
  else (
    if v1 < (p.1 7 1 2) then (
      if v1 < ((p.1 7 1 2) - (cn 60)) then (
        True)
      else (
        if (irm v1 (cn 60)) < 0 then (
          True)
        else (
          if (irm v1 (cn 60)) < (cn 60) then (
            (inb (irm v1 (cn 60)) 60) ∧ (
            if (p.1 4 (((irm v1 (cn 60))).toNatClampNeg + 1) 6) = 0 then (
              True)
            else (
              True)))
          else (
            True))))
    else (
      True))
noncomputable def g7_find (p : PM) (v1 : Int32) : Prop := bg7_find p v1
def R106 : List Row := [(0, .iload_n 1, 1, 0, (0, 0, 0, 0, 0, 0)), (1, .ifCond .lt 22, 3, 0, (0, 0, 0, 0, 0, 0)), (4, .iload_n 1, 1, 0, (0, 0, 0, 0, 0, 0)), (5, .aload_n 0, 1, 0, (0, 0, 0, 0, 0, 0)), (6, .getfield 36, 3, 0, (7, 2, 0, 1, 0, 0)), (9, .if_icmp .ge 14, 3, 0, (0, 0, 0, 0, 0, 0)), (12, .iload_n 1, 1, 0, (0, 0, 0, 0, 0, 0)), (13, .aload_n 0, 1, 0, (0, 0, 0, 0, 0, 0)), (14, .getfield 36, 3, 0, (7, 2, 0, 1, 0, 0)), (17, .bipush 60, 2, 0, (0, 0, 0, 0, 0, 60)), (19, .isub, 1, 0, (0, 0, 0, 0, 0, 0)), (20, .if_icmp .ge 5, 3, 0, (0, 0, 0, 0, 0, 0)), (23, .aconst_null, 1, 0, (4, 0, 0, 0, 0, 0)), (24, .areturn, 1, 0, (4, 0, 0, 0, 0, 0)), (25, .iload_n 1, 1, 0, (0, 0, 0, 0, 0, 0)), (26, .bipush 60, 2, 0, (0, 0, 0, 0, 0, 60)), (28, .irem, 1, 0, (0, 0, 0, 0, 0, 0)), (29, .istore_n 2, 1, 0, (0, 0, 0, 0, 0, 0)), (30, .iload_n 2, 1, 0, (0, 0, 0, 0, 0, 0)), (31, .ifCond .lt 12, 3, 0, (0, 0, 0, 0, 0, 0)), (34, .iload_n 2, 1, 0, (0, 0, 0, 0, 0, 0)), (35, .aload_n 0, 1, 0, (0, 0, 0, 0, 0, 0)), (36, .getfield 19, 3, 0, (7, 1, 21, 2, 1, 0)), (39, .arraylength, 1, 0, (18, 60, 0, 0, 0, 60)), (40, .if_icmp .lt 5, 3, 0, (0, 0, 0, 0, 0, 0)), (43, .aconst_null, 1, 0, (4, 0, 0, 0, 0, 0)), (44, .areturn, 1, 0, (4, 0, 0, 0, 0, 0)), (45, .aload_n 0, 1, 0, (0, 0, 0, 0, 0, 0)), (46, .getfield 19, 3, 0, (7, 1, 21, 2, 1, 0)), (49, .iload_n 2, 1, 0, (0, 0, 0, 0, 0, 0)), (50, .aaload, 1, 0, (18, 60, 0, 1, 1, 0)), (51, .astore_n 3, 1, 0, (0, 0, 0, 0, 0, 0)), (52, .aload_n 3, 1, 0, (0, 0, 0, 0, 0, 0)), (53, .getfield 32, 3, 0, (4, 6, 1, 1, 0, 0)), (56, .ifCond .eq 7, 3, 0, (0, 0, 0, 0, 0, 0)), (59, .aload_n 3, 1, 0, (0, 0, 0, 0, 0, 0)), (60, .goto 4, 3, 0, (0, 0, 0, 0, 0, 0)), (63, .aconst_null, 1, 0, (4, 0, 0, 0, 0, 0)), (64, .areturn, 1, 0, (4, 0, 0, 0, 0, 0))]
set_option maxRecDepth 100000 in
theorem rk106 : R106.all (rok 0 106 (3 + 4) []) = true := by decide +kernel
set_option maxRecDepth 100000 in
theorem tab106 : TabOK 0 106 (3 + 4) [] R106 := tab_ok (K := K106) rfl rfl (fun h => d106 h) rk106 (by decide +kernel)
set_option maxRecDepth 100000 in
theorem pc106 : cutpc [] R106 = true := by decide +kernel
set_option maxRecDepth 100000 in
theorem r7_find (p : PM) (hg : Gr 0 p) : ∀ (v1 : Int32), bg7_find p v1 → ZJ 0 106 0 [zR 7 1, zI v1, zJ, zJ] [] p (hoR 4 p (bv7_find p v1)) := by
  intro v1  H
  exact roR 4 (n := 3000) (q := 0) (la := [zR 7 1, zI v1, zJ, zJ]) (sa := []) (ks := []) (gs := []) (fnil) tab106 pc106 trivial hg H
theorem t7_find (p : PM) (hg : Gr 0 p) : ∀ (v1 : Int32), g7_find p v1 → ZJ 0 106 0 [zR 7 1, zI v1, zJ, zJ] [] p (hoR 4 p (v7_find p v1)) := r7_find p hg
def CC106 (F : PM → Int32 → Nat) (G : PM → Int32 → Prop) : Cal := (106, [10, 0], (3 + 4), true, fun as p => (zR 4 (F p (ai as 1)), p), fun as p => zsw (tc2 as [(107, 1), (0, 0)]) False (G p (ai as 1)))
set_option maxRecDepth 100000 in
theorem okr106 (F : PM → Int32 → Nat) (G : PM → Int32 → Prop) (h : ∀ (p : PM) (v1 : Int32), Gr 0 p → G p v1 → ZJ 0 106 0 [zR 7 1, zI v1, zJ, zJ] [] p (hoR 4 p (F p v1))) : CalOK 0 (CC106 F G) := cal_ok (m := 4) (by unfold mL; rw [mX_106]) (fun as p hg H => h p (ai as 1) hg H)
theorem ok106 : CalOK 0 (CC106 v7_find g7_find) := okr106 v7_find g7_find (fun p v1 hg H => t7_find p hg v1 H)
noncomputable def bv7_latestOf_19 (p : PM) (F106 : PM → Int32 → Nat) (kv19 : Nat → Int32 → Int32 → Int32) (v1 : Nat) (v2 : Int32) (v3 : Int32) : Int32 :=
  if v3 < v2 then (
    (cn (-100000)))
  else (
    if (F106 p v3) = 0 then (
      kv19 v1 v2 (v3 + (cn (-1))))
    else (
      if (p.2.2 4 (F106 p v3) 0) = v1 then (
        if (p.1 4 (F106 p v3) 5) = 0 then (
          v3)
        else (
          kv19 v1 v2 (v3 + (cn (-1)))))
      else (
        kv19 v1 v2 (v3 + (cn (-1))))))
noncomputable def v7_latestOf_19 (p : PM) (n : Nat) : Nat → Int32 → Int32 → Int32 := Nat.rec (motive := fun _ => Nat → Int32 → Int32 → Int32) (fun _ _ _ => 0) (fun _ ih => bv7_latestOf_19 p v7_find ih) n
theorem ev7_latestOf_19 (p : PM) (n : Nat) (v1 : Nat) (v2 : Int32) (v3 : Int32) : v7_latestOf_19 p (n + 1) v1 v2 v3 = bv7_latestOf_19 p v7_find (v7_latestOf_19 p n) v1 v2 v3 := rfl
noncomputable def bg7_latestOf_19 (p : PM) (F106 : PM → Int32 → Nat) (G106 : PM → Int32 → Prop) (kg19 : Nat → Int32 → Int32 → Prop) (v1 : Nat) (v2 : Int32) (v3 : Int32) : Prop :=
  if v3 < v2 then (
    True)
  else (
    (G106 p v3) ∧ (
    if (F106 p v3) = 0 then (
      kg19 v1 v2 (v3 + (cn (-1))))
    else (
      (¬ (F106 p v3) = 0) ∧ (
      if (p.2.2 4 (F106 p v3) 0) = v1 then (
        (¬ (F106 p v3) = 0) ∧ (
        if (p.1 4 (F106 p v3) 5) = 0 then (
          True)
        else (
          kg19 v1 v2 (v3 + (cn (-1))))))
      else (
        kg19 v1 v2 (v3 + (cn (-1))))))))
noncomputable def g7_latestOf_19 (p : PM) (n : Nat) : Nat → Int32 → Int32 → Prop := Nat.rec (motive := fun _ => Nat → Int32 → Int32 → Prop) (fun _ _ _ => False) (fun _ ih => bg7_latestOf_19 p v7_find g7_find ih) n
theorem eg7_latestOf_19 (p : PM) (n : Nat) (v1 : Nat) (v2 : Int32) (v3 : Int32) : g7_latestOf_19 p (n + 1) v1 v2 v3 = bg7_latestOf_19 p v7_find g7_find (g7_latestOf_19 p n) v1 v2 v3 := rfl
noncomputable def bv7_latestOf (p : PM) (F207 : PM → Int32 → Int32 → Int32) (kv19 : Nat → Int32 → Int32 → Int32) (v1 : Nat) : Int32 :=
  let x1 : Int32 := (F207 p (cn 0) ((p.1 7 1 2) - (cn 60)))
  kv19 v1 x1 ((p.1 7 1 2) - (cn 1))
noncomputable def v7_latestOf (p : PM) (v1 : Nat) : Int32 := bv7_latestOf p v14_max_7cf53 (v7_latestOf_19 p FU) v1
noncomputable def bg7_latestOf (p : PM) (F207 : PM → Int32 → Int32 → Int32) (G207 : PM → Int32 → Int32 → Prop) (kg19 : Nat → Int32 → Int32 → Prop) (v1 : Nat) : Prop :=
  (G207 p (cn 0) ((p.1 7 1 2) - (cn 60))) ∧ (
  let x1 : Int32 := (F207 p (cn 0) ((p.1 7 1 2) - (cn 60)))
  kg19 v1 x1 ((p.1 7 1 2) - (cn 1)))
noncomputable def g7_latestOf (p : PM) (v1 : Nat) : Prop := bg7_latestOf p v14_max_7cf53 g14_max_7cf53 (g7_latestOf_19 p FU) v1
def R107 : List Row := [(0, .iconst 0, 1, 0, (0, 0, 0, 0, 0, 0)), (1, .aload_n 0, 1, 0, (0, 0, 0, 0, 0, 0)), (2, .getfield 36, 3, 0, (7, 2, 0, 1, 0, 0)), (5, .bipush 60, 2, 0, (0, 0, 0, 0, 0, 60)), (7, .isub, 1, 0, (0, 0, 0, 0, 0, 0)), (8, .invokestatic 53, 3, 0, (0, 2, 0, 0, 0, 0)), (11, .istore_n 2, 1, 0, (0, 0, 0, 0, 0, 0)), (12, .aload_n 0, 1, 0, (0, 0, 0, 0, 0, 0)), (13, .getfield 36, 3, 0, (7, 2, 0, 1, 0, 0)), (16, .iconst 1, 1, 0, (0, 0, 0, 0, 0, 1)), (17, .isub, 1, 0, (0, 0, 0, 0, 0, 0)), (18, .istore_n 3, 1, 0, (0, 0, 0, 0, 0, 0)), (19, .iload_n 3, 1, 1, (0, 0, 0, 0, 0, 0)), (20, .iload_n 2, 1, 0, (0, 0, 0, 0, 0, 0)), (21, .if_icmp .lt 40, 3, 0, (0, 0, 0, 0, 0, 0)), (24, .aload_n 0, 1, 0, (0, 0, 0, 0, 0, 0)), (25, .iload_n 3, 1, 0, (0, 0, 0, 0, 0, 0)), (26, .invokevirtual 59, 3, 0, (1, 2, 0, 0, 1, 0)), (29, .astore 4, 2, 0, (0, 0, 0, 0, 0, 0)), (31, .aload 4, 2, 0, (0, 0, 0, 0, 0, 0)), (33, .ifnull 22, 3, 0, (0, 0, 0, 0, 0, 0)), (36, .aload 4, 2, 0, (0, 0, 0, 0, 0, 0)), (38, .getfield 63, 3, 0, (4, 0, 4, 0, 0, 0)), (41, .aload_n 1, 1, 0, (0, 0, 0, 0, 0, 0)), (42, .if_acmp .ne 13, 3, 0, (0, 0, 0, 0, 0, 0)), (45, .aload 4, 2, 0, (0, 0, 0, 0, 0, 0)), (47, .getfield 67, 3, 0, (4, 5, 1, 0, 0, 0)), (50, .ifCond .ne 5, 3, 0, (0, 0, 0, 0, 0, 0)), (53, .iload_n 3, 1, 0, (0, 0, 0, 0, 0, 0)), (54, .ireturn, 1, 0, (0, 0, 0, 0, 0, 0)), (55, .iinc 3 (-1), 3, 0, (0, 0, 0, 0, 0, -1)), (58, .goto (-39), 3, 0, (0, 0, 0, 0, 0, 0)), (61, .ldc 70, 2, 0, (0, 0, 0, 0, 0, -100000)), (63, .ireturn, 1, 0, (0, 0, 0, 0, 0, 0))]
set_option maxRecDepth 100000 in
theorem rk107 : R107.all (rok 0 107 1 [(207, [0, 0]), (106, [10, 0])]) = true := by decide +kernel
set_option maxRecDepth 100000 in
theorem tab107 {F207 : PM → Int32 → Int32 → Int32} {G207 : PM → Int32 → Int32 → Prop} {F106 : PM → Int32 → Nat} {G106 : PM → Int32 → Prop} : TabOK 0 107 1 [CC207 F207 G207, CC106 F106 G106] R107 := tab_ok (K := K107) rfl rfl (fun h => d107 h) rk107 (by decide +kernel)
set_option maxRecDepth 100000 in
theorem pc107 : cutpc [19] R107 = true := by decide +kernel
set_option maxRecDepth 100000 in
theorem r7_latestOf_19 (p : PM) (hg : Gr 0 p) (F207 : PM → Int32 → Int32 → Int32) (G207 : PM → Int32 → Int32 → Prop) (o207 : CalOK 0 (CC207 F207 G207)) (F106 : PM → Int32 → Nat) (G106 : PM → Int32 → Prop) (o106 : CalOK 0 (CC106 F106 G106)) (kv19 : Nat → Int32 → Int32 → Int32) (kg19 : Nat → Int32 → Int32 → Prop) (hk19 : ∀ (v1 : Nat) (v2 : Int32) (v3 : Int32) (d4 : ZV), kg19 v1 v2 v3 → ZJ 0 107 19 [zR 7 1, zR 1 v1, zI v2, zI v3, d4] [] p (hoI p (kv19 v1 v2 v3))) : ∀ (v1 : Nat) (v2 : Int32) (v3 : Int32) (d4 : ZV), bg7_latestOf_19 p F106 G106 kg19 v1 v2 v3 → ZJ 0 107 19 [zR 7 1, zR 1 v1, zI v2, zI v3, d4] [] p (hoI p (bv7_latestOf_19 p F106 kv19 v1 v2 v3)) := by
  intro v1 v2 v3 d4 H
  exact roI (n := 3000) (q := 19) (la := [zR 7 1, zR 1 v1, zI v2, zI v3, d4]) (sa := []) (ks := [fun la sa _ => kv19 (ar la 1) (ai la 2) (ai la 3)]) (gs := [fun la sa _ => zsw (tc2 la [(107, 1), (5, 0), (0, 0), (0, 0), (2, 0)] && tc2 sa []) False (kg19 (ar la 1) (ai la 2) (ai la 3))]) (fcons o207 (fcons o106 (fnil))) tab107 pc107 ⟨fun la sa s hg H => zcut H fun H => hk19 (ar la 1) (ai la 2) (ai la 3) (zld la 4) H, trivial⟩ hg H
theorem t7_latestOf_19 (p : PM) (hg : Gr 0 p) : ∀ (n : Nat), ∀ (v1 : Nat) (v2 : Int32) (v3 : Int32) (d4 : ZV), g7_latestOf_19 p n v1 v2 v3 → ZJ 0 107 19 [zR 7 1, zR 1 v1, zI v2, zI v3, d4] [] p (hoI p (v7_latestOf_19 p n v1 v2 v3)) := by
  intro n
  induction n with
  | zero =>
    intro v1 v2 v3 d4 H
    exact H.elim
  | succ n ih => exact r7_latestOf_19 p hg v14_max_7cf53 g14_max_7cf53 ok207 v7_find g7_find ok106 (v7_latestOf_19 p n) (g7_latestOf_19 p n) ih
set_option maxRecDepth 100000 in
theorem r7_latestOf (p : PM) (hg : Gr 0 p) (F207 : PM → Int32 → Int32 → Int32) (G207 : PM → Int32 → Int32 → Prop) (o207 : CalOK 0 (CC207 F207 G207)) (F106 : PM → Int32 → Nat) (G106 : PM → Int32 → Prop) (o106 : CalOK 0 (CC106 F106 G106)) (kv19 : Nat → Int32 → Int32 → Int32) (kg19 : Nat → Int32 → Int32 → Prop) (hk19 : ∀ (v1 : Nat) (v2 : Int32) (v3 : Int32) (d4 : ZV), kg19 v1 v2 v3 → ZJ 0 107 19 [zR 7 1, zR 1 v1, zI v2, zI v3, d4] [] p (hoI p (kv19 v1 v2 v3))) : ∀ (v1 : Nat), bg7_latestOf p F207 G207 kg19 v1 → ZJ 0 107 0 [zR 7 1, zR 1 v1, zJ, zJ, zJ] [] p (hoI p (bv7_latestOf p F207 kv19 v1)) := by
  intro v1  H
  exact roI (n := 3000) (q := 0) (la := [zR 7 1, zR 1 v1, zJ, zJ, zJ]) (sa := []) (ks := [fun la sa _ => kv19 (ar la 1) (ai la 2) (ai la 3)]) (gs := [fun la sa _ => zsw (tc2 la [(107, 1), (5, 0), (0, 0), (0, 0), (2, 0)] && tc2 sa []) False (kg19 (ar la 1) (ai la 2) (ai la 3))]) (fcons o207 (fcons o106 (fnil))) tab107 pc107 ⟨fun la sa s hg H => zcut H fun H => hk19 (ar la 1) (ai la 2) (ai la 3) (zld la 4) H, trivial⟩ hg H
theorem t7_latestOf (p : PM) (hg : Gr 0 p) : ∀ (v1 : Nat), g7_latestOf p v1 → ZJ 0 107 0 [zR 7 1, zR 1 v1, zJ, zJ, zJ] [] p (hoI p (v7_latestOf p v1)) := r7_latestOf p hg v14_max_7cf53 g14_max_7cf53 ok207 v7_find g7_find ok106 (v7_latestOf_19 p FU) (g7_latestOf_19 p FU) (t7_latestOf_19 p hg FU)
def CC107 (F : PM → Nat → Int32) (G : PM → Nat → Prop) : Cal := (107, [10, 4], 1, true, fun as p => (zI (F p (ar as 1)), p), fun as p => zsw (tc2 as [(107, 1), (5, 0)]) False (G p (ar as 1)))
set_option maxRecDepth 100000 in
theorem okr107 (F : PM → Nat → Int32) (G : PM → Nat → Prop) (h : ∀ (p : PM) (v1 : Nat), Gr 0 p → G p v1 → ZJ 0 107 0 [zR 7 1, zR 1 v1, zJ, zJ, zJ] [] p (hoI p (F p v1))) : CalOK 0 (CC107 F G) := cal_ok (m := 5) (by unfold mL; rw [mX_107]) (fun as p hg H => h p (ar as 1) hg H)
theorem ok107 : CalOK 0 (CC107 v7_latestOf g7_latestOf) := okr107 v7_latestOf g7_latestOf (fun p v1 hg H => t7_latestOf p hg v1 H)
noncomputable def bv6_nextPeg_14 (p : PM) (kv14 : Int32 → Nat → Int32 → Nat) (v1 : Int32) (v2 : Nat) (v5 : Int32) : Nat :=
  if v5 < (cn 40) then (
    if (p.1 10 ((v5).toNatClampNeg + 1) 2) = 0 then (
      kv14 v1 v2 (v5 + (cn 1)))
    else (
      if (p.1 10 ((v5).toNatClampNeg + 1) 1) = (cn 1) then (
        if v1 < (p.1 10 ((v5).toNatClampNeg + 1) 0) then (
          if v2 = 0 then (
            kv14 v1 ((v5).toNatClampNeg + 1) (v5 + (cn 1)))
          else (
            if (p.1 10 ((v5).toNatClampNeg + 1) 0) < (p.1 10 v2 0) then (
              kv14 v1 ((v5).toNatClampNeg + 1) (v5 + (cn 1)))
            else (
              kv14 v1 v2 (v5 + (cn 1)))))
        else (
          kv14 v1 v2 (v5 + (cn 1))))
      else (
        kv14 v1 v2 (v5 + (cn 1)))))
  else (
    v2)
noncomputable def v6_nextPeg_14 (p : PM) (n : Nat) : Int32 → Nat → Int32 → Nat := Nat.rec (motive := fun _ => Int32 → Nat → Int32 → Nat) (fun _ _ _ => 0) (fun _ ih => bv6_nextPeg_14 p ih) n
theorem ev6_nextPeg_14 (p : PM) (n : Nat) (v1 : Int32) (v2 : Nat) (v5 : Int32) : v6_nextPeg_14 p (n + 1) v1 v2 v5 = bv6_nextPeg_14 p (v6_nextPeg_14 p n) v1 v2 v5 := rfl
noncomputable def bg6_nextPeg_14 (p : PM) (kg14 : Int32 → Nat → Int32 → Prop) (v1 : Int32) (v2 : Nat) (v5 : Int32) : Prop :=
  if v5 < (cn 40) then (
    (inb v5 40) ∧ (
    if (p.1 10 ((v5).toNatClampNeg + 1) 2) = 0 then (
      kg14 v1 v2 (v5 + (cn 1)))
    else (
      if (p.1 10 ((v5).toNatClampNeg + 1) 1) = (cn 1) then (
        if v1 < (p.1 10 ((v5).toNatClampNeg + 1) 0) then (
          if v2 = 0 then (
            kg14 v1 ((v5).toNatClampNeg + 1) (v5 + (cn 1)))
          else (
            (¬ v2 = 0) ∧ (
            if (p.1 10 ((v5).toNatClampNeg + 1) 0) < (p.1 10 v2 0) then (
              kg14 v1 ((v5).toNatClampNeg + 1) (v5 + (cn 1)))
            else (
              kg14 v1 v2 (v5 + (cn 1))))))
        else (
          kg14 v1 v2 (v5 + (cn 1))))
      else (
        kg14 v1 v2 (v5 + (cn 1))))))
  else (
    True)
noncomputable def g6_nextPeg_14 (p : PM) (n : Nat) : Int32 → Nat → Int32 → Prop := Nat.rec (motive := fun _ => Int32 → Nat → Int32 → Prop) (fun _ _ _ => False) (fun _ ih => bg6_nextPeg_14 p ih) n
theorem eg6_nextPeg_14 (p : PM) (n : Nat) (v1 : Int32) (v2 : Nat) (v5 : Int32) : g6_nextPeg_14 p (n + 1) v1 v2 v5 = bg6_nextPeg_14 p (g6_nextPeg_14 p n) v1 v2 v5 := rfl
noncomputable def bv6_nextPeg (p : PM) (kv14 : Int32 → Nat → Int32 → Nat) (v1 : Int32) : Nat :=
  kv14 v1 0 (cn 0)
noncomputable def v6_nextPeg (p : PM) (v1 : Int32) : Nat := bv6_nextPeg p (v6_nextPeg_14 p FU) v1
noncomputable def bg6_nextPeg (p : PM) (kg14 : Int32 → Nat → Int32 → Prop) (v1 : Int32) : Prop :=
  kg14 v1 0 (cn 0)
noncomputable def g6_nextPeg (p : PM) (v1 : Int32) : Prop := bg6_nextPeg p (g6_nextPeg_14 p FU) v1
def R99 : List Row := [(0, .aconst_null, 1, 0, (10, 0, 0, 0, 0, 0)), (1, .astore_n 2, 1, 0, (0, 0, 0, 0, 0, 0)), (2, .aload_n 0, 1, 0, (0, 0, 0, 0, 0, 0)), (3, .getfield 11, 3, 0, (6, 1, 23, 2, 1, 0)), (6, .astore_n 3, 1, 0, (0, 0, 0, 0, 0, 0)), (7, .aload_n 3, 1, 0, (0, 0, 0, 0, 0, 0)), (8, .arraylength, 1, 0, (20, 40, 0, 0, 0, 40)), (9, .istore 4, 2, 0, (0, 0, 0, 0, 0, 0)), (11, .iconst 0, 1, 0, (0, 0, 0, 0, 0, 0)), (12, .istore 5, 2, 0, (0, 0, 0, 0, 0, 0)), (14, .iload 5, 2, 1, (0, 0, 0, 0, 0, 0)), (16, .iload 4, 2, 0, (0, 0, 0, 0, 0, 0)), (18, .if_icmp .ge 60, 3, 0, (0, 0, 0, 0, 0, 0)), (21, .aload_n 3, 1, 0, (0, 0, 0, 0, 0, 0)), (22, .iload 5, 2, 0, (0, 0, 0, 0, 0, 0)), (24, .aaload, 1, 0, (20, 40, 0, 1, 1, 0)), (25, .astore 6, 2, 0, (0, 0, 0, 0, 0, 0)), (27, .aload 6, 2, 0, (0, 0, 0, 0, 0, 0)), (29, .getfield 29, 3, 0, (10, 2, 0, 1, 0, 0)), (32, .ifCond .eq 40, 3, 0, (0, 0, 0, 0, 0, 0)), (35, .aload 6, 2, 0, (0, 0, 0, 0, 0, 0)), (37, .getfield 76, 3, 0, (10, 1, 0, 1, 0, 0)), (40, .iconst 1, 1, 0, (0, 0, 0, 0, 0, 1)), (41, .if_icmp .ne 31, 3, 0, (0, 0, 0, 0, 0, 0)), (44, .aload 6, 2, 0, (0, 0, 0, 0, 0, 0)), (46, .getfield 45, 3, 0, (10, 0, 0, 1, 0, 0)), (49, .iload_n 1, 1, 0, (0, 0, 0, 0, 0, 0)), (50, .if_icmp .le 22, 3, 0, (0, 0, 0, 0, 0, 0)), (53, .aload_n 2, 1, 0, (0, 0, 0, 0, 0, 0)), (54, .ifnull 15, 3, 0, (0, 0, 0, 0, 0, 0)), (57, .aload 6, 2, 0, (0, 0, 0, 0, 0, 0)), (59, .getfield 45, 3, 0, (10, 0, 0, 1, 0, 0)), (62, .aload_n 2, 1, 0, (0, 0, 0, 0, 0, 0)), (63, .getfield 45, 3, 0, (10, 0, 0, 0, 0, 0)), (66, .if_icmp .ge 6, 3, 0, (0, 0, 0, 0, 0, 0)), (69, .aload 6, 2, 0, (0, 0, 0, 0, 0, 0)), (71, .astore_n 2, 1, 0, (0, 0, 0, 0, 0, 0)), (72, .iinc 5 1, 3, 0, (0, 0, 0, 0, 0, 1)), (75, .goto (-61), 3, 0, (0, 0, 0, 0, 0, 0)), (78, .aload_n 2, 1, 0, (0, 0, 0, 0, 0, 0)), (79, .areturn, 1, 0, (10, 0, 0, 0, 0, 0))]
set_option maxRecDepth 100000 in
theorem rk99 : R99.all (rok 0 99 (3 + 10) []) = true := by decide +kernel
set_option maxRecDepth 100000 in
theorem tab99 : TabOK 0 99 (3 + 10) [] R99 := tab_ok (K := K99) rfl rfl (fun h => d99 h) rk99 (by decide +kernel)
set_option maxRecDepth 100000 in
theorem pc99 : cutpc [14] R99 = true := by decide +kernel
set_option maxRecDepth 100000 in
theorem r6_nextPeg_14 (p : PM) (hg : Gr 0 p) (kv14 : Int32 → Nat → Int32 → Nat) (kg14 : Int32 → Nat → Int32 → Prop) (hk14 : ∀ (v1 : Int32) (v2 : Nat) (v5 : Int32) (d0 d6 : ZV), kg14 v1 v2 v5 → ZJ 0 99 14 [d0, zI v1, zR 10 v2, zR 20 1, zC 40, zI v5, d6] [] p (hoR 10 p (kv14 v1 v2 v5))) : ∀ (v1 : Int32) (v2 : Nat) (v5 : Int32) (d0 d6 : ZV), bg6_nextPeg_14 p kg14 v1 v2 v5 → ZJ 0 99 14 [d0, zI v1, zR 10 v2, zR 20 1, zC 40, zI v5, d6] [] p (hoR 10 p (bv6_nextPeg_14 p kv14 v1 v2 v5)) := by
  intro v1 v2 v5 d0 d6 H
  exact roR 10 (n := 3000) (q := 14) (la := [d0, zI v1, zR 10 v2, zR 20 1, zC 40, zI v5, d6]) (sa := []) (ks := [fun la sa _ => kv14 (ai la 1) (ar la 2) (ai la 5)]) (gs := [fun la sa _ => zsw (tc2 la [(2, 0), (0, 0), (14, 0), (120, 1), (3, 40), (0, 0), (2, 0)] && tc2 sa []) False (kg14 (ai la 1) (ar la 2) (ai la 5))]) (fnil) tab99 pc99 ⟨fun la sa s hg H => zcut H fun H => hk14 (ai la 1) (ar la 2) (ai la 5) (zld la 0) (zld la 6) H, trivial⟩ hg H
theorem t6_nextPeg_14 (p : PM) (hg : Gr 0 p) : ∀ (n : Nat), ∀ (v1 : Int32) (v2 : Nat) (v5 : Int32) (d0 d6 : ZV), g6_nextPeg_14 p n v1 v2 v5 → ZJ 0 99 14 [d0, zI v1, zR 10 v2, zR 20 1, zC 40, zI v5, d6] [] p (hoR 10 p (v6_nextPeg_14 p n v1 v2 v5)) := by
  intro n
  induction n with
  | zero =>
    intro v1 v2 v5 d0 d6 H
    exact H.elim
  | succ n ih => exact r6_nextPeg_14 p hg (v6_nextPeg_14 p n) (g6_nextPeg_14 p n) ih
set_option maxRecDepth 100000 in
theorem r6_nextPeg (p : PM) (hg : Gr 0 p) (kv14 : Int32 → Nat → Int32 → Nat) (kg14 : Int32 → Nat → Int32 → Prop) (hk14 : ∀ (v1 : Int32) (v2 : Nat) (v5 : Int32) (d0 d6 : ZV), kg14 v1 v2 v5 → ZJ 0 99 14 [d0, zI v1, zR 10 v2, zR 20 1, zC 40, zI v5, d6] [] p (hoR 10 p (kv14 v1 v2 v5))) : ∀ (v1 : Int32), bg6_nextPeg p kg14 v1 → ZJ 0 99 0 [zR 6 1, zI v1, zJ, zJ, zJ, zJ, zJ] [] p (hoR 10 p (bv6_nextPeg p kv14 v1)) := by
  intro v1  H
  exact roR 10 (n := 3000) (q := 0) (la := [zR 6 1, zI v1, zJ, zJ, zJ, zJ, zJ]) (sa := []) (ks := [fun la sa _ => kv14 (ai la 1) (ar la 2) (ai la 5)]) (gs := [fun la sa _ => zsw (tc2 la [(2, 0), (0, 0), (14, 0), (120, 1), (3, 40), (0, 0), (2, 0)] && tc2 sa []) False (kg14 (ai la 1) (ar la 2) (ai la 5))]) (fnil) tab99 pc99 ⟨fun la sa s hg H => zcut H fun H => hk14 (ai la 1) (ar la 2) (ai la 5) (zld la 0) (zld la 6) H, trivial⟩ hg H
theorem t6_nextPeg (p : PM) (hg : Gr 0 p) : ∀ (v1 : Int32), g6_nextPeg p v1 → ZJ 0 99 0 [zR 6 1, zI v1, zJ, zJ, zJ, zJ, zJ] [] p (hoR 10 p (v6_nextPeg p v1)) := r6_nextPeg p hg (v6_nextPeg_14 p FU) (g6_nextPeg_14 p FU) (t6_nextPeg_14 p hg FU)
def CC99 (F : PM → Int32 → Nat) (G : PM → Int32 → Prop) : Cal := (99, [9, 0], (3 + 10), true, fun as p => (zR 10 (F p (ai as 1)), p), fun as p => zsw (tc2 as [(106, 1), (0, 0)]) False (G p (ai as 1)))
set_option maxRecDepth 100000 in
theorem okr99 (F : PM → Int32 → Nat) (G : PM → Int32 → Prop) (h : ∀ (p : PM) (v1 : Int32), Gr 0 p → G p v1 → ZJ 0 99 0 [zR 6 1, zI v1, zJ, zJ, zJ, zJ, zJ] [] p (hoR 10 p (F p v1))) : CalOK 0 (CC99 F G) := cal_ok (m := 7) (by unfold mL; rw [mX_99]) (fun as p hg H => h p (ai as 1) hg H)
theorem ok99 : CalOK 0 (CC99 v6_nextPeg g6_nextPeg) := okr99 v6_nextPeg g6_nextPeg (fun p v1 hg H => t6_nextPeg p hg v1 H)
noncomputable def bv6_pegPrice (p : PM) (F11 : PM → Nat → Int32 → Int32) (F80 : PM → Nat → Int32 → Int32 → Int32) (F207 : PM → Int32 → Int32 → Int32) (F209 : PM → Int32 → Int32 → Int32) (v1 : Nat) : Int32 :=
  if (p.1 1 (p.2.2 10 v1 4) 5) = 0 then (
    let x1 : Int32 := (F80 p (p.2.2 10 v1 4) (p.1 10 v1 5) (cn 0))
    if x1 = (cn (-100000)) then (
      (cn (-100000)))
    else (
      if (p.1 10 v1 5) = 0 then (
        let x2 : Int32 := (F207 p (p.1 10 v1 6) (x1 + (p.1 10 v1 13)))
        if (F11 p (p.2.2 10 v1 4) x2) = 0 then (
          (cn (-100000)))
        else (
          x2))
      else (
        let x3 : Int32 := (F209 p (p.1 10 v1 6) (x1 - (p.1 10 v1 13)))
        if (F11 p (p.2.2 10 v1 4) x3) = 0 then (
          (cn (-100000)))
        else (
          x3))))
  else (
    if (cn (-100000)) = (cn (-100000)) then (
      (cn (-100000)))
    else (
      if (p.1 10 v1 5) = 0 then (
        let x4 : Int32 := (F207 p (p.1 10 v1 6) ((cn (-100000)) + (p.1 10 v1 13)))
        if (F11 p (p.2.2 10 v1 4) x4) = 0 then (
          (cn (-100000)))
        else (
          x4))
      else (
        let x5 : Int32 := (F209 p (p.1 10 v1 6) ((cn (-100000)) - (p.1 10 v1 13)))
        if (F11 p (p.2.2 10 v1 4) x5) = 0 then (
          (cn (-100000)))
        else (
          x5))))
noncomputable def v6_pegPrice (p : PM) (v1 : Nat) : Int32 := bv6_pegPrice p v1_hasPrice v6_bestPrice v14_max_7cf53 v14_min_7cf53 v1
noncomputable def bg6_pegPrice (p : PM) (F11 : PM → Nat → Int32 → Int32) (G11 : PM → Nat → Int32 → Prop) (F80 : PM → Nat → Int32 → Int32 → Int32) (G80 : PM → Nat → Int32 → Int32 → Prop) (F207 : PM → Int32 → Int32 → Int32) (G207 : PM → Int32 → Int32 → Prop) (F209 : PM → Int32 → Int32 → Int32) (G209 : PM → Int32 → Int32 → Prop) (v1 : Nat) : Prop :=
  (¬ v1 = 0) ∧ (
  (¬ (p.2.2 10 v1 4) = 0) ∧ (
  if (p.1 1 (p.2.2 10 v1 4) 5) = 0 then (
    (¬ v1 = 0) ∧ (
    (¬ v1 = 0) ∧ (
    (G80 p (p.2.2 10 v1 4) (p.1 10 v1 5) (cn 0)) ∧ (
    let x1 : Int32 := (F80 p (p.2.2 10 v1 4) (p.1 10 v1 5) (cn 0))
    if x1 = (cn (-100000)) then (
      True)
    else (
      (¬ v1 = 0) ∧ (
      if (p.1 10 v1 5) = 0 then (
        (¬ v1 = 0) ∧ (
        (¬ v1 = 0) ∧ (
        (G207 p (p.1 10 v1 6) (x1 + (p.1 10 v1 13))) ∧ (
        let x2 : Int32 := (F207 p (p.1 10 v1 6) (x1 + (p.1 10 v1 13)))
        (¬ v1 = 0) ∧ (
        (¬ (p.2.2 10 v1 4) = 0) ∧ (
        (G11 p (p.2.2 10 v1 4) x2) ∧ (
        if (F11 p (p.2.2 10 v1 4) x2) = 0 then (
          True)
        else (
          True))))))))
      else (
        (¬ v1 = 0) ∧ (
        (¬ v1 = 0) ∧ (
        (G209 p (p.1 10 v1 6) (x1 - (p.1 10 v1 13))) ∧ (
        let x3 : Int32 := (F209 p (p.1 10 v1 6) (x1 - (p.1 10 v1 13)))
        (¬ v1 = 0) ∧ (
        (¬ (p.2.2 10 v1 4) = 0) ∧ (
        (G11 p (p.2.2 10 v1 4) x3) ∧ (
        if (F11 p (p.2.2 10 v1 4) x3) = 0 then (
          True)
        else (
          True))))))))))))))
  else (
    if (cn (-100000)) = (cn (-100000)) then (
      True)
    else (
      (¬ v1 = 0) ∧ (
      if (p.1 10 v1 5) = 0 then (
        (¬ v1 = 0) ∧ (
        (¬ v1 = 0) ∧ (
        (G207 p (p.1 10 v1 6) ((cn (-100000)) + (p.1 10 v1 13))) ∧ (
        let x4 : Int32 := (F207 p (p.1 10 v1 6) ((cn (-100000)) + (p.1 10 v1 13)))
        (¬ v1 = 0) ∧ (
        (¬ (p.2.2 10 v1 4) = 0) ∧ (
        (G11 p (p.2.2 10 v1 4) x4) ∧ (
        if (F11 p (p.2.2 10 v1 4) x4) = 0 then (
          True)
        else (
          True))))))))
      else (
        (¬ v1 = 0) ∧ (
        (¬ v1 = 0) ∧ (
        (G209 p (p.1 10 v1 6) ((cn (-100000)) - (p.1 10 v1 13))) ∧ (
        let x5 : Int32 := (F209 p (p.1 10 v1 6) ((cn (-100000)) - (p.1 10 v1 13)))
        (¬ v1 = 0) ∧ (
        (¬ (p.2.2 10 v1 4) = 0) ∧ (
        (G11 p (p.2.2 10 v1 4) x5) ∧ (
        if (F11 p (p.2.2 10 v1 4) x5) = 0 then (
          True)
        else (
          True)))))))))))))
noncomputable def g6_pegPrice (p : PM) (v1 : Nat) : Prop := bg6_pegPrice p v1_hasPrice g1_hasPrice v6_bestPrice g6_bestPrice v14_max_7cf53 g14_max_7cf53 v14_min_7cf53 g14_min_7cf53 v1
def R100 : List Row := [(0, .aload_n 1, 1, 0, (0, 0, 0, 0, 0, 0)), (1, .getfield 130, 3, 0, (10, 4, 4, 0, 0, 0)), (4, .getfield 154, 3, 0, (1, 5, 1, 0, 0, 0)), (7, .ifCond .eq 8, 3, 0, (0, 0, 0, 0, 0, 0)), (10, .ldc 71, 2, 0, (0, 0, 0, 0, 0, -100000)), (12, .goto 16, 3, 0, (0, 0, 0, 0, 0, 0)), (15, .aload_n 0, 1, 0, (0, 0, 0, 0, 0, 0)), (16, .aload_n 1, 1, 0, (0, 0, 0, 0, 0, 0)), (17, .getfield 130, 3, 0, (10, 4, 4, 0, 0, 0)), (20, .aload_n 1, 1, 0, (0, 0, 0, 0, 0, 0)), (21, .getfield 151, 3, 0, (10, 5, 1, 0, 0, 0)), (24, .iconst 0, 1, 0, (0, 0, 0, 0, 0, 0)), (25, .invokevirtual 83, 3, 0, (0, 4, 0, 0, 1, 0)), (28, .istore_n 2, 1, 0, (0, 0, 0, 0, 0, 0)), (29, .iload_n 2, 1, 0, (0, 0, 0, 0, 0, 0)), (30, .ldc 71, 2, 0, (0, 0, 0, 0, 0, -100000)), (32, .if_icmp .ne 6, 3, 0, (0, 0, 0, 0, 0, 0)), (35, .ldc 71, 2, 0, (0, 0, 0, 0, 0, -100000)), (37, .ireturn, 1, 0, (0, 0, 0, 0, 0, 0)), (38, .aload_n 1, 1, 0, (0, 0, 0, 0, 0, 0)), (39, .getfield 151, 3, 0, (10, 5, 1, 0, 0, 0)), (42, .ifCond .eq 19, 3, 0, (0, 0, 0, 0, 0, 0)), (45, .aload_n 1, 1, 0, (0, 0, 0, 0, 0, 0)), (46, .getfield 52, 3, 0, (10, 6, 0, 0, 0, 0)), (49, .iload_n 2, 1, 0, (0, 0, 0, 0, 0, 0)), (50, .aload_n 1, 1, 0, (0, 0, 0, 0, 0, 0)), (51, .getfield 205, 3, 0, (10, 13, 0, 0, 0, 0)), (54, .isub, 1, 0, (0, 0, 0, 0, 0, 0)), (55, .invokestatic 208, 3, 0, (3, 2, 0, 0, 0, 0)), (58, .goto 16, 3, 0, (0, 0, 0, 0, 0, 0)), (61, .aload_n 1, 1, 0, (0, 0, 0, 0, 0, 0)), (62, .getfield 52, 3, 0, (10, 6, 0, 0, 0, 0)), (65, .iload_n 2, 1, 0, (0, 0, 0, 0, 0, 0)), (66, .aload_n 1, 1, 0, (0, 0, 0, 0, 0, 0)), (67, .getfield 205, 3, 0, (10, 13, 0, 0, 0, 0)), (70, .iadd, 1, 0, (0, 0, 0, 0, 0, 0)), (71, .invokestatic 212, 3, 0, (1, 2, 0, 0, 0, 0)), (74, .istore_n 3, 1, 0, (0, 0, 0, 0, 0, 0)), (75, .aload_n 1, 1, 0, (0, 0, 0, 0, 0, 0)), (76, .getfield 130, 3, 0, (10, 4, 4, 0, 0, 0)), (79, .iload_n 3, 1, 0, (0, 0, 0, 0, 0, 0)), (80, .invokevirtual 215, 3, 0, (2, 2, 0, 0, 2, 0)), (83, .ifCond .eq 7, 3, 0, (0, 0, 0, 0, 0, 0)), (86, .iload_n 3, 1, 0, (0, 0, 0, 0, 0, 0)), (87, .goto 5, 3, 0, (0, 0, 0, 0, 0, 0)), (90, .ldc 71, 2, 0, (0, 0, 0, 0, 0, -100000)), (92, .ireturn, 1, 0, (0, 0, 0, 0, 0, 0))]
set_option maxRecDepth 100000 in
theorem rk100 : R100.all (rok 0 100 1 [(80, [9, 4, 0, 0]), (207, [0, 0]), (11, [4, 0]), (209, [0, 0])]) = true := by decide +kernel
set_option maxRecDepth 100000 in
theorem tab100 {F80 : PM → Nat → Int32 → Int32 → Int32} {G80 : PM → Nat → Int32 → Int32 → Prop} {F207 : PM → Int32 → Int32 → Int32} {G207 : PM → Int32 → Int32 → Prop} {F11 : PM → Nat → Int32 → Int32} {G11 : PM → Nat → Int32 → Prop} {F209 : PM → Int32 → Int32 → Int32} {G209 : PM → Int32 → Int32 → Prop} : TabOK 0 100 1 [CC80 F80 G80, CC207 F207 G207, CC11 F11 G11, CC209 F209 G209] R100 := tab_ok (K := K100) rfl rfl (fun h => d100 h) rk100 (by decide +kernel)
set_option maxRecDepth 100000 in
theorem pc100 : cutpc [] R100 = true := by decide +kernel
set_option maxRecDepth 100000 in
theorem r6_pegPrice (p : PM) (hg : Gr 0 p) (F80 : PM → Nat → Int32 → Int32 → Int32) (G80 : PM → Nat → Int32 → Int32 → Prop) (o80 : CalOK 0 (CC80 F80 G80)) (F207 : PM → Int32 → Int32 → Int32) (G207 : PM → Int32 → Int32 → Prop) (o207 : CalOK 0 (CC207 F207 G207)) (F11 : PM → Nat → Int32 → Int32) (G11 : PM → Nat → Int32 → Prop) (o11 : CalOK 0 (CC11 F11 G11)) (F209 : PM → Int32 → Int32 → Int32) (G209 : PM → Int32 → Int32 → Prop) (o209 : CalOK 0 (CC209 F209 G209)) : ∀ (v1 : Nat), bg6_pegPrice p F11 G11 F80 G80 F207 G207 F209 G209 v1 → ZJ 0 100 0 [zR 6 1, zR 10 v1, zJ, zJ] [] p (hoI p (bv6_pegPrice p F11 F80 F207 F209 v1)) := by
  intro v1  H
  exact roI (n := 3000) (q := 0) (la := [zR 6 1, zR 10 v1, zJ, zJ]) (sa := []) (ks := []) (gs := []) (fcons o80 (fcons o207 (fcons o11 (fcons o209 (fnil))))) tab100 pc100 trivial hg H
theorem t6_pegPrice (p : PM) (hg : Gr 0 p) : ∀ (v1 : Nat), g6_pegPrice p v1 → ZJ 0 100 0 [zR 6 1, zR 10 v1, zJ, zJ] [] p (hoI p (v6_pegPrice p v1)) := r6_pegPrice p hg v6_bestPrice g6_bestPrice ok80 v14_max_7cf53 g14_max_7cf53 ok207 v1_hasPrice g1_hasPrice ok11 v14_min_7cf53 g14_min_7cf53 ok209
def CC100 (F : PM → Nat → Int32) (G : PM → Nat → Prop) : Cal := (100, [9, 13], 1, true, fun as p => (zI (F p (ar as 1)), p), fun as p => zsw (tc2 as [(106, 1), (14, 0)]) False (G p (ar as 1)))
set_option maxRecDepth 100000 in
theorem okr100 (F : PM → Nat → Int32) (G : PM → Nat → Prop) (h : ∀ (p : PM) (v1 : Nat), Gr 0 p → G p v1 → ZJ 0 100 0 [zR 6 1, zR 10 v1, zJ, zJ] [] p (hoI p (F p v1))) : CalOK 0 (CC100 F G) := cal_ok (m := 4) (by unfold mL; rw [mX_100]) (fun as p hg H => h p (ar as 1) hg H)
theorem ok100 : CalOK 0 (CC100 v6_pegPrice g6_pegPrice) := okr100 v6_pegPrice g6_pegPrice (fun p v1 hg H => t6_pegPrice p hg v1 H)
noncomputable def bv10_hold (p : PM) (v0 : Nat) : PM :=
  let p1 : PM := pI p 10 v0 2 (cn 2)
  let p2 : PM := pI p1 10 v0 7 (cn (-100000))
  p2
noncomputable def v10_hold (p : PM) (v0 : Nat) : PM := bv10_hold p v0
noncomputable def bg10_hold (p : PM) (v0 : Nat) : Prop :=
  (¬ v0 = 0) ∧ (
  let p1 : PM := pI p 10 v0 2 (cn 2)
  (¬ v0 = 0) ∧ (
  let p2 : PM := pI p1 10 v0 7 (cn (-100000))
  True))
noncomputable def g10_hold (p : PM) (v0 : Nat) : Prop := bg10_hold p v0
def R147 : List Row := [(0, .aload_n 0, 1, 0, (0, 0, 0, 0, 0, 0)), (1, .iconst 2, 1, 0, (0, 0, 0, 0, 0, 2)), (2, .putfield 26, 3, 0, (10, 2, 0, 0, 0, 0)), (5, .aload_n 0, 1, 0, (0, 0, 0, 0, 0, 0)), (6, .ldc 36, 2, 0, (0, 0, 0, 0, 0, -100000)), (8, .putfield 37, 3, 0, (10, 7, 0, 0, 0, 0)), (11, .return_, 1, 0, (0, 0, 0, 0, 0, 0))]
set_option maxRecDepth 100000 in
theorem rk147 : R147.all (rok 0 147 0 []) = true := by decide +kernel
set_option maxRecDepth 100000 in
theorem tab147 : TabOK 0 147 0 [] R147 := tab_ok (K := K147) rfl rfl (fun h => d147 h) rk147 (by decide +kernel)
set_option maxRecDepth 100000 in
theorem pc147 : cutpc [] R147 = true := by decide +kernel
set_option maxRecDepth 100000 in
theorem r10_hold : ∀ (p : PM) (v0 : Nat), Gr 0 p → bg10_hold p v0 → ZJ 0 147 0 [zR 10 v0] [] p (hwV (bv10_hold p v0)) := by
  intro p v0  hg H
  exact rwV (n := 3000) (q := 0) (la := [zR 10 v0]) (sa := []) (ks := []) (gs := []) (fnil) tab147 pc147 trivial hg H
theorem t10_hold : ∀ (p : PM) (v0 : Nat), Gr 0 p → g10_hold p v0 → ZJ 0 147 0 [zR 10 v0] [] p (hwV (v10_hold p v0)) := r10_hold
def CC147 (F : PM → Nat → PM) (G : PM → Nat → Prop) : Cal := (147, [13], 0, false, fun as p => (zJ, (F p (ar as 0))), fun as p => zsw (tc2 as [(14, 0)]) False (G p (ar as 0)))
set_option maxRecDepth 100000 in
theorem okr147 (F : PM → Nat → PM) (G : PM → Nat → Prop) (h : ∀ (p : PM) (v0 : Nat), Gr 0 p → G p v0 → ZJ 0 147 0 [zR 10 v0] [] p (hwV (F p v0))) : CalOK 0 (CC147 F G) := cal_ok (m := 1) (by unfold mL; rw [mX_147]) (fun as p hg H => h p (ar as 0) hg H)
theorem ok147 : CalOK 0 (CC147 v10_hold g10_hold) := okr147 v10_hold g10_hold t10_hold
noncomputable def bv6_movePeg (F78 : PM → Int32 × PM) (F147 : PM → Nat → PM) (F148 : PM → Nat → Int32) (p : PM) (v1 : Nat) (v2 : Int32) : PM :=
  if v2 = (cn (-100000)) then (
    let p11 : PM := F147 p v1
    p11)
  else (
    if (p.1 10 v1 2) = (cn 2) then (
      let p1 : PM := pI p 10 v1 2 (cn 1)
      let p2 : PM := pI p1 10 v1 7 v2
      let p3 : PM := pI p2 10 v1 11 (F148 p2 v1)
      let r4 : Int32 × PM := F78 p3
      let p5 : PM := pI r4.2 10 v1 12 r4.1
      p5)
    else (
      if (p.1 10 v1 7) = v2 then (
        p)
      else (
        let p6 : PM := pI p 10 v1 2 (cn 1)
        let p7 : PM := pI p6 10 v1 7 v2
        let p8 : PM := pI p7 10 v1 11 (F148 p7 v1)
        let r9 : Int32 × PM := F78 p8
        let p10 : PM := pI r9.2 10 v1 12 r9.1
        p10)))
noncomputable def v6_movePeg (p : PM) (v1 : Nat) (v2 : Int32) : PM := bv6_movePeg v6_nextTurn v10_hold v10_showable p v1 v2
noncomputable def bg6_movePeg (F78 : PM → Int32 × PM) (G78 : PM → Prop) (F147 : PM → Nat → PM) (G147 : PM → Nat → Prop) (F148 : PM → Nat → Int32) (G148 : PM → Nat → Prop) (p : PM) (v1 : Nat) (v2 : Int32) : Prop :=
  if v2 = (cn (-100000)) then (
    (¬ v1 = 0) ∧ (
    (G147 p v1) ∧ (
    let p11 : PM := F147 p v1
    True)))
  else (
    (¬ v1 = 0) ∧ (
    if (p.1 10 v1 2) = (cn 2) then (
      (¬ v1 = 0) ∧ (
      let p1 : PM := pI p 10 v1 2 (cn 1)
      (¬ v1 = 0) ∧ (
      let p2 : PM := pI p1 10 v1 7 v2
      (¬ v1 = 0) ∧ (
      (G148 p2 v1) ∧ (
      (¬ v1 = 0) ∧ (
      let p3 : PM := pI p2 10 v1 11 (F148 p2 v1)
      (G78 p3) ∧ (
      let r4 : Int32 × PM := F78 p3
      (¬ v1 = 0) ∧ (
      let p5 : PM := pI r4.2 10 v1 12 r4.1
      True))))))))
    else (
      (¬ v1 = 0) ∧ (
      if (p.1 10 v1 7) = v2 then (
        True)
      else (
        (¬ v1 = 0) ∧ (
        let p6 : PM := pI p 10 v1 2 (cn 1)
        (¬ v1 = 0) ∧ (
        let p7 : PM := pI p6 10 v1 7 v2
        (¬ v1 = 0) ∧ (
        (G148 p7 v1) ∧ (
        (¬ v1 = 0) ∧ (
        let p8 : PM := pI p7 10 v1 11 (F148 p7 v1)
        (G78 p8) ∧ (
        let r9 : Int32 × PM := F78 p8
        (¬ v1 = 0) ∧ (
        let p10 : PM := pI r9.2 10 v1 12 r9.1
        True))))))))))))
noncomputable def g6_movePeg (p : PM) (v1 : Nat) (v2 : Int32) : Prop := bg6_movePeg v6_nextTurn g6_nextTurn v10_hold g10_hold v10_showable g10_showable p v1 v2
def R101 : List Row := [(0, .iload_n 2, 1, 0, (0, 0, 0, 0, 0, 0)), (1, .ldc 71, 2, 0, (0, 0, 0, 0, 0, -100000)), (3, .if_icmp .ne 10, 3, 0, (0, 0, 0, 0, 0, 0)), (6, .aload_n 1, 1, 0, (0, 0, 0, 0, 0, 0)), (7, .invokevirtual 191, 3, 0, (2, 1, 0, 0, 2, 0)), (10, .goto 45, 3, 0, (0, 0, 0, 0, 0, 0)), (13, .aload_n 1, 1, 0, (0, 0, 0, 0, 0, 0)), (14, .getfield 29, 3, 0, (10, 2, 0, 0, 0, 0)), (17, .iconst 2, 1, 0, (0, 0, 0, 0, 0, 2)), (18, .if_icmp .eq 11, 3, 0, (0, 0, 0, 0, 0, 0)), (21, .aload_n 1, 1, 0, (0, 0, 0, 0, 0, 0)), (22, .getfield 55, 3, 0, (10, 7, 0, 0, 0, 0)), (25, .iload_n 2, 1, 0, (0, 0, 0, 0, 0, 0)), (26, .if_icmp .eq 29, 3, 0, (0, 0, 0, 0, 0, 0)), (29, .aload_n 1, 1, 0, (0, 0, 0, 0, 0, 0)), (30, .iconst 1, 1, 0, (0, 0, 0, 0, 0, 1)), (31, .putfield 29, 3, 0, (10, 2, 0, 0, 0, 0)), (34, .aload_n 1, 1, 0, (0, 0, 0, 0, 0, 0)), (35, .iload_n 2, 1, 0, (0, 0, 0, 0, 0, 0)), (36, .putfield 55, 3, 0, (10, 7, 0, 0, 0, 0)), (39, .aload_n 1, 1, 0, (0, 0, 0, 0, 0, 0)), (40, .aload_n 1, 1, 0, (0, 0, 0, 0, 0, 0)), (41, .invokevirtual 58, 3, 0, (0, 1, 0, 0, 2, 0)), (44, .putfield 62, 3, 0, (10, 11, 0, 0, 0, 0)), (47, .aload_n 1, 1, 0, (0, 0, 0, 0, 0, 0)), (48, .aload_n 0, 1, 0, (0, 0, 0, 0, 0, 0)), (49, .invokevirtual 65, 3, 0, (1, 1, 0, 0, 1, 0)), (52, .putfield 68, 3, 0, (10, 12, 0, 0, 0, 0)), (55, .return_, 1, 0, (0, 0, 0, 0, 0, 0))]
set_option maxRecDepth 100000 in
theorem rk101 : R101.all (rok 0 101 0 [(148, [13]), (78, [9]), (147, [13])]) = true := by decide +kernel
set_option maxRecDepth 100000 in
theorem tab101 {F148 : PM → Nat → Int32} {G148 : PM → Nat → Prop} {F78 : PM → Int32 × PM} {G78 : PM → Prop} {F147 : PM → Nat → PM} {G147 : PM → Nat → Prop} : TabOK 0 101 0 [CC148 F148 G148, CC78 F78 G78, CC147 F147 G147] R101 := tab_ok (K := K101) rfl rfl (fun h => d101 h) rk101 (by decide +kernel)
set_option maxRecDepth 100000 in
theorem pc101 : cutpc [] R101 = true := by decide +kernel
set_option maxRecDepth 100000 in
theorem r6_movePeg (F148 : PM → Nat → Int32) (G148 : PM → Nat → Prop) (o148 : CalOK 0 (CC148 F148 G148)) (F78 : PM → Int32 × PM) (G78 : PM → Prop) (o78 : CalOK 0 (CC78 F78 G78)) (F147 : PM → Nat → PM) (G147 : PM → Nat → Prop) (o147 : CalOK 0 (CC147 F147 G147)) : ∀ (p : PM) (v1 : Nat) (v2 : Int32), Gr 0 p → bg6_movePeg F78 G78 F147 G147 F148 G148 p v1 v2 → ZJ 0 101 0 [zR 6 1, zR 10 v1, zI v2] [] p (hwV (bv6_movePeg F78 F147 F148 p v1 v2)) := by
  intro p v1 v2  hg H
  exact rwV (n := 3000) (q := 0) (la := [zR 6 1, zR 10 v1, zI v2]) (sa := []) (ks := []) (gs := []) (fcons o148 (fcons o78 (fcons o147 (fnil)))) tab101 pc101 trivial hg H
theorem t6_movePeg : ∀ (p : PM) (v1 : Nat) (v2 : Int32), Gr 0 p → g6_movePeg p v1 v2 → ZJ 0 101 0 [zR 6 1, zR 10 v1, zI v2] [] p (hwV (v6_movePeg p v1 v2)) := r6_movePeg v10_showable g10_showable ok148 v6_nextTurn g6_nextTurn ok78 v10_hold g10_hold ok147
def CC101 (F : PM → Nat → Int32 → PM) (G : PM → Nat → Int32 → Prop) : Cal := (101, [9, 13, 0], 0, false, fun as p => (zJ, (F p (ar as 1) (ai as 2))), fun as p => zsw (tc2 as [(106, 1), (14, 0), (0, 0)]) False (G p (ar as 1) (ai as 2)))
set_option maxRecDepth 100000 in
theorem okr101 (F : PM → Nat → Int32 → PM) (G : PM → Nat → Int32 → Prop) (h : ∀ (p : PM) (v1 : Nat) (v2 : Int32), Gr 0 p → G p v1 v2 → ZJ 0 101 0 [zR 6 1, zR 10 v1, zI v2] [] p (hwV (F p v1 v2))) : CalOK 0 (CC101 F G) := cal_ok (m := 3) (by unfold mL; rw [mX_101]) (fun as p hg H => h p (ar as 1) (ai as 2) hg H)
theorem ok101 : CalOK 0 (CC101 v6_movePeg g6_movePeg) := okr101 v6_movePeg g6_movePeg t6_movePeg
noncomputable def bv6_pricePegs_5 (F99 : PM → Int32 → Nat) (F100 : PM → Nat → Int32) (F101 : PM → Nat → Int32 → PM) (kv5 : PM → Int32 → Int32 → PM) (p : PM) (v1 : Int32) (v2 : Int32) : PM :=
  if v2 < (cn 40) then (
    if (F99 p v1) = 0 then (
      p)
    else (
      let x1 : Int32 := (p.1 10 (F99 p v1) 0)
      let p2 : PM := F101 p (F99 p v1) (F100 p (F99 p v1))
      kv5 p2 x1 (v2 + (cn 1))))
  else (
    p)
noncomputable def v6_pricePegs_5 (n : Nat) : PM → Int32 → Int32 → PM := Nat.rec (motive := fun _ => PM → Int32 → Int32 → PM) (fun p _ _ => p) (fun _ ih => bv6_pricePegs_5 v6_nextPeg v6_pegPrice v6_movePeg ih) n
theorem ev6_pricePegs_5 (n : Nat) (p : PM) (v1 : Int32) (v2 : Int32) : v6_pricePegs_5 (n + 1) p v1 v2 = bv6_pricePegs_5 v6_nextPeg v6_pegPrice v6_movePeg (v6_pricePegs_5 n) p v1 v2 := rfl
noncomputable def bg6_pricePegs_5 (F99 : PM → Int32 → Nat) (G99 : PM → Int32 → Prop) (F100 : PM → Nat → Int32) (G100 : PM → Nat → Prop) (F101 : PM → Nat → Int32 → PM) (G101 : PM → Nat → Int32 → Prop) (kg5 : PM → Int32 → Int32 → Prop) (p : PM) (v1 : Int32) (v2 : Int32) : Prop :=
  if v2 < (cn 40) then (
    (G99 p v1) ∧ (
    if (F99 p v1) = 0 then (
      True)
    else (
      (¬ (F99 p v1) = 0) ∧ (
      let x1 : Int32 := (p.1 10 (F99 p v1) 0)
      (G100 p (F99 p v1)) ∧ (
      (G101 p (F99 p v1) (F100 p (F99 p v1))) ∧ (
      let p2 : PM := F101 p (F99 p v1) (F100 p (F99 p v1))
      kg5 p2 x1 (v2 + (cn 1))))))))
  else (
    True)
noncomputable def g6_pricePegs_5 (n : Nat) : PM → Int32 → Int32 → Prop := Nat.rec (motive := fun _ => PM → Int32 → Int32 → Prop) (fun _ _ _ => False) (fun _ ih => bg6_pricePegs_5 v6_nextPeg g6_nextPeg v6_pegPrice g6_pegPrice v6_movePeg g6_movePeg ih) n
theorem eg6_pricePegs_5 (n : Nat) (p : PM) (v1 : Int32) (v2 : Int32) : g6_pricePegs_5 (n + 1) p v1 v2 = bg6_pricePegs_5 v6_nextPeg g6_nextPeg v6_pegPrice g6_pegPrice v6_movePeg g6_movePeg (g6_pricePegs_5 n) p v1 v2 := rfl
noncomputable def bv6_pricePegs (kv5 : PM → Int32 → Int32 → PM) (p : PM) : PM :=
  kv5 p (cn (-100000)) (cn 0)
noncomputable def v6_pricePegs (p : PM) : PM := bv6_pricePegs (v6_pricePegs_5 FU) p
noncomputable def bg6_pricePegs (kg5 : PM → Int32 → Int32 → Prop) (p : PM) : Prop :=
  kg5 p (cn (-100000)) (cn 0)
noncomputable def g6_pricePegs (p : PM) : Prop := bg6_pricePegs (g6_pricePegs_5 FU) p
def R98 : List Row := [(0, .ldc 71, 2, 0, (0, 0, 0, 0, 0, -100000)), (2, .istore_n 1, 1, 0, (0, 0, 0, 0, 0, 0)), (3, .iconst 0, 1, 0, (0, 0, 0, 0, 0, 0)), (4, .istore_n 2, 1, 0, (0, 0, 0, 0, 0, 0)), (5, .iload_n 2, 1, 1, (0, 0, 0, 0, 0, 0)), (6, .bipush 40, 2, 0, (0, 0, 0, 0, 0, 40)), (8, .if_icmp .ge 35, 3, 0, (0, 0, 0, 0, 0, 0)), (11, .aload_n 0, 1, 0, (0, 0, 0, 0, 0, 0)), (12, .iload_n 1, 1, 0, (0, 0, 0, 0, 0, 0)), (13, .invokevirtual 194, 3, 0, (0, 2, 0, 0, 1, 0)), (16, .astore_n 3, 1, 0, (0, 0, 0, 0, 0, 0)), (17, .aload_n 3, 1, 0, (0, 0, 0, 0, 0, 0)), (18, .ifnonnull 4, 3, 0, (0, 0, 0, 0, 0, 0)), (21, .return_, 1, 0, (0, 0, 0, 0, 0, 0)), (22, .aload_n 3, 1, 0, (0, 0, 0, 0, 0, 0)), (23, .getfield 45, 3, 0, (10, 0, 0, 0, 0, 0)), (26, .istore_n 1, 1, 0, (0, 0, 0, 0, 0, 0)), (27, .aload_n 0, 1, 0, (0, 0, 0, 0, 0, 0)), (28, .aload_n 3, 1, 0, (0, 0, 0, 0, 0, 0)), (29, .aload_n 0, 1, 0, (0, 0, 0, 0, 0, 0)), (30, .aload_n 3, 1, 0, (0, 0, 0, 0, 0, 0)), (31, .invokevirtual 197, 3, 0, (1, 2, 0, 0, 1, 0)), (34, .invokevirtual 201, 3, 0, (2, 3, 0, 0, 1, 0)), (37, .iinc 2 1, 3, 0, (0, 0, 0, 0, 0, 1)), (40, .goto (-35), 3, 0, (0, 0, 0, 0, 0, 0)), (43, .return_, 1, 0, (0, 0, 0, 0, 0, 0))]
set_option maxRecDepth 100000 in
theorem rk98 : R98.all (rok 0 98 0 [(99, [9, 0]), (100, [9, 13]), (101, [9, 13, 0])]) = true := by decide +kernel
set_option maxRecDepth 100000 in
theorem tab98 {F99 : PM → Int32 → Nat} {G99 : PM → Int32 → Prop} {F100 : PM → Nat → Int32} {G100 : PM → Nat → Prop} {F101 : PM → Nat → Int32 → PM} {G101 : PM → Nat → Int32 → Prop} : TabOK 0 98 0 [CC99 F99 G99, CC100 F100 G100, CC101 F101 G101] R98 := tab_ok (K := K98) rfl rfl (fun h => d98 h) rk98 (by decide +kernel)
set_option maxRecDepth 100000 in
theorem pc98 : cutpc [5] R98 = true := by decide +kernel
set_option maxRecDepth 100000 in
theorem r6_pricePegs_5 (F99 : PM → Int32 → Nat) (G99 : PM → Int32 → Prop) (o99 : CalOK 0 (CC99 F99 G99)) (F100 : PM → Nat → Int32) (G100 : PM → Nat → Prop) (o100 : CalOK 0 (CC100 F100 G100)) (F101 : PM → Nat → Int32 → PM) (G101 : PM → Nat → Int32 → Prop) (o101 : CalOK 0 (CC101 F101 G101)) (kv5 : PM → Int32 → Int32 → PM) (kg5 : PM → Int32 → Int32 → Prop) (hk5 : ∀ (p : PM) (v1 : Int32) (v2 : Int32) (d3 : ZV), Gr 0 p → kg5 p v1 v2 → ZJ 0 98 5 [zR 6 1, zI v1, zI v2, d3] [] p (hwV (kv5 p v1 v2))) : ∀ (p : PM) (v1 : Int32) (v2 : Int32) (d3 : ZV), Gr 0 p → bg6_pricePegs_5 F99 G99 F100 G100 F101 G101 kg5 p v1 v2 → ZJ 0 98 5 [zR 6 1, zI v1, zI v2, d3] [] p (hwV (bv6_pricePegs_5 F99 F100 F101 kv5 p v1 v2)) := by
  intro p v1 v2 d3 hg H
  exact rwV (n := 3000) (q := 5) (la := [zR 6 1, zI v1, zI v2, d3]) (sa := []) (ks := [fun la sa s => kv5 s (ai la 1) (ai la 2)]) (gs := [fun la sa s => zsw (tc2 la [(106, 1), (0, 0), (0, 0), (2, 0)] && tc2 sa []) False (kg5 s (ai la 1) (ai la 2))]) (fcons o99 (fcons o100 (fcons o101 (fnil)))) tab98 pc98 ⟨fun la sa s hg H => zcut H fun H => hk5 s (ai la 1) (ai la 2) (zld la 3) hg H, trivial⟩ hg H
theorem t6_pricePegs_5 : ∀ (n : Nat), ∀ (p : PM) (v1 : Int32) (v2 : Int32) (d3 : ZV), Gr 0 p → g6_pricePegs_5 n p v1 v2 → ZJ 0 98 5 [zR 6 1, zI v1, zI v2, d3] [] p (hwV (v6_pricePegs_5 n p v1 v2)) := by
  intro n
  induction n with
  | zero =>
    intro p v1 v2 d3 hg H
    exact H.elim
  | succ n ih => exact r6_pricePegs_5 v6_nextPeg g6_nextPeg ok99 v6_pegPrice g6_pegPrice ok100 v6_movePeg g6_movePeg ok101 (v6_pricePegs_5 n) (g6_pricePegs_5 n) ih
set_option maxRecDepth 100000 in
theorem r6_pricePegs (F99 : PM → Int32 → Nat) (G99 : PM → Int32 → Prop) (o99 : CalOK 0 (CC99 F99 G99)) (F100 : PM → Nat → Int32) (G100 : PM → Nat → Prop) (o100 : CalOK 0 (CC100 F100 G100)) (F101 : PM → Nat → Int32 → PM) (G101 : PM → Nat → Int32 → Prop) (o101 : CalOK 0 (CC101 F101 G101)) (kv5 : PM → Int32 → Int32 → PM) (kg5 : PM → Int32 → Int32 → Prop) (hk5 : ∀ (p : PM) (v1 : Int32) (v2 : Int32) (d3 : ZV), Gr 0 p → kg5 p v1 v2 → ZJ 0 98 5 [zR 6 1, zI v1, zI v2, d3] [] p (hwV (kv5 p v1 v2))) : ∀ (p : PM), Gr 0 p → bg6_pricePegs kg5 p → ZJ 0 98 0 [zR 6 1, zJ, zJ, zJ] [] p (hwV (bv6_pricePegs kv5 p)) := by
  intro p   hg H
  exact rwV (n := 3000) (q := 0) (la := [zR 6 1, zJ, zJ, zJ]) (sa := []) (ks := [fun la sa s => kv5 s (ai la 1) (ai la 2)]) (gs := [fun la sa s => zsw (tc2 la [(106, 1), (0, 0), (0, 0), (2, 0)] && tc2 sa []) False (kg5 s (ai la 1) (ai la 2))]) (fcons o99 (fcons o100 (fcons o101 (fnil)))) tab98 pc98 ⟨fun la sa s hg H => zcut H fun H => hk5 s (ai la 1) (ai la 2) (zld la 3) hg H, trivial⟩ hg H
theorem t6_pricePegs : ∀ (p : PM), Gr 0 p → g6_pricePegs p → ZJ 0 98 0 [zR 6 1, zJ, zJ, zJ] [] p (hwV (v6_pricePegs p)) := r6_pricePegs v6_nextPeg g6_nextPeg ok99 v6_pegPrice g6_pegPrice ok100 v6_movePeg g6_movePeg ok101 (v6_pricePegs_5 FU) (g6_pricePegs_5 FU) (t6_pricePegs_5 FU)
def CC98 (F : PM → PM) (G : PM → Prop) : Cal := (98, [9], 0, false, fun as p => (zJ, (F p )), fun as p => zsw (tc2 as [(106, 1)]) False (G p ))
set_option maxRecDepth 100000 in
theorem okr98 (F : PM → PM) (G : PM → Prop) (h : ∀ (p : PM), Gr 0 p → G p  → ZJ 0 98 0 [zR 6 1, zJ, zJ, zJ] [] p (hwV (F p ))) : CalOK 0 (CC98 F G) := cal_ok (m := 4) (by unfold mL; rw [mX_98]) (fun as p hg H => h p  hg H)
theorem ok98 : CalOK 0 (CC98 v6_pricePegs g6_pricePegs) := okr98 v6_pricePegs g6_pricePegs t6_pricePegs
noncomputable def bv5_work_2 (F46 : PM → Int32 → Int32 → Int32 × PM) (F47 : PM → Int32 → Int32 × PM) (F96 : PM → Nat) (F98 : PM → PM) (F107 : PM → Nat → Int32) (F121 : PM → Nat → PM) (kv2 : PM → Int32 → PM) (p : PM) (v1 : Int32) : PM :=
  if v1 < (cn 1000000) then (
    if (F96 p) = 0 then (
      let r2 : Int32 × PM := F46 p (cn 4) (cn 1)
      if r2.1 = 0 then (
        let r3 : Int32 × PM := F46 r2.2 (cn 4) (cn 0)
        if r3.1 = 0 then (
          let r4 : Int32 × PM := F46 r3.2 (cn 5) (cn 1)
          if r4.1 = 0 then (
            let r5 : Int32 × PM := F46 r4.2 (cn 5) (cn 0)
            if r5.1 = 0 then (
              let r6 : Int32 × PM := F47 r5.2 (cn 1)
              if r6.1 = 0 then (
                let r7 : Int32 × PM := F47 r6.2 (cn 0)
                if r7.1 = 0 then (
                  let p8 : PM := F98 r7.2
                  p8)
                else (
                  kv2 r7.2 (v1 + (cn 1))))
              else (
                kv2 r6.2 (v1 + (cn 1))))
            else (
              kv2 r5.2 (v1 + (cn 1))))
          else (
            kv2 r4.2 (v1 + (cn 1))))
        else (
          kv2 r3.2 (v1 + (cn 1))))
      else (
        kv2 r2.2 (v1 + (cn 1))))
    else (
      let p9 : PM := pI p 10 (F96 p) 15 (F107 p (p.2.2 10 (F96 p) 4))
      let p10 : PM := F121 p9 (F96 p)
      kv2 p10 (v1 + (cn 1))))
  else (
    let p1 : PM := F98 p
    p1)
noncomputable def v5_work_2 (n : Nat) : PM → Int32 → PM := Nat.rec (motive := fun _ => PM → Int32 → PM) (fun p _ => p) (fun _ ih => bv5_work_2 v3_makePair v3_makeChain v6_dueStop v6_pricePegs v7_latestOf v8_match ih) n
theorem ev5_work_2 (n : Nat) (p : PM) (v1 : Int32) : v5_work_2 (n + 1) p v1 = bv5_work_2 v3_makePair v3_makeChain v6_dueStop v6_pricePegs v7_latestOf v8_match (v5_work_2 n) p v1 := rfl
noncomputable def bg5_work_2 (F46 : PM → Int32 → Int32 → Int32 × PM) (G46 : PM → Int32 → Int32 → Prop) (F47 : PM → Int32 → Int32 × PM) (G47 : PM → Int32 → Prop) (F96 : PM → Nat) (G96 : PM → Prop) (F98 : PM → PM) (G98 : PM → Prop) (F107 : PM → Nat → Int32) (G107 : PM → Nat → Prop) (F121 : PM → Nat → PM) (G121 : PM → Nat → Prop) (kg2 : PM → Int32 → Prop) (p : PM) (v1 : Int32) : Prop :=
  if v1 < (cn 1000000) then (
    (G96 p) ∧ (
    if (F96 p) = 0 then (
      (G46 p (cn 4) (cn 1)) ∧ (
      let r2 : Int32 × PM := F46 p (cn 4) (cn 1)
      if r2.1 = 0 then (
        (G46 r2.2 (cn 4) (cn 0)) ∧ (
        let r3 : Int32 × PM := F46 r2.2 (cn 4) (cn 0)
        if r3.1 = 0 then (
          (G46 r3.2 (cn 5) (cn 1)) ∧ (
          let r4 : Int32 × PM := F46 r3.2 (cn 5) (cn 1)
          if r4.1 = 0 then (
            (G46 r4.2 (cn 5) (cn 0)) ∧ (
            let r5 : Int32 × PM := F46 r4.2 (cn 5) (cn 0)
            if r5.1 = 0 then (
              (G47 r5.2 (cn 1)) ∧ (
              let r6 : Int32 × PM := F47 r5.2 (cn 1)
              if r6.1 = 0 then (
                (G47 r6.2 (cn 0)) ∧ (
                let r7 : Int32 × PM := F47 r6.2 (cn 0)
                if r7.1 = 0 then (
                  (G98 r7.2) ∧ (
                  let p8 : PM := F98 r7.2
                  True))
                else (
                  kg2 r7.2 (v1 + (cn 1)))))
              else (
                kg2 r6.2 (v1 + (cn 1)))))
            else (
              kg2 r5.2 (v1 + (cn 1)))))
          else (
            kg2 r4.2 (v1 + (cn 1)))))
        else (
          kg2 r3.2 (v1 + (cn 1)))))
      else (
        kg2 r2.2 (v1 + (cn 1)))))
    else (
      (¬ (F96 p) = 0) ∧ (
      (G107 p (p.2.2 10 (F96 p) 4)) ∧ (
      (¬ (F96 p) = 0) ∧ (
      let p9 : PM := pI p 10 (F96 p) 15 (F107 p (p.2.2 10 (F96 p) 4))
      (G121 p9 (F96 p)) ∧ (
      let p10 : PM := F121 p9 (F96 p)
      kg2 p10 (v1 + (cn 1)))))))))
  else (
    (G98 p) ∧ (
    let p1 : PM := F98 p
    True))
noncomputable def g5_work_2 (n : Nat) : PM → Int32 → Prop := Nat.rec (motive := fun _ => PM → Int32 → Prop) (fun _ _ => False) (fun _ ih => bg5_work_2 v3_makePair g3_makePair v3_makeChain g3_makeChain v6_dueStop g6_dueStop v6_pricePegs g6_pricePegs v7_latestOf g7_latestOf v8_match g8_match ih) n
theorem eg5_work_2 (n : Nat) (p : PM) (v1 : Int32) : g5_work_2 (n + 1) p v1 = bg5_work_2 v3_makePair g3_makePair v3_makeChain g3_makeChain v6_dueStop g6_dueStop v6_pricePegs g6_pricePegs v7_latestOf g7_latestOf v8_match g8_match (g5_work_2 n) p v1 := rfl
noncomputable def bv5_work (kv2 : PM → Int32 → PM) (p : PM) : PM :=
  kv2 p (cn 0)
noncomputable def v5_work (p : PM) : PM := bv5_work (v5_work_2 FU) p
noncomputable def bg5_work (kg2 : PM → Int32 → Prop) (p : PM) : Prop :=
  kg2 p (cn 0)
noncomputable def g5_work (p : PM) : Prop := bg5_work (g5_work_2 FU) p
def R70 : List Row := [(0, .iconst 0, 1, 0, (0, 0, 0, 0, 0, 0)), (1, .istore_n 1, 1, 0, (0, 0, 0, 0, 0, 0)), (2, .iload_n 1, 1, 1, (0, 0, 0, 0, 0, 0)), (3, .ldc 227, 2, 0, (0, 0, 0, 0, 0, 1000000)), (5, .if_icmp .ge 120, 3, 0, (0, 0, 0, 0, 0, 0)), (8, .aload_n 0, 1, 0, (0, 0, 0, 0, 0, 0)), (9, .getfield 34, 3, 0, (5, 0, 9, 2, 1, 0)), (12, .invokevirtual 228, 3, 0, (1, 1, 0, 0, 1, 0)), (15, .astore_n 2, 1, 0, (0, 0, 0, 0, 0, 0)), (16, .aload_n 2, 1, 0, (0, 0, 0, 0, 0, 0)), (17, .ifnull 29, 3, 0, (0, 0, 0, 0, 0, 0)), (20, .aload_n 2, 1, 0, (0, 0, 0, 0, 0, 0)), (21, .aload_n 0, 1, 0, (0, 0, 0, 0, 0, 0)), (22, .getfield 19, 3, 0, (5, 1, 10, 2, 1, 0)), (25, .aload_n 2, 1, 0, (0, 0, 0, 0, 0, 0)), (26, .getfield 144, 3, 0, (10, 4, 4, 0, 0, 0)), (29, .invokevirtual 232, 3, 0, (4, 2, 0, 0, 1, 0)), (32, .putfield 236, 3, 0, (10, 15, 0, 0, 0, 0)), (35, .aload_n 0, 1, 0, (0, 0, 0, 0, 0, 0)), (36, .getfield 43, 3, 0, (5, 2, 11, 2, 1, 0)), (39, .aload_n 2, 1, 0, (0, 0, 0, 0, 0, 0)), (40, .invokevirtual 154, 3, 0, (5, 2, 0, 0, 1, 0)), (43, .goto 76, 3, 0, (0, 0, 0, 0, 0, 0)), (46, .aload_n 0, 1, 0, (0, 0, 0, 0, 0, 0)), (47, .getfield 50, 3, 0, (5, 3, 6, 2, 1, 0)), (50, .iconst 4, 1, 0, (0, 0, 0, 0, 0, 4)), (51, .iconst 1, 1, 0, (0, 0, 0, 0, 0, 1)), (52, .invokevirtual 239, 3, 0, (2, 3, 0, 0, 1, 0)), (55, .ifCond .ne 64, 3, 0, (0, 0, 0, 0, 0, 0)), (58, .aload_n 0, 1, 0, (0, 0, 0, 0, 0, 0)), (59, .getfield 50, 3, 0, (5, 3, 6, 2, 1, 0)), (62, .iconst 4, 1, 0, (0, 0, 0, 0, 0, 4)), (63, .iconst 0, 1, 0, (0, 0, 0, 0, 0, 0)), (64, .invokevirtual 239, 3, 0, (2, 3, 0, 0, 1, 0)), (67, .ifCond .ne 52, 3, 0, (0, 0, 0, 0, 0, 0)), (70, .aload_n 0, 1, 0, (0, 0, 0, 0, 0, 0)), (71, .getfield 50, 3, 0, (5, 3, 6, 2, 1, 0)), (74, .iconst 5, 1, 0, (0, 0, 0, 0, 0, 5)), (75, .iconst 1, 1, 0, (0, 0, 0, 0, 0, 1)), (76, .invokevirtual 239, 3, 0, (2, 3, 0, 0, 1, 0)), (79, .ifCond .ne 40, 3, 0, (0, 0, 0, 0, 0, 0)), (82, .aload_n 0, 1, 0, (0, 0, 0, 0, 0, 0)), (83, .getfield 50, 3, 0, (5, 3, 6, 2, 1, 0)), (86, .iconst 5, 1, 0, (0, 0, 0, 0, 0, 5)), (87, .iconst 0, 1, 0, (0, 0, 0, 0, 0, 0)), (88, .invokevirtual 239, 3, 0, (2, 3, 0, 0, 1, 0)), (91, .ifCond .ne 28, 3, 0, (0, 0, 0, 0, 0, 0)), (94, .aload_n 0, 1, 0, (0, 0, 0, 0, 0, 0)), (95, .getfield 50, 3, 0, (5, 3, 6, 2, 1, 0)), (98, .iconst 1, 1, 0, (0, 0, 0, 0, 0, 1)), (99, .invokevirtual 243, 3, 0, (3, 2, 0, 0, 1, 0)), (102, .ifCond .ne 17, 3, 0, (0, 0, 0, 0, 0, 0)), (105, .aload_n 0, 1, 0, (0, 0, 0, 0, 0, 0)), (106, .getfield 50, 3, 0, (5, 3, 6, 2, 1, 0)), (109, .iconst 0, 1, 0, (0, 0, 0, 0, 0, 0)), (110, .invokevirtual 243, 3, 0, (3, 2, 0, 0, 1, 0)), (113, .ifCond .ne 6, 3, 0, (0, 0, 0, 0, 0, 0)), (116, .goto 9, 3, 0, (0, 0, 0, 0, 0, 0)), (119, .iinc 1 1, 3, 0, (0, 0, 0, 0, 0, 1)), (122, .goto (-120), 3, 0, (0, 0, 0, 0, 0, 0)), (125, .aload_n 0, 1, 0, (0, 0, 0, 0, 0, 0)), (126, .getfield 34, 3, 0, (5, 0, 9, 2, 1, 0)), (129, .invokevirtual 247, 3, 0, (0, 1, 0, 0, 1, 0)), (132, .return_, 1, 0, (0, 0, 0, 0, 0, 0))]
set_option maxRecDepth 100000 in
theorem rk70 : R70.all (rok 0 70 0 [(98, [9]), (96, [9]), (46, [6, 0, 0]), (47, [6, 0]), (107, [10, 4]), (121, [11, 13])]) = true := by decide +kernel
set_option maxRecDepth 100000 in
theorem tab70 {F98 : PM → PM} {G98 : PM → Prop} {F96 : PM → Nat} {G96 : PM → Prop} {F46 : PM → Int32 → Int32 → Int32 × PM} {G46 : PM → Int32 → Int32 → Prop} {F47 : PM → Int32 → Int32 × PM} {G47 : PM → Int32 → Prop} {F107 : PM → Nat → Int32} {G107 : PM → Nat → Prop} {F121 : PM → Nat → PM} {G121 : PM → Nat → Prop} : TabOK 0 70 0 [CC98 F98 G98, CC96 F96 G96, CC46 F46 G46, CC47 F47 G47, CC107 F107 G107, CC121 F121 G121] R70 := tab_ok (K := K70) rfl rfl (fun h => d70 h) rk70 (by decide +kernel)
set_option maxRecDepth 100000 in
theorem pc70 : cutpc [2] R70 = true := by decide +kernel
set_option maxRecDepth 100000 in
theorem r5_work_2 (F98 : PM → PM) (G98 : PM → Prop) (o98 : CalOK 0 (CC98 F98 G98)) (F96 : PM → Nat) (G96 : PM → Prop) (o96 : CalOK 0 (CC96 F96 G96)) (F46 : PM → Int32 → Int32 → Int32 × PM) (G46 : PM → Int32 → Int32 → Prop) (o46 : CalOK 0 (CC46 F46 G46)) (F47 : PM → Int32 → Int32 × PM) (G47 : PM → Int32 → Prop) (o47 : CalOK 0 (CC47 F47 G47)) (F107 : PM → Nat → Int32) (G107 : PM → Nat → Prop) (o107 : CalOK 0 (CC107 F107 G107)) (F121 : PM → Nat → PM) (G121 : PM → Nat → Prop) (o121 : CalOK 0 (CC121 F121 G121)) (kv2 : PM → Int32 → PM) (kg2 : PM → Int32 → Prop) (hk2 : ∀ (p : PM) (v1 : Int32) (d2 : ZV), Gr 0 p → kg2 p v1 → ZJ 0 70 2 [zR 5 1, zI v1, d2] [] p (hwV (kv2 p v1))) : ∀ (p : PM) (v1 : Int32) (d2 : ZV), Gr 0 p → bg5_work_2 F46 G46 F47 G47 F96 G96 F98 G98 F107 G107 F121 G121 kg2 p v1 → ZJ 0 70 2 [zR 5 1, zI v1, d2] [] p (hwV (bv5_work_2 F46 F47 F96 F98 F107 F121 kv2 p v1)) := by
  intro p v1 d2 hg H
  exact rwV (n := 3000) (q := 2) (la := [zR 5 1, zI v1, d2]) (sa := []) (ks := [fun la sa s => kv2 s (ai la 1)]) (gs := [fun la sa s => zsw (tc2 la [(105, 1), (0, 0), (2, 0)] && tc2 sa []) False (kg2 s (ai la 1))]) (fcons o98 (fcons o96 (fcons o46 (fcons o47 (fcons o107 (fcons o121 (fnil))))))) tab70 pc70 ⟨fun la sa s hg H => zcut H fun H => hk2 s (ai la 1) (zld la 2) hg H, trivial⟩ hg H
theorem t5_work_2 : ∀ (n : Nat), ∀ (p : PM) (v1 : Int32) (d2 : ZV), Gr 0 p → g5_work_2 n p v1 → ZJ 0 70 2 [zR 5 1, zI v1, d2] [] p (hwV (v5_work_2 n p v1)) := by
  intro n
  induction n with
  | zero =>
    intro p v1 d2 hg H
    exact H.elim
  | succ n ih => exact r5_work_2 v6_pricePegs g6_pricePegs ok98 v6_dueStop g6_dueStop ok96 v3_makePair g3_makePair ok46 v3_makeChain g3_makeChain ok47 v7_latestOf g7_latestOf ok107 v8_match g8_match ok121 (v5_work_2 n) (g5_work_2 n) ih
set_option maxRecDepth 100000 in
theorem r5_work (F98 : PM → PM) (G98 : PM → Prop) (o98 : CalOK 0 (CC98 F98 G98)) (F96 : PM → Nat) (G96 : PM → Prop) (o96 : CalOK 0 (CC96 F96 G96)) (F46 : PM → Int32 → Int32 → Int32 × PM) (G46 : PM → Int32 → Int32 → Prop) (o46 : CalOK 0 (CC46 F46 G46)) (F47 : PM → Int32 → Int32 × PM) (G47 : PM → Int32 → Prop) (o47 : CalOK 0 (CC47 F47 G47)) (F107 : PM → Nat → Int32) (G107 : PM → Nat → Prop) (o107 : CalOK 0 (CC107 F107 G107)) (F121 : PM → Nat → PM) (G121 : PM → Nat → Prop) (o121 : CalOK 0 (CC121 F121 G121)) (kv2 : PM → Int32 → PM) (kg2 : PM → Int32 → Prop) (hk2 : ∀ (p : PM) (v1 : Int32) (d2 : ZV), Gr 0 p → kg2 p v1 → ZJ 0 70 2 [zR 5 1, zI v1, d2] [] p (hwV (kv2 p v1))) : ∀ (p : PM), Gr 0 p → bg5_work kg2 p → ZJ 0 70 0 [zR 5 1, zJ, zJ] [] p (hwV (bv5_work kv2 p)) := by
  intro p   hg H
  exact rwV (n := 3000) (q := 0) (la := [zR 5 1, zJ, zJ]) (sa := []) (ks := [fun la sa s => kv2 s (ai la 1)]) (gs := [fun la sa s => zsw (tc2 la [(105, 1), (0, 0), (2, 0)] && tc2 sa []) False (kg2 s (ai la 1))]) (fcons o98 (fcons o96 (fcons o46 (fcons o47 (fcons o107 (fcons o121 (fnil))))))) tab70 pc70 ⟨fun la sa s hg H => zcut H fun H => hk2 s (ai la 1) (zld la 2) hg H, trivial⟩ hg H
theorem t5_work : ∀ (p : PM), Gr 0 p → g5_work p → ZJ 0 70 0 [zR 5 1, zJ, zJ] [] p (hwV (v5_work p)) := r5_work v6_pricePegs g6_pricePegs ok98 v6_dueStop g6_dueStop ok96 v3_makePair g3_makePair ok46 v3_makeChain g3_makeChain ok47 v7_latestOf g7_latestOf ok107 v8_match g8_match ok121 (v5_work_2 FU) (g5_work_2 FU) (t5_work_2 FU)
def CC70 (F : PM → PM) (G : PM → Prop) : Cal := (70, [8], 0, false, fun as p => (zJ, (F p )), fun as p => zsw (tc2 as [(105, 1)]) False (G p ))
set_option maxRecDepth 100000 in
theorem okr70 (F : PM → PM) (G : PM → Prop) (h : ∀ (p : PM), Gr 0 p → G p  → ZJ 0 70 0 [zR 5 1, zJ, zJ] [] p (hwV (F p ))) : CalOK 0 (CC70 F G) := cal_ok (m := 3) (by unfold mL; rw [mX_70]) (fun as p hg H => h p  hg H)
theorem ok70 : CalOK 0 (CC70 v5_work g5_work) := okr70 v5_work g5_work t5_work
noncomputable def bv5_letPass_42 (F70 : PM → PM) (F129 : PM → Nat → Int32 × PM) (kv2 : PM → Int32 → Int32 → Int32 × PM) (kv42 : PM → Int32 → Int32 → Int32 → Int32 × PM) (p : PM) (v1 : Int32) (v2 : Int32) (v5 : Int32) : Int32 × PM :=
  if v5 < (cn 6) then (
    if (p.1 1 ((v5).toNatClampNeg + 1) 5) = 0 then (
      kv42 p v1 v2 (v5 + (cn 1)))
    else (
      if (p.1 6 1 2) < (p.1 1 ((v5).toNatClampNeg + 1) 7) then (
        kv42 p v1 v2 (v5 + (cn 1)))
      else (
        let r1 : Int32 × PM := F129 p ((v5).toNatClampNeg + 1)
        if r1.1 = 0 then (
          kv42 r1.2 v1 v2 (v5 + (cn 1)))
        else (
          let p2 : PM := F70 r1.2
          kv42 p2 v1 v2 (v5 + (cn 1))))))
  else (
    kv2 p v1 (v2 + (cn 1)))
noncomputable def v5_letPass_42 (kv2 : PM → Int32 → Int32 → Int32 × PM) (n : Nat) : PM → Int32 → Int32 → Int32 → Int32 × PM := Nat.rec (motive := fun _ => PM → Int32 → Int32 → Int32 → Int32 × PM) (fun p _ _ _ => (0, p)) (fun _ ih => bv5_letPass_42 v5_work v8_endAuction kv2 ih) n
theorem ev5_letPass_42 (kv2 : PM → Int32 → Int32 → Int32 × PM) (n : Nat) (p : PM) (v1 : Int32) (v2 : Int32) (v5 : Int32) : v5_letPass_42 kv2 (n + 1) p v1 v2 v5 = bv5_letPass_42 v5_work v8_endAuction kv2 (v5_letPass_42 kv2 n) p v1 v2 v5 := rfl
noncomputable def bg5_letPass_42 (F70 : PM → PM) (G70 : PM → Prop) (F129 : PM → Nat → Int32 × PM) (G129 : PM → Nat → Prop) (kg2 : PM → Int32 → Int32 → Prop) (kg42 : PM → Int32 → Int32 → Int32 → Prop) (p : PM) (v1 : Int32) (v2 : Int32) (v5 : Int32) : Prop :=
  if v5 < (cn 6) then (
    (inb v5 6) ∧ (
    if (p.1 1 ((v5).toNatClampNeg + 1) 5) = 0 then (
      kg42 p v1 v2 (v5 + (cn 1)))
    else (
      if (p.1 6 1 2) < (p.1 1 ((v5).toNatClampNeg + 1) 7) then (
        kg42 p v1 v2 (v5 + (cn 1)))
      else (
        (G129 p ((v5).toNatClampNeg + 1)) ∧ (
        let r1 : Int32 × PM := F129 p ((v5).toNatClampNeg + 1)
        if r1.1 = 0 then (
          kg42 r1.2 v1 v2 (v5 + (cn 1)))
        else (
          (G70 r1.2) ∧ (
          let p2 : PM := F70 r1.2
          kg42 p2 v1 v2 (v5 + (cn 1)))))))))
  else (
    kg2 p v1 (v2 + (cn 1)))
noncomputable def g5_letPass_42 (kg2 : PM → Int32 → Int32 → Prop) (n : Nat) : PM → Int32 → Int32 → Int32 → Prop := Nat.rec (motive := fun _ => PM → Int32 → Int32 → Int32 → Prop) (fun _ _ _ _ => False) (fun _ ih => bg5_letPass_42 v5_work g5_work v8_endAuction g8_endAuction kg2 ih) n
theorem eg5_letPass_42 (kg2 : PM → Int32 → Int32 → Prop) (n : Nat) (p : PM) (v1 : Int32) (v2 : Int32) (v5 : Int32) : g5_letPass_42 kg2 (n + 1) p v1 v2 v5 = bg5_letPass_42 v5_work g5_work v8_endAuction g8_endAuction kg2 (g5_letPass_42 kg2 n) p v1 v2 v5 := rfl
noncomputable def bv5_letPass_2 (F90 : PM → PM) (kv42 : PM → Int32 → Int32 → Int32 → Int32 × PM) (p : PM) (v1 : Int32) (v2 : Int32) : Int32 × PM :=
  if v2 < v1 then (
    let p1 : PM := pI p 6 1 2 ((p.1 6 1 2) + (cn 1))
    let p2 : PM := F90 p1
    kv42 p2 v1 v2 (cn 0))
  else (
    ((p.1 6 1 2), p))
noncomputable def v5_letPass_2 (n : Nat) : PM → Int32 → Int32 → Int32 × PM := Nat.rec (motive := fun _ => PM → Int32 → Int32 → Int32 × PM) (fun p _ _ => (0, p)) (fun _ ih => bv5_letPass_2 v6_countQuotes (v5_letPass_42 ih FU)) n
theorem ev5_letPass_2 (n : Nat) (p : PM) (v1 : Int32) (v2 : Int32) : v5_letPass_2 (n + 1) p v1 v2 = bv5_letPass_2 v6_countQuotes (v5_letPass_42 (v5_letPass_2 n) FU) p v1 v2 := rfl
noncomputable def bg5_letPass_2 (F90 : PM → PM) (G90 : PM → Prop) (kg42 : PM → Int32 → Int32 → Int32 → Prop) (p : PM) (v1 : Int32) (v2 : Int32) : Prop :=
  if v2 < v1 then (
    let p1 : PM := pI p 6 1 2 ((p.1 6 1 2) + (cn 1))
    (G90 p1) ∧ (
    let p2 : PM := F90 p1
    kg42 p2 v1 v2 (cn 0)))
  else (
    True)
noncomputable def g5_letPass_2 (n : Nat) : PM → Int32 → Int32 → Prop := Nat.rec (motive := fun _ => PM → Int32 → Int32 → Prop) (fun _ _ _ => False) (fun _ ih => bg5_letPass_2 v6_countQuotes g6_countQuotes (g5_letPass_42 ih FU)) n
theorem eg5_letPass_2 (n : Nat) (p : PM) (v1 : Int32) (v2 : Int32) : g5_letPass_2 (n + 1) p v1 v2 = bg5_letPass_2 v6_countQuotes g6_countQuotes (g5_letPass_42 (g5_letPass_2 n) FU) p v1 v2 := rfl
noncomputable def bv5_letPass (kv2 : PM → Int32 → Int32 → Int32 × PM) (p : PM) (v1 : Int32) : Int32 × PM :=
  kv2 p v1 (cn 0)
noncomputable def v5_letPass (p : PM) (v1 : Int32) : Int32 × PM := bv5_letPass (v5_letPass_2 FU) p v1
noncomputable def bg5_letPass (kg2 : PM → Int32 → Int32 → Prop) (p : PM) (v1 : Int32) : Prop :=
  kg2 p v1 (cn 0)
noncomputable def g5_letPass (p : PM) (v1 : Int32) : Prop := bg5_letPass (g5_letPass_2 FU) p v1
def R65 : List Row := [(0, .iconst 0, 1, 0, (0, 0, 0, 0, 0, 0)), (1, .istore_n 2, 1, 0, (0, 0, 0, 0, 0, 0)), (2, .iload_n 2, 1, 1, (0, 0, 0, 0, 0, 0)), (3, .iload_n 1, 1, 0, (0, 0, 0, 0, 0, 0)), (4, .if_icmp .ge 102, 3, 0, (0, 0, 0, 0, 0, 0)), (7, .aload_n 0, 1, 0, (0, 0, 0, 0, 0, 0)), (8, .getfield 34, 3, 0, (5, 0, 9, 2, 1, 0)), (11, .dup, 1, 0, (0, 0, 0, 0, 0, 0)), (12, .getfield 157, 3, 0, (6, 2, 0, 1, 0, 0)), (15, .iconst 1, 1, 0, (0, 0, 0, 0, 0, 1)), (16, .iadd, 1, 0, (0, 0, 0, 0, 0, 0)), (17, .putfield 157, 3, 0, (6, 2, 0, 1, 0, 0)), (20, .aload_n 0, 1, 0, (0, 0, 0, 0, 0, 0)), (21, .getfield 34, 3, 0, (5, 0, 9, 2, 1, 0)), (24, .invokevirtual 160, 3, 0, (0, 1, 0, 0, 1, 0)), (27, .aload_n 0, 1, 0, (0, 0, 0, 0, 0, 0)), (28, .getfield 34, 3, 0, (5, 0, 9, 2, 1, 0)), (31, .getfield 163, 3, 0, (6, 0, 20, 2, 1, 0)), (34, .astore_n 3, 1, 0, (0, 0, 0, 0, 0, 0)), (35, .aload_n 3, 1, 0, (0, 0, 0, 0, 0, 0)), (36, .arraylength, 1, 0, (17, 6, 0, 0, 0, 6)), (37, .istore 4, 2, 0, (0, 0, 0, 0, 0, 0)), (39, .iconst 0, 1, 0, (0, 0, 0, 0, 0, 0)), (40, .istore 5, 2, 0, (0, 0, 0, 0, 0, 0)), (42, .iload 5, 2, 2, (0, 0, 0, 0, 0, 0)), (44, .iload 4, 2, 0, (0, 0, 0, 0, 0, 0)), (46, .if_icmp .ge 54, 3, 0, (0, 0, 0, 0, 0, 0)), (49, .aload_n 3, 1, 0, (0, 0, 0, 0, 0, 0)), (50, .iload 5, 2, 0, (0, 0, 0, 0, 0, 0)), (52, .aaload, 1, 0, (17, 6, 0, 1, 1, 0)), (53, .astore 6, 2, 0, (0, 0, 0, 0, 0, 0)), (55, .aload 6, 2, 0, (0, 0, 0, 0, 0, 0)), (57, .getfield 148, 3, 0, (1, 5, 1, 1, 0, 0)), (60, .ifCond .eq 34, 3, 0, (0, 0, 0, 0, 0, 0)), (63, .aload 6, 2, 0, (0, 0, 0, 0, 0, 0)), (65, .getfield 167, 3, 0, (1, 7, 0, 1, 0, 0)), (68, .aload_n 0, 1, 0, (0, 0, 0, 0, 0, 0)), (69, .getfield 34, 3, 0, (5, 0, 9, 2, 1, 0)), (72, .getfield 157, 3, 0, (6, 2, 0, 1, 0, 0)), (75, .if_icmp .gt 19, 3, 0, (0, 0, 0, 0, 0, 0)), (78, .aload_n 0, 1, 0, (0, 0, 0, 0, 0, 0)), (79, .getfield 43, 3, 0, (5, 2, 11, 2, 1, 0)), (82, .aload 6, 2, 0, (0, 0, 0, 0, 0, 0)), (84, .invokevirtual 170, 3, 0, (1, 2, 0, 0, 1, 0)), (87, .ifCond .eq 7, 3, 0, (0, 0, 0, 0, 0, 0)), (90, .aload_n 0, 1, 0, (0, 0, 0, 0, 0, 0)), (91, .invokevirtual 174, 3, 0, (2, 1, 0, 0, 1, 0)), (94, .iinc 5 1, 3, 0, (0, 0, 0, 0, 0, 1)), (97, .goto (-55), 3, 0, (0, 0, 0, 0, 0, 0)), (100, .iinc 2 1, 3, 0, (0, 0, 0, 0, 0, 1)), (103, .goto (-101), 3, 0, (0, 0, 0, 0, 0, 0)), (106, .aload_n 0, 1, 0, (0, 0, 0, 0, 0, 0)), (107, .getfield 34, 3, 0, (5, 0, 9, 2, 1, 0)), (110, .getfield 157, 3, 0, (6, 2, 0, 1, 0, 0)), (113, .ireturn, 1, 0, (0, 0, 0, 0, 0, 0))]
set_option maxRecDepth 100000 in
theorem rk65 : R65.all (rok 0 65 1 [(90, [9]), (129, [11, 4]), (70, [8])]) = true := by decide +kernel
set_option maxRecDepth 100000 in
theorem tab65 {F90 : PM → PM} {G90 : PM → Prop} {F129 : PM → Nat → Int32 × PM} {G129 : PM → Nat → Prop} {F70 : PM → PM} {G70 : PM → Prop} : TabOK 0 65 1 [CC90 F90 G90, CC129 F129 G129, CC70 F70 G70] R65 := tab_ok (K := K65) rfl rfl (fun h => d65 h) rk65 (by decide +kernel)
set_option maxRecDepth 100000 in
theorem pc65 : cutpc [2, 42] R65 = true := by decide +kernel
set_option maxRecDepth 100000 in
theorem r5_letPass_42 (F90 : PM → PM) (G90 : PM → Prop) (o90 : CalOK 0 (CC90 F90 G90)) (F129 : PM → Nat → Int32 × PM) (G129 : PM → Nat → Prop) (o129 : CalOK 0 (CC129 F129 G129)) (F70 : PM → PM) (G70 : PM → Prop) (o70 : CalOK 0 (CC70 F70 G70)) (kv2 : PM → Int32 → Int32 → Int32 × PM) (kg2 : PM → Int32 → Int32 → Prop) (hk2 : ∀ (p : PM) (v1 : Int32) (v2 : Int32) (d3 d4 d5 d6 : ZV), Gr 0 p → kg2 p v1 v2 → ZJ 0 65 2 [zR 5 1, zI v1, zI v2, d3, d4, d5, d6] [] p (hwI (kv2 p v1 v2))) (kv42 : PM → Int32 → Int32 → Int32 → Int32 × PM) (kg42 : PM → Int32 → Int32 → Int32 → Prop) (hk42 : ∀ (p : PM) (v1 : Int32) (v2 : Int32) (v5 : Int32) (d6 : ZV), Gr 0 p → kg42 p v1 v2 v5 → ZJ 0 65 42 [zR 5 1, zI v1, zI v2, zR 17 1, zC 6, zI v5, d6] [] p (hwI (kv42 p v1 v2 v5))) : ∀ (p : PM) (v1 : Int32) (v2 : Int32) (v5 : Int32) (d6 : ZV), Gr 0 p → bg5_letPass_42 F70 G70 F129 G129 kg2 kg42 p v1 v2 v5 → ZJ 0 65 42 [zR 5 1, zI v1, zI v2, zR 17 1, zC 6, zI v5, d6] [] p (hwI (bv5_letPass_42 F70 F129 kv2 kv42 p v1 v2 v5)) := by
  intro p v1 v2 v5 d6 hg H
  exact rwI (n := 3000) (q := 42) (la := [zR 5 1, zI v1, zI v2, zR 17 1, zC 6, zI v5, d6]) (sa := []) (ks := [fun la sa s => kv2 s (ai la 1) (ai la 2), fun la sa s => kv42 s (ai la 1) (ai la 2) (ai la 5)]) (gs := [fun la sa s => zsw (tc2 la [(105, 1), (0, 0), (0, 0), (2, 0), (2, 0), (2, 0), (2, 0)] && tc2 sa []) False (kg2 s (ai la 1) (ai la 2)), fun la sa s => zsw (tc2 la [(105, 1), (0, 0), (0, 0), (117, 1), (3, 6), (0, 0), (2, 0)] && tc2 sa []) False (kg42 s (ai la 1) (ai la 2) (ai la 5))]) (fcons o90 (fcons o129 (fcons o70 (fnil)))) tab65 pc65 ⟨fun la sa s hg H => zcut H fun H => hk2 s (ai la 1) (ai la 2) (zld la 3) (zld la 4) (zld la 5) (zld la 6) hg H, fun la sa s hg H => zcut H fun H => hk42 s (ai la 1) (ai la 2) (ai la 5) (zld la 6) hg H, trivial⟩ hg H
theorem t5_letPass_42 (kv2 : PM → Int32 → Int32 → Int32 × PM) (kg2 : PM → Int32 → Int32 → Prop) (hk2 : ∀ (p : PM) (v1 : Int32) (v2 : Int32) (d3 d4 d5 d6 : ZV), Gr 0 p → kg2 p v1 v2 → ZJ 0 65 2 [zR 5 1, zI v1, zI v2, d3, d4, d5, d6] [] p (hwI (kv2 p v1 v2))) : ∀ (n : Nat), ∀ (p : PM) (v1 : Int32) (v2 : Int32) (v5 : Int32) (d6 : ZV), Gr 0 p → g5_letPass_42 kg2 n p v1 v2 v5 → ZJ 0 65 42 [zR 5 1, zI v1, zI v2, zR 17 1, zC 6, zI v5, d6] [] p (hwI (v5_letPass_42 kv2 n p v1 v2 v5)) := by
  intro n
  induction n with
  | zero =>
    intro p v1 v2 v5 d6 hg H
    exact H.elim
  | succ n ih => exact r5_letPass_42 v6_countQuotes g6_countQuotes ok90 v8_endAuction g8_endAuction ok129 v5_work g5_work ok70 kv2 kg2 hk2 (v5_letPass_42 kv2 n) (g5_letPass_42 kg2 n) ih
set_option maxRecDepth 100000 in
theorem r5_letPass_2 (F90 : PM → PM) (G90 : PM → Prop) (o90 : CalOK 0 (CC90 F90 G90)) (F129 : PM → Nat → Int32 × PM) (G129 : PM → Nat → Prop) (o129 : CalOK 0 (CC129 F129 G129)) (F70 : PM → PM) (G70 : PM → Prop) (o70 : CalOK 0 (CC70 F70 G70)) (kv42 : PM → Int32 → Int32 → Int32 → Int32 × PM) (kg42 : PM → Int32 → Int32 → Int32 → Prop) (hk42 : ∀ (p : PM) (v1 : Int32) (v2 : Int32) (v5 : Int32) (d6 : ZV), Gr 0 p → kg42 p v1 v2 v5 → ZJ 0 65 42 [zR 5 1, zI v1, zI v2, zR 17 1, zC 6, zI v5, d6] [] p (hwI (kv42 p v1 v2 v5))) : ∀ (p : PM) (v1 : Int32) (v2 : Int32) (d3 d4 d5 d6 : ZV), Gr 0 p → bg5_letPass_2 F90 G90 kg42 p v1 v2 → ZJ 0 65 2 [zR 5 1, zI v1, zI v2, d3, d4, d5, d6] [] p (hwI (bv5_letPass_2 F90 kv42 p v1 v2)) := by
  intro p v1 v2 d3 d4 d5 d6 hg H
  exact rwI (n := 3000) (q := 2) (la := [zR 5 1, zI v1, zI v2, d3, d4, d5, d6]) (sa := []) (ks := [fun _ _ s => (0, s), fun la sa s => kv42 s (ai la 1) (ai la 2) (ai la 5)]) (gs := [fun _ _ _ => False, fun la sa s => zsw (tc2 la [(105, 1), (0, 0), (0, 0), (117, 1), (3, 6), (0, 0), (2, 0)] && tc2 sa []) False (kg42 s (ai la 1) (ai la 2) (ai la 5))]) (fcons o90 (fcons o129 (fcons o70 (fnil)))) tab65 pc65 ⟨fun _ _ _ _ H => H.elim, fun la sa s hg H => zcut H fun H => hk42 s (ai la 1) (ai la 2) (ai la 5) (zld la 6) hg H, trivial⟩ hg H
theorem t5_letPass_2 : ∀ (n : Nat), ∀ (p : PM) (v1 : Int32) (v2 : Int32) (d3 d4 d5 d6 : ZV), Gr 0 p → g5_letPass_2 n p v1 v2 → ZJ 0 65 2 [zR 5 1, zI v1, zI v2, d3, d4, d5, d6] [] p (hwI (v5_letPass_2 n p v1 v2)) := by
  intro n
  induction n with
  | zero =>
    intro p v1 v2 d3 d4 d5 d6 hg H
    exact H.elim
  | succ n ih => exact r5_letPass_2 v6_countQuotes g6_countQuotes ok90 v8_endAuction g8_endAuction ok129 v5_work g5_work ok70 (v5_letPass_42 (v5_letPass_2 n) FU) (g5_letPass_42 (g5_letPass_2 n) FU) (t5_letPass_42 (v5_letPass_2 n) (g5_letPass_2 n) ih FU)
set_option maxRecDepth 100000 in
theorem r5_letPass (F90 : PM → PM) (G90 : PM → Prop) (o90 : CalOK 0 (CC90 F90 G90)) (F129 : PM → Nat → Int32 × PM) (G129 : PM → Nat → Prop) (o129 : CalOK 0 (CC129 F129 G129)) (F70 : PM → PM) (G70 : PM → Prop) (o70 : CalOK 0 (CC70 F70 G70)) (kv2 : PM → Int32 → Int32 → Int32 × PM) (kg2 : PM → Int32 → Int32 → Prop) (hk2 : ∀ (p : PM) (v1 : Int32) (v2 : Int32) (d3 d4 d5 d6 : ZV), Gr 0 p → kg2 p v1 v2 → ZJ 0 65 2 [zR 5 1, zI v1, zI v2, d3, d4, d5, d6] [] p (hwI (kv2 p v1 v2))) : ∀ (p : PM) (v1 : Int32), Gr 0 p → bg5_letPass kg2 p v1 → ZJ 0 65 0 [zR 5 1, zI v1, zJ, zJ, zJ, zJ, zJ] [] p (hwI (bv5_letPass kv2 p v1)) := by
  intro p v1  hg H
  exact rwI (n := 3000) (q := 0) (la := [zR 5 1, zI v1, zJ, zJ, zJ, zJ, zJ]) (sa := []) (ks := [fun la sa s => kv2 s (ai la 1) (ai la 2), fun _ _ s => (0, s)]) (gs := [fun la sa s => zsw (tc2 la [(105, 1), (0, 0), (0, 0), (2, 0), (2, 0), (2, 0), (2, 0)] && tc2 sa []) False (kg2 s (ai la 1) (ai la 2)), fun _ _ _ => False]) (fcons o90 (fcons o129 (fcons o70 (fnil)))) tab65 pc65 ⟨fun la sa s hg H => zcut H fun H => hk2 s (ai la 1) (ai la 2) (zld la 3) (zld la 4) (zld la 5) (zld la 6) hg H, fun _ _ _ _ H => H.elim, trivial⟩ hg H
theorem t5_letPass : ∀ (p : PM) (v1 : Int32), Gr 0 p → g5_letPass p v1 → ZJ 0 65 0 [zR 5 1, zI v1, zJ, zJ, zJ, zJ, zJ] [] p (hwI (v5_letPass p v1)) := r5_letPass v6_countQuotes g6_countQuotes ok90 v8_endAuction g8_endAuction ok129 v5_work g5_work ok70 (v5_letPass_2 FU) (g5_letPass_2 FU) (t5_letPass_2 FU)
def CC65 (F : PM → Int32 → Int32 × PM) (G : PM → Int32 → Prop) : Cal := (65, [8, 0], 1, false, fun as p => (zI (F p (ai as 1)).1, (F p (ai as 1)).2), fun as p => zsw (tc2 as [(105, 1), (0, 0)]) False (G p (ai as 1)))
set_option maxRecDepth 100000 in
theorem okr65 (F : PM → Int32 → Int32 × PM) (G : PM → Int32 → Prop) (h : ∀ (p : PM) (v1 : Int32), Gr 0 p → G p v1 → ZJ 0 65 0 [zR 5 1, zI v1, zJ, zJ, zJ, zJ, zJ] [] p (hwI (F p v1))) : CalOK 0 (CC65 F G) := cal_ok (m := 7) (by unfold mL; rw [mX_65]) (fun as p hg H => h p (ai as 1) hg H)
theorem ok65 : CalOK 0 (CC65 v5_letPass g5_letPass) := okr65 v5_letPass g5_letPass t5_letPass
noncomputable def bv7_reverse (F5 : PM → Nat → Nat → Int32 → Int32 → PM) (F106 : PM → Int32 → Nat) (F107 : PM → Nat → Int32) (p : PM) (v1 : Int32) : Int32 × PM :=
  if (F106 p v1) = 0 then (
    ((cn 0), p))
  else (
    let x1 : Nat := (p.2.2 4 (F106 p v1) 0)
    if (F107 p x1) = v1 then (
      let p5 : PM := pI p 4 (F106 p v1) 5 (cn 1)
      let p6 : PM := F5 p5 (p5.2.2 4 (F106 p v1) 1) x1 (-(p5.1 4 (F106 p v1) 4)) (p5.1 4 (F106 p v1) 3)
      let p7 : PM := F5 p6 (p6.2.2 4 (F106 p v1) 2) x1 (p6.1 4 (F106 p v1) 4) (p6.1 4 (F106 p v1) 3)
      let x8 : Nat := (F106 p7 (F107 p7 x1))
      if x8 = 0 then (
        let p10 : PM := pI p7 1 x1 3 (p7.1 1 x1 4)
        ((p10.1 1 x1 3), p10))
      else (
        let p9 : PM := pI p7 1 x1 3 (p7.1 4 x8 3)
        ((p9.1 1 x1 3), p9)))
    else (
      let p2 : PM := pI p 4 (F106 p v1) 5 (cn 1)
      let p3 : PM := F5 p2 (p2.2.2 4 (F106 p v1) 1) x1 (-(p2.1 4 (F106 p v1) 4)) (p2.1 4 (F106 p v1) 3)
      let p4 : PM := F5 p3 (p3.2.2 4 (F106 p v1) 2) x1 (p3.1 4 (F106 p v1) 4) (p3.1 4 (F106 p v1) 3)
      ((p4.1 1 x1 3), p4)))
noncomputable def v7_reverse (p : PM) (v1 : Int32) : Int32 × PM := bv7_reverse v0_take v7_find v7_latestOf p v1
noncomputable def bg7_reverse (F5 : PM → Nat → Nat → Int32 → Int32 → PM) (G5 : PM → Nat → Nat → Int32 → Int32 → Prop) (F106 : PM → Int32 → Nat) (G106 : PM → Int32 → Prop) (F107 : PM → Nat → Int32) (G107 : PM → Nat → Prop) (p : PM) (v1 : Int32) : Prop :=
  (G106 p v1) ∧ (
  if (F106 p v1) = 0 then (
    True)
  else (
    (¬ (F106 p v1) = 0) ∧ (
    let x1 : Nat := (p.2.2 4 (F106 p v1) 0)
    (G107 p x1) ∧ (
    if (F107 p x1) = v1 then (
      (¬ (F106 p v1) = 0) ∧ (
      let p5 : PM := pI p 4 (F106 p v1) 5 (cn 1)
      (¬ (F106 p v1) = 0) ∧ (
      (¬ (F106 p v1) = 0) ∧ (
      (¬ (F106 p v1) = 0) ∧ (
      (¬ (p5.2.2 4 (F106 p v1) 1) = 0) ∧ (
      (G5 p5 (p5.2.2 4 (F106 p v1) 1) x1 (-(p5.1 4 (F106 p v1) 4)) (p5.1 4 (F106 p v1) 3)) ∧ (
      let p6 : PM := F5 p5 (p5.2.2 4 (F106 p v1) 1) x1 (-(p5.1 4 (F106 p v1) 4)) (p5.1 4 (F106 p v1) 3)
      (¬ (F106 p v1) = 0) ∧ (
      (¬ (F106 p v1) = 0) ∧ (
      (¬ (F106 p v1) = 0) ∧ (
      (¬ (p6.2.2 4 (F106 p v1) 2) = 0) ∧ (
      (G5 p6 (p6.2.2 4 (F106 p v1) 2) x1 (p6.1 4 (F106 p v1) 4) (p6.1 4 (F106 p v1) 3)) ∧ (
      let p7 : PM := F5 p6 (p6.2.2 4 (F106 p v1) 2) x1 (p6.1 4 (F106 p v1) 4) (p6.1 4 (F106 p v1) 3)
      (G107 p7 x1) ∧ (
      (G106 p7 (F107 p7 x1)) ∧ (
      let x8 : Nat := (F106 p7 (F107 p7 x1))
      if x8 = 0 then (
        (¬ x1 = 0) ∧ (
        (¬ x1 = 0) ∧ (
        let p10 : PM := pI p7 1 x1 3 (p7.1 1 x1 4)
        (¬ x1 = 0) ∧ (
        True))))
      else (
        (¬ x8 = 0) ∧ (
        (¬ x1 = 0) ∧ (
        let p9 : PM := pI p7 1 x1 3 (p7.1 4 x8 3)
        (¬ x1 = 0) ∧ (
        True))))))))))))))))))
    else (
      (¬ (F106 p v1) = 0) ∧ (
      let p2 : PM := pI p 4 (F106 p v1) 5 (cn 1)
      (¬ (F106 p v1) = 0) ∧ (
      (¬ (F106 p v1) = 0) ∧ (
      (¬ (F106 p v1) = 0) ∧ (
      (¬ (p2.2.2 4 (F106 p v1) 1) = 0) ∧ (
      (G5 p2 (p2.2.2 4 (F106 p v1) 1) x1 (-(p2.1 4 (F106 p v1) 4)) (p2.1 4 (F106 p v1) 3)) ∧ (
      let p3 : PM := F5 p2 (p2.2.2 4 (F106 p v1) 1) x1 (-(p2.1 4 (F106 p v1) 4)) (p2.1 4 (F106 p v1) 3)
      (¬ (F106 p v1) = 0) ∧ (
      (¬ (F106 p v1) = 0) ∧ (
      (¬ (F106 p v1) = 0) ∧ (
      (¬ (p3.2.2 4 (F106 p v1) 2) = 0) ∧ (
      (G5 p3 (p3.2.2 4 (F106 p v1) 2) x1 (p3.1 4 (F106 p v1) 4) (p3.1 4 (F106 p v1) 3)) ∧ (
      let p4 : PM := F5 p3 (p3.2.2 4 (F106 p v1) 2) x1 (p3.1 4 (F106 p v1) 4) (p3.1 4 (F106 p v1) 3)
      (¬ x1 = 0) ∧ (
      True)))))))))))))))))
noncomputable def g7_reverse (p : PM) (v1 : Int32) : Prop := bg7_reverse v0_take g0_take v7_find g7_find v7_latestOf g7_latestOf p v1
def R108 : List Row := [(0, .aload_n 0, 1, 0, (0, 0, 0, 0, 0, 0)), (1, .iload_n 1, 1, 0, (0, 0, 0, 0, 0, 0)), (2, .invokevirtual 59, 3, 0, (0, 2, 0, 0, 1, 0)), (5, .astore_n 2, 1, 0, (0, 0, 0, 0, 0, 0)), (6, .aload_n 2, 1, 0, (0, 0, 0, 0, 0, 0)), (7, .ifnonnull 5, 3, 0, (0, 0, 0, 0, 0, 0)), (10, .iconst 0, 1, 0, (0, 0, 0, 0, 0, 0)), (11, .ireturn, 1, 0, (0, 0, 0, 0, 0, 0)), (12, .aload_n 2, 1, 0, (0, 0, 0, 0, 0, 0)), (13, .getfield 63, 3, 0, (4, 0, 4, 0, 0, 0)), (16, .astore_n 3, 1, 0, (0, 0, 0, 0, 0, 0)), (17, .aload_n 0, 1, 0, (0, 0, 0, 0, 0, 0)), (18, .aload_n 3, 1, 0, (0, 0, 0, 0, 0, 0)), (19, .invokevirtual 71, 3, 0, (1, 2, 0, 0, 1, 0)), (22, .iload_n 1, 1, 0, (0, 0, 0, 0, 0, 0)), (23, .if_icmp .ne 7, 3, 0, (0, 0, 0, 0, 0, 0)), (26, .iconst 1, 1, 0, (0, 0, 0, 0, 0, 1)), (27, .goto 4, 3, 0, (0, 0, 0, 0, 0, 0)), (30, .iconst 0, 1, 0, (0, 0, 0, 0, 0, 0)), (31, .istore 4, 2, 0, (0, 0, 0, 0, 0, 0)), (33, .aload_n 2, 1, 0, (0, 0, 0, 0, 0, 0)), (34, .iconst 1, 1, 0, (0, 0, 0, 0, 0, 1)), (35, .putfield 67, 3, 0, (4, 5, 1, 0, 0, 0)), (38, .aload_n 2, 1, 0, (0, 0, 0, 0, 0, 0)), (39, .getfield 75, 3, 0, (4, 1, 3, 0, 0, 0)), (42, .aload_n 3, 1, 0, (0, 0, 0, 0, 0, 0)), (43, .aload_n 2, 1, 0, (0, 0, 0, 0, 0, 0)), (44, .getfield 79, 3, 0, (4, 4, 0, 0, 0, 0)), (47, .ineg, 1, 0, (0, 0, 0, 0, 0, 0)), (48, .aload_n 2, 1, 0, (0, 0, 0, 0, 0, 0)), (49, .getfield 82, 3, 0, (4, 3, 0, 0, 0, 0)), (52, .invokevirtual 49, 3, 0, (2, 4, 0, 0, 2, 0)), (55, .aload_n 2, 1, 0, (0, 0, 0, 0, 0, 0)), (56, .getfield 85, 3, 0, (4, 2, 3, 0, 0, 0)), (59, .aload_n 3, 1, 0, (0, 0, 0, 0, 0, 0)), (60, .aload_n 2, 1, 0, (0, 0, 0, 0, 0, 0)), (61, .getfield 79, 3, 0, (4, 4, 0, 0, 0, 0)), (64, .aload_n 2, 1, 0, (0, 0, 0, 0, 0, 0)), (65, .getfield 82, 3, 0, (4, 3, 0, 0, 0, 0)), (68, .invokevirtual 49, 3, 0, (2, 4, 0, 0, 2, 0)), (71, .iload 4, 2, 0, (0, 0, 0, 0, 0, 0)), (73, .ifCond .eq 35, 3, 0, (0, 0, 0, 0, 0, 0)), (76, .aload_n 0, 1, 0, (0, 0, 0, 0, 0, 0)), (77, .aload_n 0, 1, 0, (0, 0, 0, 0, 0, 0)), (78, .aload_n 3, 1, 0, (0, 0, 0, 0, 0, 0)), (79, .invokevirtual 71, 3, 0, (1, 2, 0, 0, 1, 0)), (82, .invokevirtual 59, 3, 0, (0, 2, 0, 0, 1, 0)), (85, .astore 5, 2, 0, (0, 0, 0, 0, 0, 0)), (87, .aload_n 3, 1, 0, (0, 0, 0, 0, 0, 0)), (88, .aload 5, 2, 0, (0, 0, 0, 0, 0, 0)), (90, .ifnonnull 10, 3, 0, (0, 0, 0, 0, 0, 0)), (93, .aload_n 3, 1, 0, (0, 0, 0, 0, 0, 0)), (94, .getfield 88, 3, 0, (1, 4, 0, 0, 0, 0)), (97, .goto 8, 3, 0, (0, 0, 0, 0, 0, 0)), (100, .aload 5, 2, 0, (0, 0, 0, 0, 0, 0)), (102, .getfield 82, 3, 0, (4, 3, 0, 0, 0, 0)), (105, .putfield 44, 3, 0, (1, 3, 0, 0, 0, 0)), (108, .aload_n 3, 1, 0, (0, 0, 0, 0, 0, 0)), (109, .getfield 44, 3, 0, (1, 3, 0, 0, 0, 0)), (112, .ireturn, 1, 0, (0, 0, 0, 0, 0, 0))]
set_option maxRecDepth 100000 in
theorem rk108 : R108.all (rok 0 108 1 [(106, [10, 0]), (107, [10, 4]), (5, [3, 4, 0, 0])]) = true := by decide +kernel
set_option maxRecDepth 100000 in
theorem tab108 {F106 : PM → Int32 → Nat} {G106 : PM → Int32 → Prop} {F107 : PM → Nat → Int32} {G107 : PM → Nat → Prop} {F5 : PM → Nat → Nat → Int32 → Int32 → PM} {G5 : PM → Nat → Nat → Int32 → Int32 → Prop} : TabOK 0 108 1 [CC106 F106 G106, CC107 F107 G107, CC5 F5 G5] R108 := tab_ok (K := K108) rfl rfl (fun h => d108 h) rk108 (by decide +kernel)
set_option maxRecDepth 100000 in
theorem pc108 : cutpc [] R108 = true := by decide +kernel
set_option maxRecDepth 100000 in
theorem r7_reverse (F106 : PM → Int32 → Nat) (G106 : PM → Int32 → Prop) (o106 : CalOK 0 (CC106 F106 G106)) (F107 : PM → Nat → Int32) (G107 : PM → Nat → Prop) (o107 : CalOK 0 (CC107 F107 G107)) (F5 : PM → Nat → Nat → Int32 → Int32 → PM) (G5 : PM → Nat → Nat → Int32 → Int32 → Prop) (o5 : CalOK 0 (CC5 F5 G5)) : ∀ (p : PM) (v1 : Int32), Gr 0 p → bg7_reverse F5 G5 F106 G106 F107 G107 p v1 → ZJ 0 108 0 [zR 7 1, zI v1, zJ, zJ, zJ, zJ] [] p (hwI (bv7_reverse F5 F106 F107 p v1)) := by
  intro p v1  hg H
  exact rwI (n := 3000) (q := 0) (la := [zR 7 1, zI v1, zJ, zJ, zJ, zJ]) (sa := []) (ks := []) (gs := []) (fcons o106 (fcons o107 (fcons o5 (fnil)))) tab108 pc108 trivial hg H
theorem t7_reverse : ∀ (p : PM) (v1 : Int32), Gr 0 p → g7_reverse p v1 → ZJ 0 108 0 [zR 7 1, zI v1, zJ, zJ, zJ, zJ] [] p (hwI (v7_reverse p v1)) := r7_reverse v7_find g7_find ok106 v7_latestOf g7_latestOf ok107 v0_take g0_take ok5
def CC108 (F : PM → Int32 → Int32 × PM) (G : PM → Int32 → Prop) : Cal := (108, [10, 0], 1, false, fun as p => (zI (F p (ai as 1)).1, (F p (ai as 1)).2), fun as p => zsw (tc2 as [(107, 1), (0, 0)]) False (G p (ai as 1)))
set_option maxRecDepth 100000 in
theorem okr108 (F : PM → Int32 → Int32 × PM) (G : PM → Int32 → Prop) (h : ∀ (p : PM) (v1 : Int32), Gr 0 p → G p v1 → ZJ 0 108 0 [zR 7 1, zI v1, zJ, zJ, zJ, zJ] [] p (hwI (F p v1))) : CalOK 0 (CC108 F G) := cal_ok (m := 6) (by unfold mL; rw [mX_108]) (fun as p hg H => h p (ai as 1) hg H)
theorem ok108 : CalOK 0 (CC108 v7_reverse g7_reverse) := okr108 v7_reverse g7_reverse t7_reverse
noncomputable def bv6_holdStops_12 (F147 : PM → Nat → PM) (kv12 : PM → Nat → Int32 → Int32 → PM) (p : PM) (v1 : Nat) (v2 : Int32) (v5 : Int32) : PM :=
  if v5 < (cn 40) then (
    if (p.1 10 ((v5).toNatClampNeg + 1) 1) = (cn 2) then (
      if (p.1 10 ((v5).toNatClampNeg + 1) 2) = (cn 1) then (
        if (p.2.2 10 ((v5).toNatClampNeg + 1) 4) = v1 then (
          if (p.1 10 ((v5).toNatClampNeg + 1) 15) = v2 then (
            if (p.1 10 ((v5).toNatClampNeg + 1) 16) = 0 then (
              let p1 : PM := F147 p ((v5).toNatClampNeg + 1)
              kv12 p1 v1 v2 (v5 + (cn 1)))
            else (
              kv12 p v1 v2 (v5 + (cn 1))))
          else (
            kv12 p v1 v2 (v5 + (cn 1))))
        else (
          kv12 p v1 v2 (v5 + (cn 1))))
      else (
        kv12 p v1 v2 (v5 + (cn 1))))
    else (
      kv12 p v1 v2 (v5 + (cn 1))))
  else (
    p)
noncomputable def v6_holdStops_12 (n : Nat) : PM → Nat → Int32 → Int32 → PM := Nat.rec (motive := fun _ => PM → Nat → Int32 → Int32 → PM) (fun p _ _ _ => p) (fun _ ih => bv6_holdStops_12 v10_hold ih) n
theorem ev6_holdStops_12 (n : Nat) (p : PM) (v1 : Nat) (v2 : Int32) (v5 : Int32) : v6_holdStops_12 (n + 1) p v1 v2 v5 = bv6_holdStops_12 v10_hold (v6_holdStops_12 n) p v1 v2 v5 := rfl
noncomputable def bg6_holdStops_12 (F147 : PM → Nat → PM) (G147 : PM → Nat → Prop) (kg12 : PM → Nat → Int32 → Int32 → Prop) (p : PM) (v1 : Nat) (v2 : Int32) (v5 : Int32) : Prop :=
  if v5 < (cn 40) then (
    (inb v5 40) ∧ (
    if (p.1 10 ((v5).toNatClampNeg + 1) 1) = (cn 2) then (
      if (p.1 10 ((v5).toNatClampNeg + 1) 2) = (cn 1) then (
        if (p.2.2 10 ((v5).toNatClampNeg + 1) 4) = v1 then (
          if (p.1 10 ((v5).toNatClampNeg + 1) 15) = v2 then (
            if (p.1 10 ((v5).toNatClampNeg + 1) 16) = 0 then (
              (G147 p ((v5).toNatClampNeg + 1)) ∧ (
              let p1 : PM := F147 p ((v5).toNatClampNeg + 1)
              kg12 p1 v1 v2 (v5 + (cn 1))))
            else (
              kg12 p v1 v2 (v5 + (cn 1))))
          else (
            kg12 p v1 v2 (v5 + (cn 1))))
        else (
          kg12 p v1 v2 (v5 + (cn 1))))
      else (
        kg12 p v1 v2 (v5 + (cn 1))))
    else (
      kg12 p v1 v2 (v5 + (cn 1)))))
  else (
    True)
noncomputable def g6_holdStops_12 (n : Nat) : PM → Nat → Int32 → Int32 → Prop := Nat.rec (motive := fun _ => PM → Nat → Int32 → Int32 → Prop) (fun _ _ _ _ => False) (fun _ ih => bg6_holdStops_12 v10_hold g10_hold ih) n
theorem eg6_holdStops_12 (n : Nat) (p : PM) (v1 : Nat) (v2 : Int32) (v5 : Int32) : g6_holdStops_12 (n + 1) p v1 v2 v5 = bg6_holdStops_12 v10_hold g10_hold (g6_holdStops_12 n) p v1 v2 v5 := rfl
noncomputable def bv6_holdStops (kv12 : PM → Nat → Int32 → Int32 → PM) (p : PM) (v1 : Nat) (v2 : Int32) : PM :=
  kv12 p v1 v2 (cn 0)
noncomputable def v6_holdStops (p : PM) (v1 : Nat) (v2 : Int32) : PM := bv6_holdStops (v6_holdStops_12 FU) p v1 v2
noncomputable def bg6_holdStops (kg12 : PM → Nat → Int32 → Int32 → Prop) (p : PM) (v1 : Nat) (v2 : Int32) : Prop :=
  kg12 p v1 v2 (cn 0)
noncomputable def g6_holdStops (p : PM) (v1 : Nat) (v2 : Int32) : Prop := bg6_holdStops (g6_holdStops_12 FU) p v1 v2
def R97 : List Row := [(0, .aload_n 0, 1, 0, (0, 0, 0, 0, 0, 0)), (1, .getfield 11, 3, 0, (6, 1, 23, 2, 1, 0)), (4, .astore_n 3, 1, 0, (0, 0, 0, 0, 0, 0)), (5, .aload_n 3, 1, 0, (0, 0, 0, 0, 0, 0)), (6, .arraylength, 1, 0, (20, 40, 0, 0, 0, 40)), (7, .istore 4, 2, 0, (0, 0, 0, 0, 0, 0)), (9, .iconst 0, 1, 0, (0, 0, 0, 0, 0, 0)), (10, .istore 5, 2, 0, (0, 0, 0, 0, 0, 0)), (12, .iload 5, 2, 1, (0, 0, 0, 0, 0, 0)), (14, .iload 4, 2, 0, (0, 0, 0, 0, 0, 0)), (16, .if_icmp .ge 64, 3, 0, (0, 0, 0, 0, 0, 0)), (19, .aload_n 3, 1, 0, (0, 0, 0, 0, 0, 0)), (20, .iload 5, 2, 0, (0, 0, 0, 0, 0, 0)), (22, .aaload, 1, 0, (20, 40, 0, 1, 1, 0)), (23, .astore 6, 2, 0, (0, 0, 0, 0, 0, 0)), (25, .aload 6, 2, 0, (0, 0, 0, 0, 0, 0)), (27, .getfield 76, 3, 0, (10, 1, 0, 1, 0, 0)), (30, .iconst 2, 1, 0, (0, 0, 0, 0, 0, 2)), (31, .if_icmp .ne 43, 3, 0, (0, 0, 0, 0, 0, 0)), (34, .aload 6, 2, 0, (0, 0, 0, 0, 0, 0)), (36, .getfield 29, 3, 0, (10, 2, 0, 1, 0, 0)), (39, .iconst 1, 1, 0, (0, 0, 0, 0, 0, 1)), (40, .if_icmp .ne 34, 3, 0, (0, 0, 0, 0, 0, 0)), (43, .aload 6, 2, 0, (0, 0, 0, 0, 0, 0)), (45, .getfield 130, 3, 0, (10, 4, 4, 1, 0, 0)), (48, .aload_n 1, 1, 0, (0, 0, 0, 0, 0, 0)), (49, .if_acmp .ne 25, 3, 0, (0, 0, 0, 0, 0, 0)), (52, .aload 6, 2, 0, (0, 0, 0, 0, 0, 0)), (54, .getfield 185, 3, 0, (10, 15, 0, 1, 0, 0)), (57, .iload_n 2, 1, 0, (0, 0, 0, 0, 0, 0)), (58, .if_icmp .ne 16, 3, 0, (0, 0, 0, 0, 0, 0)), (61, .aload 6, 2, 0, (0, 0, 0, 0, 0, 0)), (63, .getfield 188, 3, 0, (10, 16, 1, 1, 0, 0)), (66, .ifCond .ne 8, 3, 0, (0, 0, 0, 0, 0, 0)), (69, .aload 6, 2, 0, (0, 0, 0, 0, 0, 0)), (71, .invokevirtual 191, 3, 0, (0, 1, 0, 0, 1, 0)), (74, .iinc 5 1, 3, 0, (0, 0, 0, 0, 0, 1)), (77, .goto (-65), 3, 0, (0, 0, 0, 0, 0, 0)), (80, .return_, 1, 0, (0, 0, 0, 0, 0, 0))]
set_option maxRecDepth 100000 in
theorem rk97 : R97.all (rok 0 97 0 [(147, [13])]) = true := by decide +kernel
set_option maxRecDepth 100000 in
theorem tab97 {F147 : PM → Nat → PM} {G147 : PM → Nat → Prop} : TabOK 0 97 0 [CC147 F147 G147] R97 := tab_ok (K := K97) rfl rfl (fun h => d97 h) rk97 (by decide +kernel)
set_option maxRecDepth 100000 in
theorem pc97 : cutpc [12] R97 = true := by decide +kernel
set_option maxRecDepth 100000 in
theorem r6_holdStops_12 (F147 : PM → Nat → PM) (G147 : PM → Nat → Prop) (o147 : CalOK 0 (CC147 F147 G147)) (kv12 : PM → Nat → Int32 → Int32 → PM) (kg12 : PM → Nat → Int32 → Int32 → Prop) (hk12 : ∀ (p : PM) (v1 : Nat) (v2 : Int32) (v5 : Int32) (d0 d6 : ZV), Gr 0 p → kg12 p v1 v2 v5 → ZJ 0 97 12 [d0, zR 1 v1, zI v2, zR 20 1, zC 40, zI v5, d6] [] p (hwV (kv12 p v1 v2 v5))) : ∀ (p : PM) (v1 : Nat) (v2 : Int32) (v5 : Int32) (d0 d6 : ZV), Gr 0 p → bg6_holdStops_12 F147 G147 kg12 p v1 v2 v5 → ZJ 0 97 12 [d0, zR 1 v1, zI v2, zR 20 1, zC 40, zI v5, d6] [] p (hwV (bv6_holdStops_12 F147 kv12 p v1 v2 v5)) := by
  intro p v1 v2 v5 d0 d6 hg H
  exact rwV (n := 3000) (q := 12) (la := [d0, zR 1 v1, zI v2, zR 20 1, zC 40, zI v5, d6]) (sa := []) (ks := [fun la sa s => kv12 s (ar la 1) (ai la 2) (ai la 5)]) (gs := [fun la sa s => zsw (tc2 la [(2, 0), (5, 0), (0, 0), (120, 1), (3, 40), (0, 0), (2, 0)] && tc2 sa []) False (kg12 s (ar la 1) (ai la 2) (ai la 5))]) (fcons o147 (fnil)) tab97 pc97 ⟨fun la sa s hg H => zcut H fun H => hk12 s (ar la 1) (ai la 2) (ai la 5) (zld la 0) (zld la 6) hg H, trivial⟩ hg H
theorem t6_holdStops_12 : ∀ (n : Nat), ∀ (p : PM) (v1 : Nat) (v2 : Int32) (v5 : Int32) (d0 d6 : ZV), Gr 0 p → g6_holdStops_12 n p v1 v2 v5 → ZJ 0 97 12 [d0, zR 1 v1, zI v2, zR 20 1, zC 40, zI v5, d6] [] p (hwV (v6_holdStops_12 n p v1 v2 v5)) := by
  intro n
  induction n with
  | zero =>
    intro p v1 v2 v5 d0 d6 hg H
    exact H.elim
  | succ n ih => exact r6_holdStops_12 v10_hold g10_hold ok147 (v6_holdStops_12 n) (g6_holdStops_12 n) ih
set_option maxRecDepth 100000 in
theorem r6_holdStops (F147 : PM → Nat → PM) (G147 : PM → Nat → Prop) (o147 : CalOK 0 (CC147 F147 G147)) (kv12 : PM → Nat → Int32 → Int32 → PM) (kg12 : PM → Nat → Int32 → Int32 → Prop) (hk12 : ∀ (p : PM) (v1 : Nat) (v2 : Int32) (v5 : Int32) (d0 d6 : ZV), Gr 0 p → kg12 p v1 v2 v5 → ZJ 0 97 12 [d0, zR 1 v1, zI v2, zR 20 1, zC 40, zI v5, d6] [] p (hwV (kv12 p v1 v2 v5))) : ∀ (p : PM) (v1 : Nat) (v2 : Int32), Gr 0 p → bg6_holdStops kg12 p v1 v2 → ZJ 0 97 0 [zR 6 1, zR 1 v1, zI v2, zJ, zJ, zJ, zJ] [] p (hwV (bv6_holdStops kv12 p v1 v2)) := by
  intro p v1 v2  hg H
  exact rwV (n := 3000) (q := 0) (la := [zR 6 1, zR 1 v1, zI v2, zJ, zJ, zJ, zJ]) (sa := []) (ks := [fun la sa s => kv12 s (ar la 1) (ai la 2) (ai la 5)]) (gs := [fun la sa s => zsw (tc2 la [(2, 0), (5, 0), (0, 0), (120, 1), (3, 40), (0, 0), (2, 0)] && tc2 sa []) False (kg12 s (ar la 1) (ai la 2) (ai la 5))]) (fcons o147 (fnil)) tab97 pc97 ⟨fun la sa s hg H => zcut H fun H => hk12 s (ar la 1) (ai la 2) (ai la 5) (zld la 0) (zld la 6) hg H, trivial⟩ hg H
theorem t6_holdStops : ∀ (p : PM) (v1 : Nat) (v2 : Int32), Gr 0 p → g6_holdStops p v1 v2 → ZJ 0 97 0 [zR 6 1, zR 1 v1, zI v2, zJ, zJ, zJ, zJ] [] p (hwV (v6_holdStops p v1 v2)) := r6_holdStops v10_hold g10_hold ok147 (v6_holdStops_12 FU) (g6_holdStops_12 FU) (t6_holdStops_12 FU)
def CC97 (F : PM → Nat → Int32 → PM) (G : PM → Nat → Int32 → Prop) : Cal := (97, [9, 4, 0], 0, false, fun as p => (zJ, (F p (ar as 1) (ai as 2))), fun as p => zsw (tc2 as [(106, 1), (5, 0), (0, 0)]) False (G p (ar as 1) (ai as 2)))
set_option maxRecDepth 100000 in
theorem okr97 (F : PM → Nat → Int32 → PM) (G : PM → Nat → Int32 → Prop) (h : ∀ (p : PM) (v1 : Nat) (v2 : Int32), Gr 0 p → G p v1 v2 → ZJ 0 97 0 [zR 6 1, zR 1 v1, zI v2, zJ, zJ, zJ, zJ] [] p (hwV (F p v1 v2))) : CalOK 0 (CC97 F G) := cal_ok (m := 7) (by unfold mL; rw [mX_97]) (fun as p hg H => h p (ar as 1) (ai as 2) hg H)
theorem ok97 : CalOK 0 (CC97 v6_holdStops g6_holdStops) := okr97 v6_holdStops g6_holdStops t6_holdStops
noncomputable def bv5_undo (F97 : PM → Nat → Int32 → PM) (F106 : PM → Int32 → Nat) (F108 : PM → Int32 → Int32 × PM) (p : PM) (v1 : Int32) : Int32 × PM :=
  let r1 : Int32 × PM := F108 p v1
  if (F106 r1.2 v1) = 0 then (
    (r1.1, r1.2))
  else (
    let p2 : PM := F97 r1.2 (r1.2.2.2 4 (F106 r1.2 v1) 0) v1
    (r1.1, p2))
noncomputable def v5_undo (p : PM) (v1 : Int32) : Int32 × PM := bv5_undo v6_holdStops v7_find v7_reverse p v1
noncomputable def bg5_undo (F97 : PM → Nat → Int32 → PM) (G97 : PM → Nat → Int32 → Prop) (F106 : PM → Int32 → Nat) (G106 : PM → Int32 → Prop) (F108 : PM → Int32 → Int32 × PM) (G108 : PM → Int32 → Prop) (p : PM) (v1 : Int32) : Prop :=
  (G108 p v1) ∧ (
  let r1 : Int32 × PM := F108 p v1
  (G106 r1.2 v1) ∧ (
  if (F106 r1.2 v1) = 0 then (
    True)
  else (
    (¬ (F106 r1.2 v1) = 0) ∧ (
    (G97 r1.2 (r1.2.2.2 4 (F106 r1.2 v1) 0) v1) ∧ (
    let p2 : PM := F97 r1.2 (r1.2.2.2 4 (F106 r1.2 v1) 0) v1
    True)))))
noncomputable def g5_undo (p : PM) (v1 : Int32) : Prop := bg5_undo v6_holdStops g6_holdStops v7_find g7_find v7_reverse g7_reverse p v1
def R66 : List Row := [(0, .aload_n 0, 1, 0, (0, 0, 0, 0, 0, 0)), (1, .getfield 19, 3, 0, (5, 1, 10, 2, 1, 0)), (4, .iload_n 1, 1, 0, (0, 0, 0, 0, 0, 0)), (5, .invokevirtual 177, 3, 0, (0, 2, 0, 0, 1, 0)), (8, .istore_n 2, 1, 0, (0, 0, 0, 0, 0, 0)), (9, .aload_n 0, 1, 0, (0, 0, 0, 0, 0, 0)), (10, .getfield 19, 3, 0, (5, 1, 10, 2, 1, 0)), (13, .iload_n 1, 1, 0, (0, 0, 0, 0, 0, 0)), (14, .invokevirtual 181, 3, 0, (1, 2, 0, 0, 1, 0)), (17, .astore_n 3, 1, 0, (0, 0, 0, 0, 0, 0)), (18, .aload_n 3, 1, 0, (0, 0, 0, 0, 0, 0)), (19, .ifnull 15, 3, 0, (0, 0, 0, 0, 0, 0)), (22, .aload_n 0, 1, 0, (0, 0, 0, 0, 0, 0)), (23, .getfield 34, 3, 0, (5, 0, 9, 2, 1, 0)), (26, .aload_n 3, 1, 0, (0, 0, 0, 0, 0, 0)), (27, .getfield 185, 3, 0, (4, 0, 4, 0, 0, 0)), (30, .iload_n 1, 1, 0, (0, 0, 0, 0, 0, 0)), (31, .invokevirtual 188, 3, 0, (2, 3, 0, 0, 1, 0)), (34, .iload_n 2, 1, 0, (0, 0, 0, 0, 0, 0)), (35, .ireturn, 1, 0, (0, 0, 0, 0, 0, 0))]
set_option maxRecDepth 100000 in
theorem rk66 : R66.all (rok 0 66 1 [(108, [10, 0]), (106, [10, 0]), (97, [9, 4, 0])]) = true := by decide +kernel
set_option maxRecDepth 100000 in
theorem tab66 {F108 : PM → Int32 → Int32 × PM} {G108 : PM → Int32 → Prop} {F106 : PM → Int32 → Nat} {G106 : PM → Int32 → Prop} {F97 : PM → Nat → Int32 → PM} {G97 : PM → Nat → Int32 → Prop} : TabOK 0 66 1 [CC108 F108 G108, CC106 F106 G106, CC97 F97 G97] R66 := tab_ok (K := K66) rfl rfl (fun h => d66 h) rk66 (by decide +kernel)
set_option maxRecDepth 100000 in
theorem pc66 : cutpc [] R66 = true := by decide +kernel
set_option maxRecDepth 100000 in
theorem r5_undo (F108 : PM → Int32 → Int32 × PM) (G108 : PM → Int32 → Prop) (o108 : CalOK 0 (CC108 F108 G108)) (F106 : PM → Int32 → Nat) (G106 : PM → Int32 → Prop) (o106 : CalOK 0 (CC106 F106 G106)) (F97 : PM → Nat → Int32 → PM) (G97 : PM → Nat → Int32 → Prop) (o97 : CalOK 0 (CC97 F97 G97)) : ∀ (p : PM) (v1 : Int32), Gr 0 p → bg5_undo F97 G97 F106 G106 F108 G108 p v1 → ZJ 0 66 0 [zR 5 1, zI v1, zJ, zJ] [] p (hwI (bv5_undo F97 F106 F108 p v1)) := by
  intro p v1  hg H
  exact rwI (n := 3000) (q := 0) (la := [zR 5 1, zI v1, zJ, zJ]) (sa := []) (ks := []) (gs := []) (fcons o108 (fcons o106 (fcons o97 (fnil)))) tab66 pc66 trivial hg H
theorem t5_undo : ∀ (p : PM) (v1 : Int32), Gr 0 p → g5_undo p v1 → ZJ 0 66 0 [zR 5 1, zI v1, zJ, zJ] [] p (hwI (v5_undo p v1)) := r5_undo v7_reverse g7_reverse ok108 v7_find g7_find ok106 v6_holdStops g6_holdStops ok97
def CC66 (F : PM → Int32 → Int32 × PM) (G : PM → Int32 → Prop) : Cal := (66, [8, 0], 1, false, fun as p => (zI (F p (ai as 1)).1, (F p (ai as 1)).2), fun as p => zsw (tc2 as [(105, 1), (0, 0)]) False (G p (ai as 1)))
set_option maxRecDepth 100000 in
theorem okr66 (F : PM → Int32 → Int32 × PM) (G : PM → Int32 → Prop) (h : ∀ (p : PM) (v1 : Int32), Gr 0 p → G p v1 → ZJ 0 66 0 [zR 5 1, zI v1, zJ, zJ] [] p (hwI (F p v1))) : CalOK 0 (CC66 F G) := cal_ok (m := 4) (by unfold mL; rw [mX_66]) (fun as p hg H => h p (ai as 1) hg H)
theorem ok66 : CalOK 0 (CC66 v5_undo g5_undo) := okr66 v5_undo g5_undo t5_undo
noncomputable def bv6_withdrawContract_14 (F12 : PM → Nat → Int32 → Int32) (kv14 : PM → Int32 → Int32 → Int32 → Int32 × PM) (p : PM) (v1 : Int32) (v2 : Int32) (v5 : Int32) : Int32 × PM :=
  if v5 < (cn 40) then (
    if (p.1 10 ((v5).toNatClampNeg + 1) 2) = 0 then (
      kv14 p v1 v2 (v5 + (cn 1)))
    else (
      if (F12 p (p.2.2 10 ((v5).toNatClampNeg + 1) 4) v1) = 0 then (
        kv14 p v1 v2 (v5 + (cn 1)))
      else (
        let p1 : PM := pI p 10 ((v5).toNatClampNeg + 1) 2 (cn 0)
        kv14 p1 v1 (v2 + (cn 1)) (v5 + (cn 1)))))
  else (
    (v2, p))
noncomputable def v6_withdrawContract_14 (n : Nat) : PM → Int32 → Int32 → Int32 → Int32 × PM := Nat.rec (motive := fun _ => PM → Int32 → Int32 → Int32 → Int32 × PM) (fun p _ _ _ => (0, p)) (fun _ ih => bv6_withdrawContract_14 v1_hasContract ih) n
theorem ev6_withdrawContract_14 (n : Nat) (p : PM) (v1 : Int32) (v2 : Int32) (v5 : Int32) : v6_withdrawContract_14 (n + 1) p v1 v2 v5 = bv6_withdrawContract_14 v1_hasContract (v6_withdrawContract_14 n) p v1 v2 v5 := rfl
noncomputable def bg6_withdrawContract_14 (F12 : PM → Nat → Int32 → Int32) (G12 : PM → Nat → Int32 → Prop) (kg14 : PM → Int32 → Int32 → Int32 → Prop) (p : PM) (v1 : Int32) (v2 : Int32) (v5 : Int32) : Prop :=
  if v5 < (cn 40) then (
    (inb v5 40) ∧ (
    if (p.1 10 ((v5).toNatClampNeg + 1) 2) = 0 then (
      kg14 p v1 v2 (v5 + (cn 1)))
    else (
      (¬ (p.2.2 10 ((v5).toNatClampNeg + 1) 4) = 0) ∧ (
      (G12 p (p.2.2 10 ((v5).toNatClampNeg + 1) 4) v1) ∧ (
      if (F12 p (p.2.2 10 ((v5).toNatClampNeg + 1) 4) v1) = 0 then (
        kg14 p v1 v2 (v5 + (cn 1)))
      else (
        let p1 : PM := pI p 10 ((v5).toNatClampNeg + 1) 2 (cn 0)
        kg14 p1 v1 (v2 + (cn 1)) (v5 + (cn 1))))))))
  else (
    True)
noncomputable def g6_withdrawContract_14 (n : Nat) : PM → Int32 → Int32 → Int32 → Prop := Nat.rec (motive := fun _ => PM → Int32 → Int32 → Int32 → Prop) (fun _ _ _ _ => False) (fun _ ih => bg6_withdrawContract_14 v1_hasContract g1_hasContract ih) n
theorem eg6_withdrawContract_14 (n : Nat) (p : PM) (v1 : Int32) (v2 : Int32) (v5 : Int32) : g6_withdrawContract_14 (n + 1) p v1 v2 v5 = bg6_withdrawContract_14 v1_hasContract g1_hasContract (g6_withdrawContract_14 n) p v1 v2 v5 := rfl
noncomputable def bv6_withdrawContract (kv14 : PM → Int32 → Int32 → Int32 → Int32 × PM) (p : PM) (v1 : Int32) : Int32 × PM :=
  kv14 p v1 (cn 0) (cn 0)
noncomputable def v6_withdrawContract (p : PM) (v1 : Int32) : Int32 × PM := bv6_withdrawContract (v6_withdrawContract_14 FU) p v1
noncomputable def bg6_withdrawContract (kg14 : PM → Int32 → Int32 → Int32 → Prop) (p : PM) (v1 : Int32) : Prop :=
  kg14 p v1 (cn 0) (cn 0)
noncomputable def g6_withdrawContract (p : PM) (v1 : Int32) : Prop := bg6_withdrawContract (g6_withdrawContract_14 FU) p v1
def R87 : List Row := [(0, .iconst 0, 1, 0, (0, 0, 0, 0, 0, 0)), (1, .istore_n 2, 1, 0, (0, 0, 0, 0, 0, 0)), (2, .aload_n 0, 1, 0, (0, 0, 0, 0, 0, 0)), (3, .getfield 11, 3, 0, (6, 1, 23, 2, 1, 0)), (6, .astore_n 3, 1, 0, (0, 0, 0, 0, 0, 0)), (7, .aload_n 3, 1, 0, (0, 0, 0, 0, 0, 0)), (8, .arraylength, 1, 0, (20, 40, 0, 0, 0, 40)), (9, .istore 4, 2, 0, (0, 0, 0, 0, 0, 0)), (11, .iconst 0, 1, 0, (0, 0, 0, 0, 0, 0)), (12, .istore 5, 2, 0, (0, 0, 0, 0, 0, 0)), (14, .iload 5, 2, 1, (0, 0, 0, 0, 0, 0)), (16, .iload 4, 2, 0, (0, 0, 0, 0, 0, 0)), (18, .if_icmp .ge 44, 3, 0, (0, 0, 0, 0, 0, 0)), (21, .aload_n 3, 1, 0, (0, 0, 0, 0, 0, 0)), (22, .iload 5, 2, 0, (0, 0, 0, 0, 0, 0)), (24, .aaload, 1, 0, (20, 40, 0, 1, 1, 0)), (25, .astore 6, 2, 0, (0, 0, 0, 0, 0, 0)), (27, .aload 6, 2, 0, (0, 0, 0, 0, 0, 0)), (29, .getfield 29, 3, 0, (10, 2, 0, 1, 0, 0)), (32, .ifCond .eq 24, 3, 0, (0, 0, 0, 0, 0, 0)), (35, .aload 6, 2, 0, (0, 0, 0, 0, 0, 0)), (37, .getfield 130, 3, 0, (10, 4, 4, 1, 0, 0)), (40, .iload_n 1, 1, 0, (0, 0, 0, 0, 0, 0)), (41, .invokevirtual 134, 3, 0, (0, 2, 0, 0, 2, 0)), (44, .ifCond .eq 12, 3, 0, (0, 0, 0, 0, 0, 0)), (47, .aload 6, 2, 0, (0, 0, 0, 0, 0, 0)), (49, .iconst 0, 1, 0, (0, 0, 0, 0, 0, 0)), (50, .putfield 29, 3, 0, (10, 2, 0, 1, 0, 0)), (53, .iinc 2 1, 3, 0, (0, 0, 0, 0, 0, 1)), (56, .iinc 5 1, 3, 0, (0, 0, 0, 0, 0, 1)), (59, .goto (-45), 3, 0, (0, 0, 0, 0, 0, 0)), (62, .iload_n 2, 1, 0, (0, 0, 0, 0, 0, 0)), (63, .ireturn, 1, 0, (0, 0, 0, 0, 0, 0))]
set_option maxRecDepth 100000 in
theorem rk87 : R87.all (rok 0 87 1 [(12, [4, 0])]) = true := by decide +kernel
set_option maxRecDepth 100000 in
theorem tab87 {F12 : PM → Nat → Int32 → Int32} {G12 : PM → Nat → Int32 → Prop} : TabOK 0 87 1 [CC12 F12 G12] R87 := tab_ok (K := K87) rfl rfl (fun h => d87 h) rk87 (by decide +kernel)
set_option maxRecDepth 100000 in
theorem pc87 : cutpc [14] R87 = true := by decide +kernel
set_option maxRecDepth 100000 in
theorem r6_withdrawContract_14 (F12 : PM → Nat → Int32 → Int32) (G12 : PM → Nat → Int32 → Prop) (o12 : CalOK 0 (CC12 F12 G12)) (kv14 : PM → Int32 → Int32 → Int32 → Int32 × PM) (kg14 : PM → Int32 → Int32 → Int32 → Prop) (hk14 : ∀ (p : PM) (v1 : Int32) (v2 : Int32) (v5 : Int32) (d0 d6 : ZV), Gr 0 p → kg14 p v1 v2 v5 → ZJ 0 87 14 [d0, zI v1, zI v2, zR 20 1, zC 40, zI v5, d6] [] p (hwI (kv14 p v1 v2 v5))) : ∀ (p : PM) (v1 : Int32) (v2 : Int32) (v5 : Int32) (d0 d6 : ZV), Gr 0 p → bg6_withdrawContract_14 F12 G12 kg14 p v1 v2 v5 → ZJ 0 87 14 [d0, zI v1, zI v2, zR 20 1, zC 40, zI v5, d6] [] p (hwI (bv6_withdrawContract_14 F12 kv14 p v1 v2 v5)) := by
  intro p v1 v2 v5 d0 d6 hg H
  exact rwI (n := 3000) (q := 14) (la := [d0, zI v1, zI v2, zR 20 1, zC 40, zI v5, d6]) (sa := []) (ks := [fun la sa s => kv14 s (ai la 1) (ai la 2) (ai la 5)]) (gs := [fun la sa s => zsw (tc2 la [(2, 0), (0, 0), (0, 0), (120, 1), (3, 40), (0, 0), (2, 0)] && tc2 sa []) False (kg14 s (ai la 1) (ai la 2) (ai la 5))]) (fcons o12 (fnil)) tab87 pc87 ⟨fun la sa s hg H => zcut H fun H => hk14 s (ai la 1) (ai la 2) (ai la 5) (zld la 0) (zld la 6) hg H, trivial⟩ hg H
theorem t6_withdrawContract_14 : ∀ (n : Nat), ∀ (p : PM) (v1 : Int32) (v2 : Int32) (v5 : Int32) (d0 d6 : ZV), Gr 0 p → g6_withdrawContract_14 n p v1 v2 v5 → ZJ 0 87 14 [d0, zI v1, zI v2, zR 20 1, zC 40, zI v5, d6] [] p (hwI (v6_withdrawContract_14 n p v1 v2 v5)) := by
  intro n
  induction n with
  | zero =>
    intro p v1 v2 v5 d0 d6 hg H
    exact H.elim
  | succ n ih => exact r6_withdrawContract_14 v1_hasContract g1_hasContract ok12 (v6_withdrawContract_14 n) (g6_withdrawContract_14 n) ih
set_option maxRecDepth 100000 in
theorem r6_withdrawContract (F12 : PM → Nat → Int32 → Int32) (G12 : PM → Nat → Int32 → Prop) (o12 : CalOK 0 (CC12 F12 G12)) (kv14 : PM → Int32 → Int32 → Int32 → Int32 × PM) (kg14 : PM → Int32 → Int32 → Int32 → Prop) (hk14 : ∀ (p : PM) (v1 : Int32) (v2 : Int32) (v5 : Int32) (d0 d6 : ZV), Gr 0 p → kg14 p v1 v2 v5 → ZJ 0 87 14 [d0, zI v1, zI v2, zR 20 1, zC 40, zI v5, d6] [] p (hwI (kv14 p v1 v2 v5))) : ∀ (p : PM) (v1 : Int32), Gr 0 p → bg6_withdrawContract kg14 p v1 → ZJ 0 87 0 [zR 6 1, zI v1, zJ, zJ, zJ, zJ, zJ] [] p (hwI (bv6_withdrawContract kv14 p v1)) := by
  intro p v1  hg H
  exact rwI (n := 3000) (q := 0) (la := [zR 6 1, zI v1, zJ, zJ, zJ, zJ, zJ]) (sa := []) (ks := [fun la sa s => kv14 s (ai la 1) (ai la 2) (ai la 5)]) (gs := [fun la sa s => zsw (tc2 la [(2, 0), (0, 0), (0, 0), (120, 1), (3, 40), (0, 0), (2, 0)] && tc2 sa []) False (kg14 s (ai la 1) (ai la 2) (ai la 5))]) (fcons o12 (fnil)) tab87 pc87 ⟨fun la sa s hg H => zcut H fun H => hk14 s (ai la 1) (ai la 2) (ai la 5) (zld la 0) (zld la 6) hg H, trivial⟩ hg H
theorem t6_withdrawContract : ∀ (p : PM) (v1 : Int32), Gr 0 p → g6_withdrawContract p v1 → ZJ 0 87 0 [zR 6 1, zI v1, zJ, zJ, zJ, zJ, zJ] [] p (hwI (v6_withdrawContract p v1)) := r6_withdrawContract v1_hasContract g1_hasContract ok12 (v6_withdrawContract_14 FU) (g6_withdrawContract_14 FU) (t6_withdrawContract_14 FU)
def CC87 (F : PM → Int32 → Int32 × PM) (G : PM → Int32 → Prop) : Cal := (87, [9, 0], 1, false, fun as p => (zI (F p (ai as 1)).1, (F p (ai as 1)).2), fun as p => zsw (tc2 as [(106, 1), (0, 0)]) False (G p (ai as 1)))
set_option maxRecDepth 100000 in
theorem okr87 (F : PM → Int32 → Int32 × PM) (G : PM → Int32 → Prop) (h : ∀ (p : PM) (v1 : Int32), Gr 0 p → G p v1 → ZJ 0 87 0 [zR 6 1, zI v1, zJ, zJ, zJ, zJ, zJ] [] p (hwI (F p v1))) : CalOK 0 (CC87 F G) := cal_ok (m := 7) (by unfold mL; rw [mX_87]) (fun as p hg H => h p (ai as 1) hg H)
theorem ok87 : CalOK 0 (CC87 v6_withdrawContract g6_withdrawContract) := okr87 v6_withdrawContract g6_withdrawContract t6_withdrawContract
noncomputable def bv7_forget_11 (F12 : PM → Nat → Int32 → Int32) (kv11 : PM → Int32 → Int32 → PM) (p : PM) (v1 : Int32) (v4 : Int32) : PM :=
  if v4 < (cn 60) then (
    if (F12 p (p.2.2 4 ((v4).toNatClampNeg + 1) 0) v1) = 0 then (
      kv11 p v1 (v4 + (cn 1)))
    else (
      let p1 : PM := pI p 4 ((v4).toNatClampNeg + 1) 6 (cn 0)
      kv11 p1 v1 (v4 + (cn 1))))
  else (
    p)
noncomputable def v7_forget_11 (n : Nat) : PM → Int32 → Int32 → PM := Nat.rec (motive := fun _ => PM → Int32 → Int32 → PM) (fun p _ _ => p) (fun _ ih => bv7_forget_11 v1_hasContract ih) n
theorem ev7_forget_11 (n : Nat) (p : PM) (v1 : Int32) (v4 : Int32) : v7_forget_11 (n + 1) p v1 v4 = bv7_forget_11 v1_hasContract (v7_forget_11 n) p v1 v4 := rfl
noncomputable def bg7_forget_11 (F12 : PM → Nat → Int32 → Int32) (G12 : PM → Nat → Int32 → Prop) (kg11 : PM → Int32 → Int32 → Prop) (p : PM) (v1 : Int32) (v4 : Int32) : Prop :=
  if v4 < (cn 60) then (
    (inb v4 60) ∧ (
    (¬ (p.2.2 4 ((v4).toNatClampNeg + 1) 0) = 0) ∧ (
    (G12 p (p.2.2 4 ((v4).toNatClampNeg + 1) 0) v1) ∧ (
    if (F12 p (p.2.2 4 ((v4).toNatClampNeg + 1) 0) v1) = 0 then (
      kg11 p v1 (v4 + (cn 1)))
    else (
      let p1 : PM := pI p 4 ((v4).toNatClampNeg + 1) 6 (cn 0)
      kg11 p1 v1 (v4 + (cn 1)))))))
  else (
    True)
noncomputable def g7_forget_11 (n : Nat) : PM → Int32 → Int32 → Prop := Nat.rec (motive := fun _ => PM → Int32 → Int32 → Prop) (fun _ _ _ => False) (fun _ ih => bg7_forget_11 v1_hasContract g1_hasContract ih) n
theorem eg7_forget_11 (n : Nat) (p : PM) (v1 : Int32) (v4 : Int32) : g7_forget_11 (n + 1) p v1 v4 = bg7_forget_11 v1_hasContract g1_hasContract (g7_forget_11 n) p v1 v4 := rfl
noncomputable def bv7_forget (kv11 : PM → Int32 → Int32 → PM) (p : PM) (v1 : Int32) : PM :=
  kv11 p v1 (cn 0)
noncomputable def v7_forget (p : PM) (v1 : Int32) : PM := bv7_forget (v7_forget_11 FU) p v1
noncomputable def bg7_forget (kg11 : PM → Int32 → Int32 → Prop) (p : PM) (v1 : Int32) : Prop :=
  kg11 p v1 (cn 0)
noncomputable def g7_forget (p : PM) (v1 : Int32) : Prop := bg7_forget (g7_forget_11 FU) p v1
def R118 : List Row := [(0, .aload_n 0, 1, 0, (0, 0, 0, 0, 0, 0)), (1, .getfield 19, 3, 0, (7, 1, 21, 2, 1, 0)), (4, .astore_n 2, 1, 0, (0, 0, 0, 0, 0, 0)), (5, .aload_n 2, 1, 0, (0, 0, 0, 0, 0, 0)), (6, .arraylength, 1, 0, (18, 60, 0, 0, 0, 60)), (7, .istore_n 3, 1, 0, (0, 0, 0, 0, 0, 0)), (8, .iconst 0, 1, 0, (0, 0, 0, 0, 0, 0)), (9, .istore 4, 2, 0, (0, 0, 0, 0, 0, 0)), (11, .iload 4, 2, 1, (0, 0, 0, 0, 0, 0)), (13, .iload_n 3, 1, 0, (0, 0, 0, 0, 0, 0)), (14, .if_icmp .ge 33, 3, 0, (0, 0, 0, 0, 0, 0)), (17, .aload_n 2, 1, 0, (0, 0, 0, 0, 0, 0)), (18, .iload 4, 2, 0, (0, 0, 0, 0, 0, 0)), (20, .aaload, 1, 0, (18, 60, 0, 1, 1, 0)), (21, .astore 5, 2, 0, (0, 0, 0, 0, 0, 0)), (23, .aload 5, 2, 0, (0, 0, 0, 0, 0, 0)), (25, .getfield 63, 3, 0, (4, 0, 4, 1, 0, 0)), (28, .iload_n 1, 1, 0, (0, 0, 0, 0, 0, 0)), (29, .invokevirtual 144, 3, 0, (0, 2, 0, 0, 2, 0)), (32, .ifCond .eq 9, 3, 0, (0, 0, 0, 0, 0, 0)), (35, .aload 5, 2, 0, (0, 0, 0, 0, 0, 0)), (37, .iconst 0, 1, 0, (0, 0, 0, 0, 0, 0)), (38, .putfield 32, 3, 0, (4, 6, 1, 1, 0, 0)), (41, .iinc 4 1, 3, 0, (0, 0, 0, 0, 0, 1)), (44, .goto (-33), 3, 0, (0, 0, 0, 0, 0, 0)), (47, .return_, 1, 0, (0, 0, 0, 0, 0, 0))]
set_option maxRecDepth 100000 in
theorem rk118 : R118.all (rok 0 118 0 [(12, [4, 0])]) = true := by decide +kernel
set_option maxRecDepth 100000 in
theorem tab118 {F12 : PM → Nat → Int32 → Int32} {G12 : PM → Nat → Int32 → Prop} : TabOK 0 118 0 [CC12 F12 G12] R118 := tab_ok (K := K118) rfl rfl (fun h => d118 h) rk118 (by decide +kernel)
set_option maxRecDepth 100000 in
theorem pc118 : cutpc [11] R118 = true := by decide +kernel
set_option maxRecDepth 100000 in
theorem r7_forget_11 (F12 : PM → Nat → Int32 → Int32) (G12 : PM → Nat → Int32 → Prop) (o12 : CalOK 0 (CC12 F12 G12)) (kv11 : PM → Int32 → Int32 → PM) (kg11 : PM → Int32 → Int32 → Prop) (hk11 : ∀ (p : PM) (v1 : Int32) (v4 : Int32) (d0 d5 : ZV), Gr 0 p → kg11 p v1 v4 → ZJ 0 118 11 [d0, zI v1, zR 18 1, zC 60, zI v4, d5] [] p (hwV (kv11 p v1 v4))) : ∀ (p : PM) (v1 : Int32) (v4 : Int32) (d0 d5 : ZV), Gr 0 p → bg7_forget_11 F12 G12 kg11 p v1 v4 → ZJ 0 118 11 [d0, zI v1, zR 18 1, zC 60, zI v4, d5] [] p (hwV (bv7_forget_11 F12 kv11 p v1 v4)) := by
  intro p v1 v4 d0 d5 hg H
  exact rwV (n := 3000) (q := 11) (la := [d0, zI v1, zR 18 1, zC 60, zI v4, d5]) (sa := []) (ks := [fun la sa s => kv11 s (ai la 1) (ai la 4)]) (gs := [fun la sa s => zsw (tc2 la [(2, 0), (0, 0), (118, 1), (3, 60), (0, 0), (2, 0)] && tc2 sa []) False (kg11 s (ai la 1) (ai la 4))]) (fcons o12 (fnil)) tab118 pc118 ⟨fun la sa s hg H => zcut H fun H => hk11 s (ai la 1) (ai la 4) (zld la 0) (zld la 5) hg H, trivial⟩ hg H
theorem t7_forget_11 : ∀ (n : Nat), ∀ (p : PM) (v1 : Int32) (v4 : Int32) (d0 d5 : ZV), Gr 0 p → g7_forget_11 n p v1 v4 → ZJ 0 118 11 [d0, zI v1, zR 18 1, zC 60, zI v4, d5] [] p (hwV (v7_forget_11 n p v1 v4)) := by
  intro n
  induction n with
  | zero =>
    intro p v1 v4 d0 d5 hg H
    exact H.elim
  | succ n ih => exact r7_forget_11 v1_hasContract g1_hasContract ok12 (v7_forget_11 n) (g7_forget_11 n) ih
set_option maxRecDepth 100000 in
theorem r7_forget (F12 : PM → Nat → Int32 → Int32) (G12 : PM → Nat → Int32 → Prop) (o12 : CalOK 0 (CC12 F12 G12)) (kv11 : PM → Int32 → Int32 → PM) (kg11 : PM → Int32 → Int32 → Prop) (hk11 : ∀ (p : PM) (v1 : Int32) (v4 : Int32) (d0 d5 : ZV), Gr 0 p → kg11 p v1 v4 → ZJ 0 118 11 [d0, zI v1, zR 18 1, zC 60, zI v4, d5] [] p (hwV (kv11 p v1 v4))) : ∀ (p : PM) (v1 : Int32), Gr 0 p → bg7_forget kg11 p v1 → ZJ 0 118 0 [zR 7 1, zI v1, zJ, zJ, zJ, zJ] [] p (hwV (bv7_forget kv11 p v1)) := by
  intro p v1  hg H
  exact rwV (n := 3000) (q := 0) (la := [zR 7 1, zI v1, zJ, zJ, zJ, zJ]) (sa := []) (ks := [fun la sa s => kv11 s (ai la 1) (ai la 4)]) (gs := [fun la sa s => zsw (tc2 la [(2, 0), (0, 0), (118, 1), (3, 60), (0, 0), (2, 0)] && tc2 sa []) False (kg11 s (ai la 1) (ai la 4))]) (fcons o12 (fnil)) tab118 pc118 ⟨fun la sa s hg H => zcut H fun H => hk11 s (ai la 1) (ai la 4) (zld la 0) (zld la 5) hg H, trivial⟩ hg H
theorem t7_forget : ∀ (p : PM) (v1 : Int32), Gr 0 p → g7_forget p v1 → ZJ 0 118 0 [zR 7 1, zI v1, zJ, zJ, zJ, zJ] [] p (hwV (v7_forget p v1)) := r7_forget v1_hasContract g1_hasContract ok12 (v7_forget_11 FU) (g7_forget_11 FU) (t7_forget_11 FU)
def CC118 (F : PM → Int32 → PM) (G : PM → Int32 → Prop) : Cal := (118, [10, 0], 0, false, fun as p => (zJ, (F p (ai as 1))), fun as p => zsw (tc2 as [(107, 1), (0, 0)]) False (G p (ai as 1)))
set_option maxRecDepth 100000 in
theorem okr118 (F : PM → Int32 → PM) (G : PM → Int32 → Prop) (h : ∀ (p : PM) (v1 : Int32), Gr 0 p → G p v1 → ZJ 0 118 0 [zR 7 1, zI v1, zJ, zJ, zJ, zJ] [] p (hwV (F p v1))) : CalOK 0 (CC118 F G) := cal_ok (m := 6) (by unfold mL; rw [mX_118]) (fun as p hg H => h p (ai as 1) hg H)
theorem ok118 : CalOK 0 (CC118 v7_forget g7_forget) := okr118 v7_forget g7_forget t7_forget
noncomputable def bv5_convertPrice (p : PM) (F207 : PM → Int32 → Int32 → Int32) (F209 : PM → Int32 → Int32 → Int32) (v0 : Int32) (v1 : Int32) (v2 : Int32) : Int32 :=
  if 0 < v1 then (
    (F207 p (cn 1) (F209 p (cn 9999) ((v0 * v2) / v1))))
  else (
    (F207 p (cn 1) (F209 p (cn 9999) v0)))
noncomputable def v5_convertPrice (p : PM) (v0 : Int32) (v1 : Int32) (v2 : Int32) : Int32 := bv5_convertPrice p v14_max_7cf53 v14_min_7cf53 v0 v1 v2
noncomputable def bg5_convertPrice (p : PM) (F207 : PM → Int32 → Int32 → Int32) (G207 : PM → Int32 → Int32 → Prop) (F209 : PM → Int32 → Int32 → Int32) (G209 : PM → Int32 → Int32 → Prop) (v0 : Int32) (v1 : Int32) (v2 : Int32) : Prop :=
  if 0 < v1 then (
    (¬ v1 = 0) ∧ (
    (G209 p (cn 9999) ((v0 * v2) / v1)) ∧ (
    (G207 p (cn 1) (F209 p (cn 9999) ((v0 * v2) / v1))) ∧ (
    True))))
  else (
    (G209 p (cn 9999) v0) ∧ (
    (G207 p (cn 1) (F209 p (cn 9999) v0)) ∧ (
    True)))
noncomputable def g5_convertPrice (p : PM) (v0 : Int32) (v1 : Int32) (v2 : Int32) : Prop := bg5_convertPrice p v14_max_7cf53 g14_max_7cf53 v14_min_7cf53 g14_min_7cf53 v0 v1 v2
def R68 : List Row := [(0, .iload_n 1, 1, 0, (0, 0, 0, 0, 0, 0)), (1, .ifCond .le 11, 3, 0, (0, 0, 0, 0, 0, 0)), (4, .iload_n 0, 1, 0, (0, 0, 0, 0, 0, 0)), (5, .iload_n 2, 1, 0, (0, 0, 0, 0, 0, 0)), (6, .imul, 1, 0, (0, 0, 0, 0, 0, 0)), (7, .iload_n 1, 1, 0, (0, 0, 0, 0, 0, 0)), (8, .idiv, 1, 0, (0, 0, 0, 0, 0, 0)), (9, .goto 4, 3, 0, (0, 0, 0, 0, 0, 0)), (12, .iload_n 0, 1, 0, (0, 0, 0, 0, 0, 0)), (13, .istore_n 3, 1, 0, (0, 0, 0, 0, 0, 0)), (14, .iconst 1, 1, 0, (0, 0, 0, 0, 0, 1)), (15, .sipush 9999, 3, 0, (0, 0, 0, 0, 0, 9999)), (18, .iload_n 3, 1, 0, (0, 0, 0, 0, 0, 0)), (19, .invokestatic 212, 3, 0, (0, 2, 0, 0, 0, 0)), (22, .invokestatic 218, 3, 0, (1, 2, 0, 0, 0, 0)), (25, .ireturn, 1, 0, (0, 0, 0, 0, 0, 0))]
set_option maxRecDepth 100000 in
theorem rk68 : R68.all (rok 0 68 1 [(209, [0, 0]), (207, [0, 0])]) = true := by decide +kernel
set_option maxRecDepth 100000 in
theorem tab68 {F209 : PM → Int32 → Int32 → Int32} {G209 : PM → Int32 → Int32 → Prop} {F207 : PM → Int32 → Int32 → Int32} {G207 : PM → Int32 → Int32 → Prop} : TabOK 0 68 1 [CC209 F209 G209, CC207 F207 G207] R68 := tab_ok (K := K68) rfl rfl (fun h => d68 h) rk68 (by decide +kernel)
set_option maxRecDepth 100000 in
theorem pc68 : cutpc [] R68 = true := by decide +kernel
set_option maxRecDepth 100000 in
theorem r5_convertPrice (p : PM) (hg : Gr 0 p) (F209 : PM → Int32 → Int32 → Int32) (G209 : PM → Int32 → Int32 → Prop) (o209 : CalOK 0 (CC209 F209 G209)) (F207 : PM → Int32 → Int32 → Int32) (G207 : PM → Int32 → Int32 → Prop) (o207 : CalOK 0 (CC207 F207 G207)) : ∀ (v0 : Int32) (v1 : Int32) (v2 : Int32), bg5_convertPrice p F207 G207 F209 G209 v0 v1 v2 → ZJ 0 68 0 [zI v0, zI v1, zI v2, zJ] [] p (hoI p (bv5_convertPrice p F207 F209 v0 v1 v2)) := by
  intro v0 v1 v2  H
  exact roI (n := 3000) (q := 0) (la := [zI v0, zI v1, zI v2, zJ]) (sa := []) (ks := []) (gs := []) (fcons o209 (fcons o207 (fnil))) tab68 pc68 trivial hg H
theorem t5_convertPrice (p : PM) (hg : Gr 0 p) : ∀ (v0 : Int32) (v1 : Int32) (v2 : Int32), g5_convertPrice p v0 v1 v2 → ZJ 0 68 0 [zI v0, zI v1, zI v2, zJ] [] p (hoI p (v5_convertPrice p v0 v1 v2)) := r5_convertPrice p hg v14_min_7cf53 g14_min_7cf53 ok209 v14_max_7cf53 g14_max_7cf53 ok207
def CC68 (F : PM → Int32 → Int32 → Int32 → Int32) (G : PM → Int32 → Int32 → Int32 → Prop) : Cal := (68, [0, 0, 0], 1, true, fun as p => (zI (F p (ai as 0) (ai as 1) (ai as 2)), p), fun as p => zsw (tc2 as [(0, 0), (0, 0), (0, 0)]) False (G p (ai as 0) (ai as 1) (ai as 2)))
set_option maxRecDepth 100000 in
theorem okr68 (F : PM → Int32 → Int32 → Int32 → Int32) (G : PM → Int32 → Int32 → Int32 → Prop) (h : ∀ (p : PM) (v0 : Int32) (v1 : Int32) (v2 : Int32), Gr 0 p → G p v0 v1 v2 → ZJ 0 68 0 [zI v0, zI v1, zI v2, zJ] [] p (hoI p (F p v0 v1 v2))) : CalOK 0 (CC68 F G) := cal_ok (m := 4) (by unfold mL; rw [mX_68]) (fun as p hg H => h p (ai as 0) (ai as 1) (ai as 2) hg H)
theorem ok68 : CalOK 0 (CC68 v5_convertPrice g5_convertPrice) := okr68 v5_convertPrice g5_convertPrice (fun p v0 v1 v2 hg H => t5_convertPrice p hg v0 v1 v2 H)
noncomputable def bv7_scaled (p : PM) (v0 : Int32) (v1 : Int32) (v2 : Int32) : Int64 :=
  if 0 < v2 then (
    (((v0).toInt64 * (v1).toInt64) / (v2).toInt64))
  else (
    (cl 0))
noncomputable def v7_scaled (p : PM) (v0 : Int32) (v1 : Int32) (v2 : Int32) : Int64 := bv7_scaled p v0 v1 v2
noncomputable def bg7_scaled (p : PM) (v0 : Int32) (v1 : Int32) (v2 : Int32) : Prop :=
  if 0 < v2 then (
    (¬ (v2).toInt64 = 0) ∧ (
    True))
  else (
    True)
noncomputable def g7_scaled (p : PM) (v0 : Int32) (v1 : Int32) (v2 : Int32) : Prop := bg7_scaled p v0 v1 v2
def R116 : List Row := [(0, .iload_n 2, 1, 0, (0, 0, 0, 0, 0, 0)), (1, .ifCond .le 14, 3, 0, (0, 0, 0, 0, 0, 0)), (4, .iload_n 0, 1, 0, (0, 0, 0, 0, 0, 0)), (5, .i2l, 1, 0, (0, 0, 0, 0, 0, 0)), (6, .iload_n 1, 1, 0, (0, 0, 0, 0, 0, 0)), (7, .i2l, 1, 0, (0, 0, 0, 0, 0, 0)), (8, .lmul, 1, 0, (0, 0, 0, 0, 0, 0)), (9, .iload_n 2, 1, 0, (0, 0, 0, 0, 0, 0)), (10, .i2l, 1, 0, (0, 0, 0, 0, 0, 0)), (11, .ldiv, 1, 0, (0, 0, 0, 0, 0, 0)), (12, .goto 4, 3, 0, (0, 0, 0, 0, 0, 0)), (15, .lconst 0, 1, 0, (0, 0, 0, 0, 0, 0)), (16, .lreturn, 1, 0, (0, 0, 0, 0, 0, 0))]
set_option maxRecDepth 100000 in
theorem rk116 : R116.all (rok 0 116 2 []) = true := by decide +kernel
set_option maxRecDepth 100000 in
theorem tab116 : TabOK 0 116 2 [] R116 := tab_ok (K := K116) rfl rfl (fun h => d116 h) rk116 (by decide +kernel)
set_option maxRecDepth 100000 in
theorem pc116 : cutpc [] R116 = true := by decide +kernel
set_option maxRecDepth 100000 in
theorem r7_scaled (p : PM) (hg : Gr 0 p) : ∀ (v0 : Int32) (v1 : Int32) (v2 : Int32), bg7_scaled p v0 v1 v2 → ZJ 0 116 0 [zI v0, zI v1, zI v2] [] p (hoL p (bv7_scaled p v0 v1 v2)) := by
  intro v0 v1 v2  H
  exact roL (n := 3000) (q := 0) (la := [zI v0, zI v1, zI v2]) (sa := []) (ks := []) (gs := []) (fnil) tab116 pc116 trivial hg H
theorem t7_scaled (p : PM) (hg : Gr 0 p) : ∀ (v0 : Int32) (v1 : Int32) (v2 : Int32), g7_scaled p v0 v1 v2 → ZJ 0 116 0 [zI v0, zI v1, zI v2] [] p (hoL p (v7_scaled p v0 v1 v2)) := r7_scaled p hg
def CC116 (F : PM → Int32 → Int32 → Int32 → Int64) (G : PM → Int32 → Int32 → Int32 → Prop) : Cal := (116, [0, 0, 0], 2, true, fun as p => (zL (F p (ai as 0) (ai as 1) (ai as 2)), p), fun as p => zsw (tc2 as [(0, 0), (0, 0), (0, 0)]) False (G p (ai as 0) (ai as 1) (ai as 2)))
set_option maxRecDepth 100000 in
theorem okr116 (F : PM → Int32 → Int32 → Int32 → Int64) (G : PM → Int32 → Int32 → Int32 → Prop) (h : ∀ (p : PM) (v0 : Int32) (v1 : Int32) (v2 : Int32), Gr 0 p → G p v0 v1 v2 → ZJ 0 116 0 [zI v0, zI v1, zI v2] [] p (hoL p (F p v0 v1 v2))) : CalOK 0 (CC116 F G) := cal_ok (m := 3) (by unfold mL; rw [mX_116]) (fun as p hg H => h p (ai as 0) (ai as 1) (ai as 2) hg H)
theorem ok116 : CalOK 0 (CC116 v7_scaled g7_scaled) := okr116 v7_scaled g7_scaled (fun p v0 v1 v2 hg H => t7_scaled p hg v0 v1 v2 H)
noncomputable def bv14_floorDiv_b2ac5 (p : PM) (F203 : PM → Int64 → Int64 → Int64) (v0 : Int64) (v2 : Int32) : Int64 :=
  (F203 p v0 (v2).toInt64)
noncomputable def v14_floorDiv_b2ac5 (p : PM) (v0 : Int64) (v2 : Int32) : Int64 := bv14_floorDiv_b2ac5 p v14_floorDiv_f86c9 v0 v2
noncomputable def bg14_floorDiv_b2ac5 (p : PM) (F203 : PM → Int64 → Int64 → Int64) (G203 : PM → Int64 → Int64 → Prop) (v0 : Int64) (v2 : Int32) : Prop :=
  (G203 p v0 (v2).toInt64) ∧ (
  True)
noncomputable def g14_floorDiv_b2ac5 (p : PM) (v0 : Int64) (v2 : Int32) : Prop := bg14_floorDiv_b2ac5 p v14_floorDiv_f86c9 g14_floorDiv_f86c9 v0 v2
def R202 : List Row := [(0, .lload_n 0, 1, 0, (0, 0, 0, 0, 0, 0)), (1, .iload_n 2, 1, 0, (0, 0, 0, 0, 0, 0)), (2, .i2l, 1, 0, (0, 0, 0, 0, 0, 0)), (3, .invokestatic 143, 3, 0, (0, 2, 0, 0, 0, 0)), (6, .lreturn, 1, 0, (0, 0, 0, 0, 0, 0))]
set_option maxRecDepth 100000 in
theorem rk202 : R202.all (rok 0 202 2 [(203, [1, 1])]) = true := by decide +kernel
set_option maxRecDepth 100000 in
theorem tab202 {F203 : PM → Int64 → Int64 → Int64} {G203 : PM → Int64 → Int64 → Prop} : TabOK 0 202 2 [CC203 F203 G203] R202 := tab_ok (K := K202) rfl rfl (fun h => d202 h) rk202 (by decide +kernel)
set_option maxRecDepth 100000 in
theorem pc202 : cutpc [] R202 = true := by decide +kernel
set_option maxRecDepth 100000 in
theorem r14_floorDiv_b2ac5 (p : PM) (hg : Gr 0 p) (F203 : PM → Int64 → Int64 → Int64) (G203 : PM → Int64 → Int64 → Prop) (o203 : CalOK 0 (CC203 F203 G203)) : ∀ (v0 : Int64) (v2 : Int32), bg14_floorDiv_b2ac5 p F203 G203 v0 v2 → ZJ 0 202 0 [zL v0, zJ, zI v2] [] p (hoL p (bv14_floorDiv_b2ac5 p F203 v0 v2)) := by
  intro v0 v2  H
  exact roL (n := 3000) (q := 0) (la := [zL v0, zJ, zI v2]) (sa := []) (ks := []) (gs := []) (fcons o203 (fnil)) tab202 pc202 trivial hg H
theorem t14_floorDiv_b2ac5 (p : PM) (hg : Gr 0 p) : ∀ (v0 : Int64) (v2 : Int32), g14_floorDiv_b2ac5 p v0 v2 → ZJ 0 202 0 [zL v0, zJ, zI v2] [] p (hoL p (v14_floorDiv_b2ac5 p v0 v2)) := r14_floorDiv_b2ac5 p hg v14_floorDiv_f86c9 g14_floorDiv_f86c9 ok203
def CC202 (F : PM → Int64 → Int32 → Int64) (G : PM → Int64 → Int32 → Prop) : Cal := (202, [1, 0], 2, true, fun as p => (zL (F p (al as 0) (ai as 1)), p), fun as p => zsw (tc2 as [(1, 0), (0, 0)]) False (G p (al as 0) (ai as 1)))
set_option maxRecDepth 100000 in
theorem okr202 (F : PM → Int64 → Int32 → Int64) (G : PM → Int64 → Int32 → Prop) (h : ∀ (p : PM) (v0 : Int64) (v2 : Int32), Gr 0 p → G p v0 v2 → ZJ 0 202 0 [zL v0, zJ, zI v2] [] p (hoL p (F p v0 v2))) : CalOK 0 (CC202 F G) := cal_ok (m := 3) (by unfold mL; rw [mX_202]) (fun as p hg H => h p (al as 0) (ai as 1) hg H)
theorem ok202 : CalOK 0 (CC202 v14_floorDiv_b2ac5 g14_floorDiv_b2ac5) := okr202 v14_floorDiv_b2ac5 g14_floorDiv_b2ac5 (fun p v0 v2 hg H => t14_floorDiv_b2ac5 p hg v0 v2 H)
noncomputable def bv7_convertPositions_14 (F2 : PM → Nat → Int32 → Int32) (F4 : PM → Nat → Int32 → Int32 → PM) (F104 : PM → Int32 → Nat) (F116 : PM → Int32 → Int32 → Int32 → Int64) (F202 : PM → Int64 → Int32 → Int64) (kv14 : PM → Int32 → Int32 → Int32 → Int32 → Nat → Int64 → Int32 → PM) (p : PM) (v1 : Int32) (v2 : Int32) (v3 : Int32) (v4 : Int32) (v5 : Nat) (v6 : Int64) (v8 : Int32) : PM :=
  if v8 < (cn 8) then (
    if 0 < v3 then (
      let x3 : Int32 := (F2 p (F104 p v8) v1)
      let x4 : Int64 := (((x3).toInt64 * (v2).toInt64) - ((F116 p x3 v2 v3) * (v3).toInt64))
      let x5 : Int64 := (F202 p (x4 * (v4).toInt64) v3)
      let p6 : PM := F4 p (F104 p v8) v1 ((F116 p x3 v2 v3)).toInt32
      let p7 : PM := pJ p6 0 (F104 p v8) 4 ((p6.2.1 0 (F104 p v8) 4) + x5)
      let p8 : PM := pJ p7 0 v5 4 ((p7.2.1 0 v5 4) - x5)
      let x9 : Int64 := (v6 + (F116 p x3 v2 v3))
      kv14 p8 v1 v2 v3 v4 v5 x9 (v8 + (cn 1)))
    else (
      let p2 : PM := F4 p v5 v1 ((-v6)).toInt32
      p2))
  else (
    let p1 : PM := F4 p v5 v1 ((-v6)).toInt32
    p1)
noncomputable def v7_convertPositions_14 (n : Nat) : PM → Int32 → Int32 → Int32 → Int32 → Nat → Int64 → Int32 → PM := Nat.rec (motive := fun _ => PM → Int32 → Int32 → Int32 → Int32 → Nat → Int64 → Int32 → PM) (fun p _ _ _ _ _ _ _ => p) (fun _ ih => bv7_convertPositions_14 v0_holds v0_put v7_accountAt v7_scaled v14_floorDiv_b2ac5 ih) n
theorem ev7_convertPositions_14 (n : Nat) (p : PM) (v1 : Int32) (v2 : Int32) (v3 : Int32) (v4 : Int32) (v5 : Nat) (v6 : Int64) (v8 : Int32) : v7_convertPositions_14 (n + 1) p v1 v2 v3 v4 v5 v6 v8 = bv7_convertPositions_14 v0_holds v0_put v7_accountAt v7_scaled v14_floorDiv_b2ac5 (v7_convertPositions_14 n) p v1 v2 v3 v4 v5 v6 v8 := rfl
noncomputable def bg7_convertPositions_14 (F2 : PM → Nat → Int32 → Int32) (G2 : PM → Nat → Int32 → Prop) (F4 : PM → Nat → Int32 → Int32 → PM) (G4 : PM → Nat → Int32 → Int32 → Prop) (F104 : PM → Int32 → Nat) (G104 : PM → Int32 → Prop) (F116 : PM → Int32 → Int32 → Int32 → Int64) (G116 : PM → Int32 → Int32 → Int32 → Prop) (F202 : PM → Int64 → Int32 → Int64) (G202 : PM → Int64 → Int32 → Prop) (kg14 : PM → Int32 → Int32 → Int32 → Int32 → Nat → Int64 → Int32 → Prop) (p : PM) (v1 : Int32) (v2 : Int32) (v3 : Int32) (v4 : Int32) (v5 : Nat) (v6 : Int64) (v8 : Int32) : Prop :=
  if v8 < (cn 8) then (
    if 0 < v3 then (
      (G104 p v8) ∧ (
      (¬ (F104 p v8) = 0) ∧ (
      (G2 p (F104 p v8) v1) ∧ (
      let x3 : Int32 := (F2 p (F104 p v8) v1)
      (G116 p x3 v2 v3) ∧ (
      let x4 : Int64 := (((x3).toInt64 * (v2).toInt64) - ((F116 p x3 v2 v3) * (v3).toInt64))
      (G202 p (x4 * (v4).toInt64) v3) ∧ (
      let x5 : Int64 := (F202 p (x4 * (v4).toInt64) v3)
      (¬ (F104 p v8) = 0) ∧ (
      (G4 p (F104 p v8) v1 ((F116 p x3 v2 v3)).toInt32) ∧ (
      let p6 : PM := F4 p (F104 p v8) v1 ((F116 p x3 v2 v3)).toInt32
      (¬ (F104 p v8) = 0) ∧ (
      (¬ (F104 p v8) = 0) ∧ (
      let p7 : PM := pJ p6 0 (F104 p v8) 4 ((p6.2.1 0 (F104 p v8) 4) + x5)
      (¬ v5 = 0) ∧ (
      (¬ v5 = 0) ∧ (
      let p8 : PM := pJ p7 0 v5 4 ((p7.2.1 0 v5 4) - x5)
      let x9 : Int64 := (v6 + (F116 p x3 v2 v3))
      kg14 p8 v1 v2 v3 v4 v5 x9 (v8 + (cn 1))))))))))))))
    else (
      (¬ v5 = 0) ∧ (
      (G4 p v5 v1 ((-v6)).toInt32) ∧ (
      let p2 : PM := F4 p v5 v1 ((-v6)).toInt32
      True))))
  else (
    (¬ v5 = 0) ∧ (
    (G4 p v5 v1 ((-v6)).toInt32) ∧ (
    let p1 : PM := F4 p v5 v1 ((-v6)).toInt32
    True)))
noncomputable def g7_convertPositions_14 (n : Nat) : PM → Int32 → Int32 → Int32 → Int32 → Nat → Int64 → Int32 → Prop := Nat.rec (motive := fun _ => PM → Int32 → Int32 → Int32 → Int32 → Nat → Int64 → Int32 → Prop) (fun _ _ _ _ _ _ _ _ => False) (fun _ ih => bg7_convertPositions_14 v0_holds g0_holds v0_put g0_put v7_accountAt g7_accountAt v7_scaled g7_scaled v14_floorDiv_b2ac5 g14_floorDiv_b2ac5 ih) n
theorem eg7_convertPositions_14 (n : Nat) (p : PM) (v1 : Int32) (v2 : Int32) (v3 : Int32) (v4 : Int32) (v5 : Nat) (v6 : Int64) (v8 : Int32) : g7_convertPositions_14 (n + 1) p v1 v2 v3 v4 v5 v6 v8 = bg7_convertPositions_14 v0_holds g0_holds v0_put g0_put v7_accountAt g7_accountAt v7_scaled g7_scaled v14_floorDiv_b2ac5 g14_floorDiv_b2ac5 (g7_convertPositions_14 n) p v1 v2 v3 v4 v5 v6 v8 := rfl
noncomputable def bv7_convertPositions (F104 : PM → Int32 → Nat) (kv14 : PM → Int32 → Int32 → Int32 → Int32 → Nat → Int64 → Int32 → PM) (p : PM) (v1 : Int32) (v2 : Int32) (v3 : Int32) (v4 : Int32) : PM :=
  kv14 p v1 v2 v3 v4 (F104 p (cn 8)) (cl 0) (cn 0)
noncomputable def v7_convertPositions (p : PM) (v1 : Int32) (v2 : Int32) (v3 : Int32) (v4 : Int32) : PM := bv7_convertPositions v7_accountAt (v7_convertPositions_14 FU) p v1 v2 v3 v4
noncomputable def bg7_convertPositions (F104 : PM → Int32 → Nat) (G104 : PM → Int32 → Prop) (kg14 : PM → Int32 → Int32 → Int32 → Int32 → Nat → Int64 → Int32 → Prop) (p : PM) (v1 : Int32) (v2 : Int32) (v3 : Int32) (v4 : Int32) : Prop :=
  (G104 p (cn 8)) ∧ (
  kg14 p v1 v2 v3 v4 (F104 p (cn 8)) (cl 0) (cn 0))
noncomputable def g7_convertPositions (p : PM) (v1 : Int32) (v2 : Int32) (v3 : Int32) (v4 : Int32) : Prop := bg7_convertPositions v7_accountAt g7_accountAt (g7_convertPositions_14 FU) p v1 v2 v3 v4
def R117 : List Row := [(0, .aload_n 0, 1, 0, (0, 0, 0, 0, 0, 0)), (1, .bipush 8, 2, 0, (0, 0, 0, 0, 0, 8)), (3, .invokevirtual 95, 3, 0, (0, 2, 0, 0, 1, 0)), (6, .astore 5, 2, 0, (0, 0, 0, 0, 0, 0)), (8, .lconst 0, 1, 0, (0, 0, 0, 0, 0, 0)), (9, .lstore 6, 2, 0, (0, 0, 0, 0, 0, 0)), (11, .iconst 0, 1, 0, (0, 0, 0, 0, 0, 0)), (12, .istore 8, 2, 0, (0, 0, 0, 0, 0, 0)), (14, .iload 8, 2, 1, (0, 0, 0, 0, 0, 0)), (16, .bipush 8, 2, 0, (0, 0, 0, 0, 0, 8)), (18, .if_icmp .ge 104, 3, 0, (0, 0, 0, 0, 0, 0)), (21, .iload_n 3, 1, 0, (0, 0, 0, 0, 0, 0)), (22, .ifCond .le 100, 3, 0, (0, 0, 0, 0, 0, 0)), (25, .aload_n 0, 1, 0, (0, 0, 0, 0, 0, 0)), (26, .iload 8, 2, 0, (0, 0, 0, 0, 0, 0)), (28, .invokevirtual 95, 3, 0, (0, 2, 0, 0, 1, 0)), (31, .astore 9, 2, 0, (0, 0, 0, 0, 0, 0)), (33, .aload 9, 2, 0, (0, 0, 0, 0, 0, 0)), (35, .iload_n 1, 1, 0, (0, 0, 0, 0, 0, 0)), (36, .invokevirtual 111, 3, 0, (2, 2, 0, 0, 2, 0)), (39, .istore 10, 2, 0, (0, 0, 0, 0, 0, 0)), (41, .iload 10, 2, 0, (0, 0, 0, 0, 0, 0)), (43, .iload_n 2, 1, 0, (0, 0, 0, 0, 0, 0)), (44, .iload_n 3, 1, 0, (0, 0, 0, 0, 0, 0)), (45, .invokestatic 131, 3, 0, (3, 3, 0, 0, 0, 0)), (48, .lstore 11, 2, 0, (0, 0, 0, 0, 0, 0)), (50, .iload 10, 2, 0, (0, 0, 0, 0, 0, 0)), (52, .i2l, 1, 0, (0, 0, 0, 0, 0, 0)), (53, .iload_n 2, 1, 0, (0, 0, 0, 0, 0, 0)), (54, .i2l, 1, 0, (0, 0, 0, 0, 0, 0)), (55, .lmul, 1, 0, (0, 0, 0, 0, 0, 0)), (56, .lload 11, 2, 0, (0, 0, 0, 0, 0, 0)), (58, .iload_n 3, 1, 0, (0, 0, 0, 0, 0, 0)), (59, .i2l, 1, 0, (0, 0, 0, 0, 0, 0)), (60, .lmul, 1, 0, (0, 0, 0, 0, 0, 0)), (61, .lsub, 1, 0, (0, 0, 0, 0, 0, 0)), (62, .lstore 13, 2, 0, (0, 0, 0, 0, 0, 0)), (64, .lload 13, 2, 0, (0, 0, 0, 0, 0, 0)), (66, .iload 4, 2, 0, (0, 0, 0, 0, 0, 0)), (68, .i2l, 1, 0, (0, 0, 0, 0, 0, 0)), (69, .lmul, 1, 0, (0, 0, 0, 0, 0, 0)), (70, .iload_n 3, 1, 0, (0, 0, 0, 0, 0, 0)), (71, .invokestatic 141, 3, 0, (4, 2, 0, 0, 0, 0)), (74, .lstore 15, 2, 0, (0, 0, 0, 0, 0, 0)), (76, .aload 9, 2, 0, (0, 0, 0, 0, 0, 0)), (78, .iload_n 1, 1, 0, (0, 0, 0, 0, 0, 0)), (79, .lload 11, 2, 0, (0, 0, 0, 0, 0, 0)), (81, .l2i, 1, 0, (0, 0, 0, 0, 0, 0)), (82, .invokevirtual 119, 3, 0, (1, 3, 0, 0, 2, 0)), (85, .aload 9, 2, 0, (0, 0, 0, 0, 0, 0)), (87, .dup, 1, 0, (0, 0, 0, 0, 0, 0)), (88, .getfield 91, 3, 0, (0, 4, 2, 0, 0, 0)), (91, .lload 15, 2, 0, (0, 0, 0, 0, 0, 0)), (93, .ladd, 1, 0, (0, 0, 0, 0, 0, 0)), (94, .putfield 91, 3, 0, (0, 4, 2, 0, 0, 0)), (97, .aload 5, 2, 0, (0, 0, 0, 0, 0, 0)), (99, .dup, 1, 0, (0, 0, 0, 0, 0, 0)), (100, .getfield 91, 3, 0, (0, 4, 2, 0, 0, 0)), (103, .lload 15, 2, 0, (0, 0, 0, 0, 0, 0)), (105, .lsub, 1, 0, (0, 0, 0, 0, 0, 0)), (106, .putfield 91, 3, 0, (0, 4, 2, 0, 0, 0)), (109, .lload 6, 2, 0, (0, 0, 0, 0, 0, 0)), (111, .lload 11, 2, 0, (0, 0, 0, 0, 0, 0)), (113, .ladd, 1, 0, (0, 0, 0, 0, 0, 0)), (114, .lstore 6, 2, 0, (0, 0, 0, 0, 0, 0)), (116, .iinc 8 1, 3, 0, (0, 0, 0, 0, 0, 1)), (119, .goto (-105), 3, 0, (0, 0, 0, 0, 0, 0)), (122, .aload 5, 2, 0, (0, 0, 0, 0, 0, 0)), (124, .iload_n 1, 1, 0, (0, 0, 0, 0, 0, 0)), (125, .lload 6, 2, 0, (0, 0, 0, 0, 0, 0)), (127, .lneg, 1, 0, (0, 0, 0, 0, 0, 0)), (128, .l2i, 1, 0, (0, 0, 0, 0, 0, 0)), (129, .invokevirtual 119, 3, 0, (1, 3, 0, 0, 2, 0)), (132, .return_, 1, 0, (0, 0, 0, 0, 0, 0))]
set_option maxRecDepth 100000 in
theorem rk117 : R117.all (rok 0 117 0 [(104, [10, 0]), (4, [3, 0, 0]), (2, [3, 0]), (116, [0, 0, 0]), (202, [1, 0])]) = true := by decide +kernel
set_option maxRecDepth 100000 in
theorem tab117 {F104 : PM → Int32 → Nat} {G104 : PM → Int32 → Prop} {F4 : PM → Nat → Int32 → Int32 → PM} {G4 : PM → Nat → Int32 → Int32 → Prop} {F2 : PM → Nat → Int32 → Int32} {G2 : PM → Nat → Int32 → Prop} {F116 : PM → Int32 → Int32 → Int32 → Int64} {G116 : PM → Int32 → Int32 → Int32 → Prop} {F202 : PM → Int64 → Int32 → Int64} {G202 : PM → Int64 → Int32 → Prop} : TabOK 0 117 0 [CC104 F104 G104, CC4 F4 G4, CC2 F2 G2, CC116 F116 G116, CC202 F202 G202] R117 := tab_ok (K := K117) rfl rfl (fun h => d117 h) rk117 (by decide +kernel)
set_option maxRecDepth 100000 in
theorem pc117 : cutpc [14] R117 = true := by decide +kernel
set_option maxRecDepth 100000 in
theorem r7_convertPositions_14 (F104 : PM → Int32 → Nat) (G104 : PM → Int32 → Prop) (o104 : CalOK 0 (CC104 F104 G104)) (F4 : PM → Nat → Int32 → Int32 → PM) (G4 : PM → Nat → Int32 → Int32 → Prop) (o4 : CalOK 0 (CC4 F4 G4)) (F2 : PM → Nat → Int32 → Int32) (G2 : PM → Nat → Int32 → Prop) (o2 : CalOK 0 (CC2 F2 G2)) (F116 : PM → Int32 → Int32 → Int32 → Int64) (G116 : PM → Int32 → Int32 → Int32 → Prop) (o116 : CalOK 0 (CC116 F116 G116)) (F202 : PM → Int64 → Int32 → Int64) (G202 : PM → Int64 → Int32 → Prop) (o202 : CalOK 0 (CC202 F202 G202)) (kv14 : PM → Int32 → Int32 → Int32 → Int32 → Nat → Int64 → Int32 → PM) (kg14 : PM → Int32 → Int32 → Int32 → Int32 → Nat → Int64 → Int32 → Prop) (hk14 : ∀ (p : PM) (v1 : Int32) (v2 : Int32) (v3 : Int32) (v4 : Int32) (v5 : Nat) (v6 : Int64) (v8 : Int32) (d7 d9 d10 d11 d12 d13 d14 d15 d16 : ZV), Gr 0 p → kg14 p v1 v2 v3 v4 v5 v6 v8 → ZJ 0 117 14 [zR 7 1, zI v1, zI v2, zI v3, zI v4, zR 0 v5, zL v6, d7, zI v8, d9, d10, d11, d12, d13, d14, d15, d16] [] p (hwV (kv14 p v1 v2 v3 v4 v5 v6 v8))) : ∀ (p : PM) (v1 : Int32) (v2 : Int32) (v3 : Int32) (v4 : Int32) (v5 : Nat) (v6 : Int64) (v8 : Int32) (d7 d9 d10 d11 d12 d13 d14 d15 d16 : ZV), Gr 0 p → bg7_convertPositions_14 F2 G2 F4 G4 F104 G104 F116 G116 F202 G202 kg14 p v1 v2 v3 v4 v5 v6 v8 → ZJ 0 117 14 [zR 7 1, zI v1, zI v2, zI v3, zI v4, zR 0 v5, zL v6, d7, zI v8, d9, d10, d11, d12, d13, d14, d15, d16] [] p (hwV (bv7_convertPositions_14 F2 F4 F104 F116 F202 kv14 p v1 v2 v3 v4 v5 v6 v8)) := by
  intro p v1 v2 v3 v4 v5 v6 v8 d7 d9 d10 d11 d12 d13 d14 d15 d16 hg H
  exact rwV (n := 3000) (q := 14) (la := [zR 7 1, zI v1, zI v2, zI v3, zI v4, zR 0 v5, zL v6, d7, zI v8, d9, d10, d11, d12, d13, d14, d15, d16]) (sa := []) (ks := [fun la sa s => kv14 s (ai la 1) (ai la 2) (ai la 3) (ai la 4) (ar la 5) (al la 6) (ai la 8)]) (gs := [fun la sa s => zsw (tc2 la [(107, 1), (0, 0), (0, 0), (0, 0), (0, 0), (4, 0), (1, 0), (2, 0), (0, 0), (2, 0), (2, 0), (2, 0), (2, 0), (2, 0), (2, 0), (2, 0), (2, 0)] && tc2 sa []) False (kg14 s (ai la 1) (ai la 2) (ai la 3) (ai la 4) (ar la 5) (al la 6) (ai la 8))]) (fcons o104 (fcons o4 (fcons o2 (fcons o116 (fcons o202 (fnil)))))) tab117 pc117 ⟨fun la sa s hg H => zcut H fun H => hk14 s (ai la 1) (ai la 2) (ai la 3) (ai la 4) (ar la 5) (al la 6) (ai la 8) (zld la 7) (zld la 9) (zld la 10) (zld la 11) (zld la 12) (zld la 13) (zld la 14) (zld la 15) (zld la 16) hg H, trivial⟩ hg H
theorem t7_convertPositions_14 : ∀ (n : Nat), ∀ (p : PM) (v1 : Int32) (v2 : Int32) (v3 : Int32) (v4 : Int32) (v5 : Nat) (v6 : Int64) (v8 : Int32) (d7 d9 d10 d11 d12 d13 d14 d15 d16 : ZV), Gr 0 p → g7_convertPositions_14 n p v1 v2 v3 v4 v5 v6 v8 → ZJ 0 117 14 [zR 7 1, zI v1, zI v2, zI v3, zI v4, zR 0 v5, zL v6, d7, zI v8, d9, d10, d11, d12, d13, d14, d15, d16] [] p (hwV (v7_convertPositions_14 n p v1 v2 v3 v4 v5 v6 v8)) := by
  intro n
  induction n with
  | zero =>
    intro p v1 v2 v3 v4 v5 v6 v8 d7 d9 d10 d11 d12 d13 d14 d15 d16 hg H
    exact H.elim
  | succ n ih => exact r7_convertPositions_14 v7_accountAt g7_accountAt ok104 v0_put g0_put ok4 v0_holds g0_holds ok2 v7_scaled g7_scaled ok116 v14_floorDiv_b2ac5 g14_floorDiv_b2ac5 ok202 (v7_convertPositions_14 n) (g7_convertPositions_14 n) ih
set_option maxRecDepth 100000 in
theorem r7_convertPositions (F104 : PM → Int32 → Nat) (G104 : PM → Int32 → Prop) (o104 : CalOK 0 (CC104 F104 G104)) (F4 : PM → Nat → Int32 → Int32 → PM) (G4 : PM → Nat → Int32 → Int32 → Prop) (o4 : CalOK 0 (CC4 F4 G4)) (F2 : PM → Nat → Int32 → Int32) (G2 : PM → Nat → Int32 → Prop) (o2 : CalOK 0 (CC2 F2 G2)) (F116 : PM → Int32 → Int32 → Int32 → Int64) (G116 : PM → Int32 → Int32 → Int32 → Prop) (o116 : CalOK 0 (CC116 F116 G116)) (F202 : PM → Int64 → Int32 → Int64) (G202 : PM → Int64 → Int32 → Prop) (o202 : CalOK 0 (CC202 F202 G202)) (kv14 : PM → Int32 → Int32 → Int32 → Int32 → Nat → Int64 → Int32 → PM) (kg14 : PM → Int32 → Int32 → Int32 → Int32 → Nat → Int64 → Int32 → Prop) (hk14 : ∀ (p : PM) (v1 : Int32) (v2 : Int32) (v3 : Int32) (v4 : Int32) (v5 : Nat) (v6 : Int64) (v8 : Int32) (d7 d9 d10 d11 d12 d13 d14 d15 d16 : ZV), Gr 0 p → kg14 p v1 v2 v3 v4 v5 v6 v8 → ZJ 0 117 14 [zR 7 1, zI v1, zI v2, zI v3, zI v4, zR 0 v5, zL v6, d7, zI v8, d9, d10, d11, d12, d13, d14, d15, d16] [] p (hwV (kv14 p v1 v2 v3 v4 v5 v6 v8))) : ∀ (p : PM) (v1 : Int32) (v2 : Int32) (v3 : Int32) (v4 : Int32), Gr 0 p → bg7_convertPositions F104 G104 kg14 p v1 v2 v3 v4 → ZJ 0 117 0 [zR 7 1, zI v1, zI v2, zI v3, zI v4, zJ, zJ, zJ, zJ, zJ, zJ, zJ, zJ, zJ, zJ, zJ, zJ] [] p (hwV (bv7_convertPositions F104 kv14 p v1 v2 v3 v4)) := by
  intro p v1 v2 v3 v4  hg H
  exact rwV (n := 3000) (q := 0) (la := [zR 7 1, zI v1, zI v2, zI v3, zI v4, zJ, zJ, zJ, zJ, zJ, zJ, zJ, zJ, zJ, zJ, zJ, zJ]) (sa := []) (ks := [fun la sa s => kv14 s (ai la 1) (ai la 2) (ai la 3) (ai la 4) (ar la 5) (al la 6) (ai la 8)]) (gs := [fun la sa s => zsw (tc2 la [(107, 1), (0, 0), (0, 0), (0, 0), (0, 0), (4, 0), (1, 0), (2, 0), (0, 0), (2, 0), (2, 0), (2, 0), (2, 0), (2, 0), (2, 0), (2, 0), (2, 0)] && tc2 sa []) False (kg14 s (ai la 1) (ai la 2) (ai la 3) (ai la 4) (ar la 5) (al la 6) (ai la 8))]) (fcons o104 (fcons o4 (fcons o2 (fcons o116 (fcons o202 (fnil)))))) tab117 pc117 ⟨fun la sa s hg H => zcut H fun H => hk14 s (ai la 1) (ai la 2) (ai la 3) (ai la 4) (ar la 5) (al la 6) (ai la 8) (zld la 7) (zld la 9) (zld la 10) (zld la 11) (zld la 12) (zld la 13) (zld la 14) (zld la 15) (zld la 16) hg H, trivial⟩ hg H
theorem t7_convertPositions : ∀ (p : PM) (v1 : Int32) (v2 : Int32) (v3 : Int32) (v4 : Int32), Gr 0 p → g7_convertPositions p v1 v2 v3 v4 → ZJ 0 117 0 [zR 7 1, zI v1, zI v2, zI v3, zI v4, zJ, zJ, zJ, zJ, zJ, zJ, zJ, zJ, zJ, zJ, zJ, zJ] [] p (hwV (v7_convertPositions p v1 v2 v3 v4)) := r7_convertPositions v7_accountAt g7_accountAt ok104 v0_put g0_put ok4 v0_holds g0_holds ok2 v7_scaled g7_scaled ok116 v14_floorDiv_b2ac5 g14_floorDiv_b2ac5 ok202 (v7_convertPositions_14 FU) (g7_convertPositions_14 FU) (t7_convertPositions_14 FU)
def CC117 (F : PM → Int32 → Int32 → Int32 → Int32 → PM) (G : PM → Int32 → Int32 → Int32 → Int32 → Prop) : Cal := (117, [10, 0, 0, 0, 0], 0, false, fun as p => (zJ, (F p (ai as 1) (ai as 2) (ai as 3) (ai as 4))), fun as p => zsw (tc2 as [(107, 1), (0, 0), (0, 0), (0, 0), (0, 0)]) False (G p (ai as 1) (ai as 2) (ai as 3) (ai as 4)))
set_option maxRecDepth 100000 in
theorem okr117 (F : PM → Int32 → Int32 → Int32 → Int32 → PM) (G : PM → Int32 → Int32 → Int32 → Int32 → Prop) (h : ∀ (p : PM) (v1 : Int32) (v2 : Int32) (v3 : Int32) (v4 : Int32), Gr 0 p → G p v1 v2 v3 v4 → ZJ 0 117 0 [zR 7 1, zI v1, zI v2, zI v3, zI v4, zJ, zJ, zJ, zJ, zJ, zJ, zJ, zJ, zJ, zJ, zJ, zJ] [] p (hwV (F p v1 v2 v3 v4))) : CalOK 0 (CC117 F G) := cal_ok (m := 17) (by unfold mL; rw [mX_117]) (fun as p hg H => h p (ai as 1) (ai as 2) (ai as 3) (ai as 4) hg H)
theorem ok117 : CalOK 0 (CC117 v7_convertPositions g7_convertPositions) := okr117 v7_convertPositions g7_convertPositions t7_convertPositions
noncomputable def bv5_convertContract (F68 : PM → Int32 → Int32 → Int32 → Int32) (F73 : PM → Int32 → Nat) (F87 : PM → Int32 → Int32 × PM) (F117 : PM → Int32 → Int32 → Int32 → Int32 → PM) (F118 : PM → Int32 → PM) (p : PM) (v1 : Int32) (v2 : Int32) (v3 : Int32) : Int32 × PM :=
  let r1 : Int32 × PM := F87 p v1
  let p2 : PM := F118 r1.2 v1
  let p3 : PM := pI p2 1 (F73 p2 v1) 3 (F68 p2 (p2.1 1 (F73 p2 v1) 3) v2 v3)
  let p4 : PM := pI p3 1 (F73 p2 v1) 4 (F68 p3 (p3.1 1 (F73 p2 v1) 4) v2 v3)
  let p5 : PM := F117 p4 v1 v2 v3 (p4.1 1 (F73 p2 v1) 3)
  (r1.1, p5)
noncomputable def v5_convertContract (p : PM) (v1 : Int32) (v2 : Int32) (v3 : Int32) : Int32 × PM := bv5_convertContract v5_convertPrice v6_bookAt v6_withdrawContract v7_convertPositions v7_forget p v1 v2 v3
noncomputable def bg5_convertContract (F68 : PM → Int32 → Int32 → Int32 → Int32) (G68 : PM → Int32 → Int32 → Int32 → Prop) (F73 : PM → Int32 → Nat) (G73 : PM → Int32 → Prop) (F87 : PM → Int32 → Int32 × PM) (G87 : PM → Int32 → Prop) (F117 : PM → Int32 → Int32 → Int32 → Int32 → PM) (G117 : PM → Int32 → Int32 → Int32 → Int32 → Prop) (F118 : PM → Int32 → PM) (G118 : PM → Int32 → Prop) (p : PM) (v1 : Int32) (v2 : Int32) (v3 : Int32) : Prop :=
  (G87 p v1) ∧ (
  let r1 : Int32 × PM := F87 p v1
  (G118 r1.2 v1) ∧ (
  let p2 : PM := F118 r1.2 v1
  (G73 p2 v1) ∧ (
  (¬ (F73 p2 v1) = 0) ∧ (
  (G68 p2 (p2.1 1 (F73 p2 v1) 3) v2 v3) ∧ (
  (¬ (F73 p2 v1) = 0) ∧ (
  let p3 : PM := pI p2 1 (F73 p2 v1) 3 (F68 p2 (p2.1 1 (F73 p2 v1) 3) v2 v3)
  (¬ (F73 p2 v1) = 0) ∧ (
  (G68 p3 (p3.1 1 (F73 p2 v1) 4) v2 v3) ∧ (
  (¬ (F73 p2 v1) = 0) ∧ (
  let p4 : PM := pI p3 1 (F73 p2 v1) 4 (F68 p3 (p3.1 1 (F73 p2 v1) 4) v2 v3)
  (¬ (F73 p2 v1) = 0) ∧ (
  (G117 p4 v1 v2 v3 (p4.1 1 (F73 p2 v1) 3)) ∧ (
  let p5 : PM := F117 p4 v1 v2 v3 (p4.1 1 (F73 p2 v1) 3)
  True)))))))))))
noncomputable def g5_convertContract (p : PM) (v1 : Int32) (v2 : Int32) (v3 : Int32) : Prop := bg5_convertContract v5_convertPrice g5_convertPrice v6_bookAt g6_bookAt v6_withdrawContract g6_withdrawContract v7_convertPositions g7_convertPositions v7_forget g7_forget p v1 v2 v3
def R67 : List Row := [(0, .aload_n 0, 1, 0, (0, 0, 0, 0, 0, 0)), (1, .getfield 34, 3, 0, (5, 0, 9, 2, 1, 0)), (4, .iload_n 1, 1, 0, (0, 0, 0, 0, 0, 0)), (5, .invokevirtual 192, 3, 0, (0, 2, 0, 0, 1, 0)), (8, .istore 4, 2, 0, (0, 0, 0, 0, 0, 0)), (10, .aload_n 0, 1, 0, (0, 0, 0, 0, 0, 0)), (11, .getfield 19, 3, 0, (5, 1, 10, 2, 1, 0)), (14, .iload_n 1, 1, 0, (0, 0, 0, 0, 0, 0)), (15, .invokevirtual 195, 3, 0, (1, 2, 0, 0, 1, 0)), (18, .aload_n 0, 1, 0, (0, 0, 0, 0, 0, 0)), (19, .getfield 34, 3, 0, (5, 0, 9, 2, 1, 0)), (22, .iload_n 1, 1, 0, (0, 0, 0, 0, 0, 0)), (23, .invokevirtual 87, 3, 0, (2, 2, 0, 0, 1, 0)), (26, .astore 5, 2, 0, (0, 0, 0, 0, 0, 0)), (28, .aload 5, 2, 0, (0, 0, 0, 0, 0, 0)), (30, .aload 5, 2, 0, (0, 0, 0, 0, 0, 0)), (32, .getfield 198, 3, 0, (1, 3, 0, 0, 0, 0)), (35, .iload_n 2, 1, 0, (0, 0, 0, 0, 0, 0)), (36, .iload_n 3, 1, 0, (0, 0, 0, 0, 0, 0)), (37, .invokestatic 201, 3, 0, (3, 3, 0, 0, 0, 0)), (40, .putfield 198, 3, 0, (1, 3, 0, 0, 0, 0)), (43, .aload 5, 2, 0, (0, 0, 0, 0, 0, 0)), (45, .aload 5, 2, 0, (0, 0, 0, 0, 0, 0)), (47, .getfield 205, 3, 0, (1, 4, 0, 0, 0, 0)), (50, .iload_n 2, 1, 0, (0, 0, 0, 0, 0, 0)), (51, .iload_n 3, 1, 0, (0, 0, 0, 0, 0, 0)), (52, .invokestatic 201, 3, 0, (3, 3, 0, 0, 0, 0)), (55, .putfield 205, 3, 0, (1, 4, 0, 0, 0, 0)), (58, .aload_n 0, 1, 0, (0, 0, 0, 0, 0, 0)), (59, .getfield 19, 3, 0, (5, 1, 10, 2, 1, 0)), (62, .iload_n 1, 1, 0, (0, 0, 0, 0, 0, 0)), (63, .iload_n 2, 1, 0, (0, 0, 0, 0, 0, 0)), (64, .iload_n 3, 1, 0, (0, 0, 0, 0, 0, 0)), (65, .aload 5, 2, 0, (0, 0, 0, 0, 0, 0)), (67, .getfield 198, 3, 0, (1, 3, 0, 0, 0, 0)), (70, .invokevirtual 208, 3, 0, (4, 5, 0, 0, 1, 0)), (73, .iload 4, 2, 0, (0, 0, 0, 0, 0, 0)), (75, .ireturn, 1, 0, (0, 0, 0, 0, 0, 0))]
set_option maxRecDepth 100000 in
theorem rk67 : R67.all (rok 0 67 1 [(87, [9, 0]), (118, [10, 0]), (73, [9, 0]), (68, [0, 0, 0]), (117, [10, 0, 0, 0, 0])]) = true := by decide +kernel
set_option maxRecDepth 100000 in
theorem tab67 {F87 : PM → Int32 → Int32 × PM} {G87 : PM → Int32 → Prop} {F118 : PM → Int32 → PM} {G118 : PM → Int32 → Prop} {F73 : PM → Int32 → Nat} {G73 : PM → Int32 → Prop} {F68 : PM → Int32 → Int32 → Int32 → Int32} {G68 : PM → Int32 → Int32 → Int32 → Prop} {F117 : PM → Int32 → Int32 → Int32 → Int32 → PM} {G117 : PM → Int32 → Int32 → Int32 → Int32 → Prop} : TabOK 0 67 1 [CC87 F87 G87, CC118 F118 G118, CC73 F73 G73, CC68 F68 G68, CC117 F117 G117] R67 := tab_ok (K := K67) rfl rfl (fun h => d67 h) rk67 (by decide +kernel)
set_option maxRecDepth 100000 in
theorem pc67 : cutpc [] R67 = true := by decide +kernel
set_option maxRecDepth 100000 in
theorem r5_convertContract (F87 : PM → Int32 → Int32 × PM) (G87 : PM → Int32 → Prop) (o87 : CalOK 0 (CC87 F87 G87)) (F118 : PM → Int32 → PM) (G118 : PM → Int32 → Prop) (o118 : CalOK 0 (CC118 F118 G118)) (F73 : PM → Int32 → Nat) (G73 : PM → Int32 → Prop) (o73 : CalOK 0 (CC73 F73 G73)) (F68 : PM → Int32 → Int32 → Int32 → Int32) (G68 : PM → Int32 → Int32 → Int32 → Prop) (o68 : CalOK 0 (CC68 F68 G68)) (F117 : PM → Int32 → Int32 → Int32 → Int32 → PM) (G117 : PM → Int32 → Int32 → Int32 → Int32 → Prop) (o117 : CalOK 0 (CC117 F117 G117)) : ∀ (p : PM) (v1 : Int32) (v2 : Int32) (v3 : Int32), Gr 0 p → bg5_convertContract F68 G68 F73 G73 F87 G87 F117 G117 F118 G118 p v1 v2 v3 → ZJ 0 67 0 [zR 5 1, zI v1, zI v2, zI v3, zJ, zJ] [] p (hwI (bv5_convertContract F68 F73 F87 F117 F118 p v1 v2 v3)) := by
  intro p v1 v2 v3  hg H
  exact rwI (n := 3000) (q := 0) (la := [zR 5 1, zI v1, zI v2, zI v3, zJ, zJ]) (sa := []) (ks := []) (gs := []) (fcons o87 (fcons o118 (fcons o73 (fcons o68 (fcons o117 (fnil)))))) tab67 pc67 trivial hg H
theorem t5_convertContract : ∀ (p : PM) (v1 : Int32) (v2 : Int32) (v3 : Int32), Gr 0 p → g5_convertContract p v1 v2 v3 → ZJ 0 67 0 [zR 5 1, zI v1, zI v2, zI v3, zJ, zJ] [] p (hwI (v5_convertContract p v1 v2 v3)) := r5_convertContract v6_withdrawContract g6_withdrawContract ok87 v7_forget g7_forget ok118 v6_bookAt g6_bookAt ok73 v5_convertPrice g5_convertPrice ok68 v7_convertPositions g7_convertPositions ok117
def CC67 (F : PM → Int32 → Int32 → Int32 → Int32 × PM) (G : PM → Int32 → Int32 → Int32 → Prop) : Cal := (67, [8, 0, 0, 0], 1, false, fun as p => (zI (F p (ai as 1) (ai as 2) (ai as 3)).1, (F p (ai as 1) (ai as 2) (ai as 3)).2), fun as p => zsw (tc2 as [(105, 1), (0, 0), (0, 0), (0, 0)]) False (G p (ai as 1) (ai as 2) (ai as 3)))
set_option maxRecDepth 100000 in
theorem okr67 (F : PM → Int32 → Int32 → Int32 → Int32 × PM) (G : PM → Int32 → Int32 → Int32 → Prop) (h : ∀ (p : PM) (v1 : Int32) (v2 : Int32) (v3 : Int32), Gr 0 p → G p v1 v2 v3 → ZJ 0 67 0 [zR 5 1, zI v1, zI v2, zI v3, zJ, zJ] [] p (hwI (F p v1 v2 v3))) : CalOK 0 (CC67 F G) := cal_ok (m := 6) (by unfold mL; rw [mX_67]) (fun as p hg H => h p (ai as 1) (ai as 2) (ai as 3) hg H)
theorem ok67 : CalOK 0 (CC67 v5_convertContract g5_convertContract) := okr67 v5_convertContract g5_convertContract t5_convertContract
noncomputable def bv6_withdrawMember_14 (kv14 : PM → Int32 → Int32 → Int32 → Int32 × PM) (p : PM) (v1 : Int32) (v2 : Int32) (v5 : Int32) : Int32 × PM :=
  if v5 < (cn 40) then (
    if (p.1 10 ((v5).toNatClampNeg + 1) 2) = 0 then (
      kv14 p v1 v2 (v5 + (cn 1)))
    else (
      if (p.1 0 (p.2.2 10 ((v5).toNatClampNeg + 1) 3) 1) = v1 then (
        let p1 : PM := pI p 10 ((v5).toNatClampNeg + 1) 2 (cn 0)
        kv14 p1 v1 (v2 + (cn 1)) (v5 + (cn 1)))
      else (
        kv14 p v1 v2 (v5 + (cn 1)))))
  else (
    (v2, p))
noncomputable def v6_withdrawMember_14 (n : Nat) : PM → Int32 → Int32 → Int32 → Int32 × PM := Nat.rec (motive := fun _ => PM → Int32 → Int32 → Int32 → Int32 × PM) (fun p _ _ _ => (0, p)) (fun _ ih => bv6_withdrawMember_14 ih) n
theorem ev6_withdrawMember_14 (n : Nat) (p : PM) (v1 : Int32) (v2 : Int32) (v5 : Int32) : v6_withdrawMember_14 (n + 1) p v1 v2 v5 = bv6_withdrawMember_14 (v6_withdrawMember_14 n) p v1 v2 v5 := rfl
noncomputable def bg6_withdrawMember_14 (kg14 : PM → Int32 → Int32 → Int32 → Prop) (p : PM) (v1 : Int32) (v2 : Int32) (v5 : Int32) : Prop :=
  if v5 < (cn 40) then (
    (inb v5 40) ∧ (
    if (p.1 10 ((v5).toNatClampNeg + 1) 2) = 0 then (
      kg14 p v1 v2 (v5 + (cn 1)))
    else (
      (¬ (p.2.2 10 ((v5).toNatClampNeg + 1) 3) = 0) ∧ (
      if (p.1 0 (p.2.2 10 ((v5).toNatClampNeg + 1) 3) 1) = v1 then (
        let p1 : PM := pI p 10 ((v5).toNatClampNeg + 1) 2 (cn 0)
        kg14 p1 v1 (v2 + (cn 1)) (v5 + (cn 1)))
      else (
        kg14 p v1 v2 (v5 + (cn 1)))))))
  else (
    True)
noncomputable def g6_withdrawMember_14 (n : Nat) : PM → Int32 → Int32 → Int32 → Prop := Nat.rec (motive := fun _ => PM → Int32 → Int32 → Int32 → Prop) (fun _ _ _ _ => False) (fun _ ih => bg6_withdrawMember_14 ih) n
theorem eg6_withdrawMember_14 (n : Nat) (p : PM) (v1 : Int32) (v2 : Int32) (v5 : Int32) : g6_withdrawMember_14 (n + 1) p v1 v2 v5 = bg6_withdrawMember_14 (g6_withdrawMember_14 n) p v1 v2 v5 := rfl
noncomputable def bv6_withdrawMember (kv14 : PM → Int32 → Int32 → Int32 → Int32 × PM) (p : PM) (v1 : Int32) : Int32 × PM :=
  kv14 p v1 (cn 0) (cn 0)
noncomputable def v6_withdrawMember (p : PM) (v1 : Int32) : Int32 × PM := bv6_withdrawMember (v6_withdrawMember_14 FU) p v1
noncomputable def bg6_withdrawMember (kg14 : PM → Int32 → Int32 → Int32 → Prop) (p : PM) (v1 : Int32) : Prop :=
  kg14 p v1 (cn 0) (cn 0)
noncomputable def g6_withdrawMember (p : PM) (v1 : Int32) : Prop := bg6_withdrawMember (g6_withdrawMember_14 FU) p v1
def R88 : List Row := [(0, .iconst 0, 1, 0, (0, 0, 0, 0, 0, 0)), (1, .istore_n 2, 1, 0, (0, 0, 0, 0, 0, 0)), (2, .aload_n 0, 1, 0, (0, 0, 0, 0, 0, 0)), (3, .getfield 11, 3, 0, (6, 1, 23, 2, 1, 0)), (6, .astore_n 3, 1, 0, (0, 0, 0, 0, 0, 0)), (7, .aload_n 3, 1, 0, (0, 0, 0, 0, 0, 0)), (8, .arraylength, 1, 0, (20, 40, 0, 0, 0, 40)), (9, .istore 4, 2, 0, (0, 0, 0, 0, 0, 0)), (11, .iconst 0, 1, 0, (0, 0, 0, 0, 0, 0)), (12, .istore 5, 2, 0, (0, 0, 0, 0, 0, 0)), (14, .iload 5, 2, 1, (0, 0, 0, 0, 0, 0)), (16, .iload 4, 2, 0, (0, 0, 0, 0, 0, 0)), (18, .if_icmp .ge 44, 3, 0, (0, 0, 0, 0, 0, 0)), (21, .aload_n 3, 1, 0, (0, 0, 0, 0, 0, 0)), (22, .iload 5, 2, 0, (0, 0, 0, 0, 0, 0)), (24, .aaload, 1, 0, (20, 40, 0, 1, 1, 0)), (25, .astore 6, 2, 0, (0, 0, 0, 0, 0, 0)), (27, .aload 6, 2, 0, (0, 0, 0, 0, 0, 0)), (29, .getfield 29, 3, 0, (10, 2, 0, 1, 0, 0)), (32, .ifCond .eq 24, 3, 0, (0, 0, 0, 0, 0, 0)), (35, .aload 6, 2, 0, (0, 0, 0, 0, 0, 0)), (37, .getfield 115, 3, 0, (10, 3, 3, 1, 0, 0)), (40, .getfield 138, 3, 0, (0, 1, 0, 0, 0, 0)), (43, .iload_n 1, 1, 0, (0, 0, 0, 0, 0, 0)), (44, .if_icmp .ne 12, 3, 0, (0, 0, 0, 0, 0, 0)), (47, .aload 6, 2, 0, (0, 0, 0, 0, 0, 0)), (49, .iconst 0, 1, 0, (0, 0, 0, 0, 0, 0)), (50, .putfield 29, 3, 0, (10, 2, 0, 1, 0, 0)), (53, .iinc 2 1, 3, 0, (0, 0, 0, 0, 0, 1)), (56, .iinc 5 1, 3, 0, (0, 0, 0, 0, 0, 1)), (59, .goto (-45), 3, 0, (0, 0, 0, 0, 0, 0)), (62, .iload_n 2, 1, 0, (0, 0, 0, 0, 0, 0)), (63, .ireturn, 1, 0, (0, 0, 0, 0, 0, 0))]
set_option maxRecDepth 100000 in
theorem rk88 : R88.all (rok 0 88 1 []) = true := by decide +kernel
set_option maxRecDepth 100000 in
theorem tab88 : TabOK 0 88 1 [] R88 := tab_ok (K := K88) rfl rfl (fun h => d88 h) rk88 (by decide +kernel)
set_option maxRecDepth 100000 in
theorem pc88 : cutpc [14] R88 = true := by decide +kernel
set_option maxRecDepth 100000 in
theorem r6_withdrawMember_14 (kv14 : PM → Int32 → Int32 → Int32 → Int32 × PM) (kg14 : PM → Int32 → Int32 → Int32 → Prop) (hk14 : ∀ (p : PM) (v1 : Int32) (v2 : Int32) (v5 : Int32) (d0 d6 : ZV), Gr 0 p → kg14 p v1 v2 v5 → ZJ 0 88 14 [d0, zI v1, zI v2, zR 20 1, zC 40, zI v5, d6] [] p (hwI (kv14 p v1 v2 v5))) : ∀ (p : PM) (v1 : Int32) (v2 : Int32) (v5 : Int32) (d0 d6 : ZV), Gr 0 p → bg6_withdrawMember_14 kg14 p v1 v2 v5 → ZJ 0 88 14 [d0, zI v1, zI v2, zR 20 1, zC 40, zI v5, d6] [] p (hwI (bv6_withdrawMember_14 kv14 p v1 v2 v5)) := by
  intro p v1 v2 v5 d0 d6 hg H
  exact rwI (n := 3000) (q := 14) (la := [d0, zI v1, zI v2, zR 20 1, zC 40, zI v5, d6]) (sa := []) (ks := [fun la sa s => kv14 s (ai la 1) (ai la 2) (ai la 5)]) (gs := [fun la sa s => zsw (tc2 la [(2, 0), (0, 0), (0, 0), (120, 1), (3, 40), (0, 0), (2, 0)] && tc2 sa []) False (kg14 s (ai la 1) (ai la 2) (ai la 5))]) (fnil) tab88 pc88 ⟨fun la sa s hg H => zcut H fun H => hk14 s (ai la 1) (ai la 2) (ai la 5) (zld la 0) (zld la 6) hg H, trivial⟩ hg H
theorem t6_withdrawMember_14 : ∀ (n : Nat), ∀ (p : PM) (v1 : Int32) (v2 : Int32) (v5 : Int32) (d0 d6 : ZV), Gr 0 p → g6_withdrawMember_14 n p v1 v2 v5 → ZJ 0 88 14 [d0, zI v1, zI v2, zR 20 1, zC 40, zI v5, d6] [] p (hwI (v6_withdrawMember_14 n p v1 v2 v5)) := by
  intro n
  induction n with
  | zero =>
    intro p v1 v2 v5 d0 d6 hg H
    exact H.elim
  | succ n ih => exact r6_withdrawMember_14 (v6_withdrawMember_14 n) (g6_withdrawMember_14 n) ih
set_option maxRecDepth 100000 in
theorem r6_withdrawMember (kv14 : PM → Int32 → Int32 → Int32 → Int32 × PM) (kg14 : PM → Int32 → Int32 → Int32 → Prop) (hk14 : ∀ (p : PM) (v1 : Int32) (v2 : Int32) (v5 : Int32) (d0 d6 : ZV), Gr 0 p → kg14 p v1 v2 v5 → ZJ 0 88 14 [d0, zI v1, zI v2, zR 20 1, zC 40, zI v5, d6] [] p (hwI (kv14 p v1 v2 v5))) : ∀ (p : PM) (v1 : Int32), Gr 0 p → bg6_withdrawMember kg14 p v1 → ZJ 0 88 0 [zR 6 1, zI v1, zJ, zJ, zJ, zJ, zJ] [] p (hwI (bv6_withdrawMember kv14 p v1)) := by
  intro p v1  hg H
  exact rwI (n := 3000) (q := 0) (la := [zR 6 1, zI v1, zJ, zJ, zJ, zJ, zJ]) (sa := []) (ks := [fun la sa s => kv14 s (ai la 1) (ai la 2) (ai la 5)]) (gs := [fun la sa s => zsw (tc2 la [(2, 0), (0, 0), (0, 0), (120, 1), (3, 40), (0, 0), (2, 0)] && tc2 sa []) False (kg14 s (ai la 1) (ai la 2) (ai la 5))]) (fnil) tab88 pc88 ⟨fun la sa s hg H => zcut H fun H => hk14 s (ai la 1) (ai la 2) (ai la 5) (zld la 0) (zld la 6) hg H, trivial⟩ hg H
theorem t6_withdrawMember : ∀ (p : PM) (v1 : Int32), Gr 0 p → g6_withdrawMember p v1 → ZJ 0 88 0 [zR 6 1, zI v1, zJ, zJ, zJ, zJ, zJ] [] p (hwI (v6_withdrawMember p v1)) := r6_withdrawMember (v6_withdrawMember_14 FU) (g6_withdrawMember_14 FU) (t6_withdrawMember_14 FU)
def CC88 (F : PM → Int32 → Int32 × PM) (G : PM → Int32 → Prop) : Cal := (88, [9, 0], 1, false, fun as p => (zI (F p (ai as 1)).1, (F p (ai as 1)).2), fun as p => zsw (tc2 as [(106, 1), (0, 0)]) False (G p (ai as 1)))
set_option maxRecDepth 100000 in
theorem okr88 (F : PM → Int32 → Int32 × PM) (G : PM → Int32 → Prop) (h : ∀ (p : PM) (v1 : Int32), Gr 0 p → G p v1 → ZJ 0 88 0 [zR 6 1, zI v1, zJ, zJ, zJ, zJ, zJ] [] p (hwI (F p v1))) : CalOK 0 (CC88 F G) := cal_ok (m := 7) (by unfold mL; rw [mX_88]) (fun as p hg H => h p (ai as 1) hg H)
theorem ok88 : CalOK 0 (CC88 v6_withdrawMember g6_withdrawMember) := okr88 v6_withdrawMember g6_withdrawMember t6_withdrawMember
noncomputable def bv5_failMember (F34 : PM → Int32 → PM) (F88 : PM → Int32 → Int32 × PM) (p : PM) (v1 : Int32) : Int32 × PM :=
  let p1 : PM := F34 p v1
  let r2 : Int32 × PM := F88 p1 v1
  (r2.1, r2.2)
noncomputable def v5_failMember (p : PM) (v1 : Int32) : Int32 × PM := bv5_failMember v2_fall v6_withdrawMember p v1
noncomputable def bg5_failMember (F34 : PM → Int32 → PM) (G34 : PM → Int32 → Prop) (F88 : PM → Int32 → Int32 × PM) (G88 : PM → Int32 → Prop) (p : PM) (v1 : Int32) : Prop :=
  (G34 p v1) ∧ (
  let p1 : PM := F34 p v1
  (G88 p1 v1) ∧ (
  let r2 : Int32 × PM := F88 p1 v1
  True))
noncomputable def g5_failMember (p : PM) (v1 : Int32) : Prop := bg5_failMember v2_fall g2_fall v6_withdrawMember g6_withdrawMember p v1
def R69 : List Row := [(0, .aload_n 0, 1, 0, (0, 0, 0, 0, 0, 0)), (1, .getfield 57, 3, 0, (5, 4, 5, 2, 1, 0)), (4, .iload_n 1, 1, 0, (0, 0, 0, 0, 0, 0)), (5, .invokevirtual 221, 3, 0, (0, 2, 0, 0, 1, 0)), (8, .aload_n 0, 1, 0, (0, 0, 0, 0, 0, 0)), (9, .getfield 34, 3, 0, (5, 0, 9, 2, 1, 0)), (12, .iload_n 1, 1, 0, (0, 0, 0, 0, 0, 0)), (13, .invokevirtual 224, 3, 0, (1, 2, 0, 0, 1, 0)), (16, .ireturn, 1, 0, (0, 0, 0, 0, 0, 0))]
set_option maxRecDepth 100000 in
theorem rk69 : R69.all (rok 0 69 1 [(34, [5, 0]), (88, [9, 0])]) = true := by decide +kernel
set_option maxRecDepth 100000 in
theorem tab69 {F34 : PM → Int32 → PM} {G34 : PM → Int32 → Prop} {F88 : PM → Int32 → Int32 × PM} {G88 : PM → Int32 → Prop} : TabOK 0 69 1 [CC34 F34 G34, CC88 F88 G88] R69 := tab_ok (K := K69) rfl rfl (fun h => d69 h) rk69 (by decide +kernel)
set_option maxRecDepth 100000 in
theorem pc69 : cutpc [] R69 = true := by decide +kernel
set_option maxRecDepth 100000 in
theorem r5_failMember (F34 : PM → Int32 → PM) (G34 : PM → Int32 → Prop) (o34 : CalOK 0 (CC34 F34 G34)) (F88 : PM → Int32 → Int32 × PM) (G88 : PM → Int32 → Prop) (o88 : CalOK 0 (CC88 F88 G88)) : ∀ (p : PM) (v1 : Int32), Gr 0 p → bg5_failMember F34 G34 F88 G88 p v1 → ZJ 0 69 0 [zR 5 1, zI v1] [] p (hwI (bv5_failMember F34 F88 p v1)) := by
  intro p v1  hg H
  exact rwI (n := 3000) (q := 0) (la := [zR 5 1, zI v1]) (sa := []) (ks := []) (gs := []) (fcons o34 (fcons o88 (fnil))) tab69 pc69 trivial hg H
theorem t5_failMember : ∀ (p : PM) (v1 : Int32), Gr 0 p → g5_failMember p v1 → ZJ 0 69 0 [zR 5 1, zI v1] [] p (hwI (v5_failMember p v1)) := r5_failMember v2_fall g2_fall ok34 v6_withdrawMember g6_withdrawMember ok88
def CC69 (F : PM → Int32 → Int32 × PM) (G : PM → Int32 → Prop) : Cal := (69, [8, 0], 1, false, fun as p => (zI (F p (ai as 1)).1, (F p (ai as 1)).2), fun as p => zsw (tc2 as [(105, 1), (0, 0)]) False (G p (ai as 1)))
set_option maxRecDepth 100000 in
theorem okr69 (F : PM → Int32 → Int32 × PM) (G : PM → Int32 → Prop) (h : ∀ (p : PM) (v1 : Int32), Gr 0 p → G p v1 → ZJ 0 69 0 [zR 5 1, zI v1] [] p (hwI (F p v1))) : CalOK 0 (CC69 F G) := cal_ok (m := 2) (by unfold mL; rw [mX_69]) (fun as p hg H => h p (ai as 1) hg H)
theorem ok69 : CalOK 0 (CC69 v5_failMember g5_failMember) := okr69 v5_failMember g5_failMember t5_failMember
noncomputable def bv6_find_11 (p : PM) (kv11 : Int32 → Int32 → Nat) (v1 : Int32) (v4 : Int32) : Nat :=
  if v4 < (cn 40) then (
    if (p.1 10 ((v4).toNatClampNeg + 1) 2) = 0 then (
      kv11 v1 (v4 + (cn 1)))
    else (
      if (p.1 10 ((v4).toNatClampNeg + 1) 0) = v1 then (
        ((v4).toNatClampNeg + 1))
      else (
        kv11 v1 (v4 + (cn 1)))))
  else (
    0)
noncomputable def v6_find_11 (p : PM) (n : Nat) : Int32 → Int32 → Nat := Nat.rec (motive := fun _ => Int32 → Int32 → Nat) (fun _ _ => 0) (fun _ ih => bv6_find_11 p ih) n
theorem ev6_find_11 (p : PM) (n : Nat) (v1 : Int32) (v4 : Int32) : v6_find_11 p (n + 1) v1 v4 = bv6_find_11 p (v6_find_11 p n) v1 v4 := rfl
noncomputable def bg6_find_11 (p : PM) (kg11 : Int32 → Int32 → Prop) (v1 : Int32) (v4 : Int32) : Prop :=
  if v4 < (cn 40) then (
    (inb v4 40) ∧ (
    if (p.1 10 ((v4).toNatClampNeg + 1) 2) = 0 then (
      kg11 v1 (v4 + (cn 1)))
    else (
      if (p.1 10 ((v4).toNatClampNeg + 1) 0) = v1 then (
        True)
      else (
        kg11 v1 (v4 + (cn 1))))))
  else (
    True)
noncomputable def g6_find_11 (p : PM) (n : Nat) : Int32 → Int32 → Prop := Nat.rec (motive := fun _ => Int32 → Int32 → Prop) (fun _ _ => False) (fun _ ih => bg6_find_11 p ih) n
theorem eg6_find_11 (p : PM) (n : Nat) (v1 : Int32) (v4 : Int32) : g6_find_11 p (n + 1) v1 v4 = bg6_find_11 p (g6_find_11 p n) v1 v4 := rfl
noncomputable def bv6_find (p : PM) (kv11 : Int32 → Int32 → Nat) (v1 : Int32) : Nat :=
  kv11 v1 (cn 0)
noncomputable def v6_find (p : PM) (v1 : Int32) : Nat := bv6_find p (v6_find_11 p FU) v1
noncomputable def bg6_find (p : PM) (kg11 : Int32 → Int32 → Prop) (v1 : Int32) : Prop :=
  kg11 v1 (cn 0)
noncomputable def g6_find (p : PM) (v1 : Int32) : Prop := bg6_find p (g6_find_11 p FU) v1
def R74 : List Row := [(0, .aload_n 0, 1, 0, (0, 0, 0, 0, 0, 0)), (1, .getfield 11, 3, 0, (6, 1, 23, 2, 1, 0)), (4, .astore_n 2, 1, 0, (0, 0, 0, 0, 0, 0)), (5, .aload_n 2, 1, 0, (0, 0, 0, 0, 0, 0)), (6, .arraylength, 1, 0, (20, 40, 0, 0, 0, 40)), (7, .istore_n 3, 1, 0, (0, 0, 0, 0, 0, 0)), (8, .iconst 0, 1, 0, (0, 0, 0, 0, 0, 0)), (9, .istore 4, 2, 0, (0, 0, 0, 0, 0, 0)), (11, .iload 4, 2, 1, (0, 0, 0, 0, 0, 0)), (13, .iload_n 3, 1, 0, (0, 0, 0, 0, 0, 0)), (14, .if_icmp .ge 35, 3, 0, (0, 0, 0, 0, 0, 0)), (17, .aload_n 2, 1, 0, (0, 0, 0, 0, 0, 0)), (18, .iload 4, 2, 0, (0, 0, 0, 0, 0, 0)), (20, .aaload, 1, 0, (20, 40, 0, 1, 1, 0)), (21, .astore 5, 2, 0, (0, 0, 0, 0, 0, 0)), (23, .aload 5, 2, 0, (0, 0, 0, 0, 0, 0)), (25, .getfield 29, 3, 0, (10, 2, 0, 1, 0, 0)), (28, .ifCond .eq 15, 3, 0, (0, 0, 0, 0, 0, 0)), (31, .aload 5, 2, 0, (0, 0, 0, 0, 0, 0)), (33, .getfield 45, 3, 0, (10, 0, 0, 1, 0, 0)), (36, .iload_n 1, 1, 0, (0, 0, 0, 0, 0, 0)), (37, .if_icmp .ne 6, 3, 0, (0, 0, 0, 0, 0, 0)), (40, .aload 5, 2, 0, (0, 0, 0, 0, 0, 0)), (42, .areturn, 1, 0, (10, 0, 0, 0, 0, 0)), (43, .iinc 4 1, 3, 0, (0, 0, 0, 0, 0, 1)), (46, .goto (-35), 3, 0, (0, 0, 0, 0, 0, 0)), (49, .aconst_null, 1, 0, (10, 0, 0, 0, 0, 0)), (50, .areturn, 1, 0, (10, 0, 0, 0, 0, 0))]
set_option maxRecDepth 100000 in
theorem rk74 : R74.all (rok 0 74 (3 + 10) []) = true := by decide +kernel
set_option maxRecDepth 100000 in
theorem tab74 : TabOK 0 74 (3 + 10) [] R74 := tab_ok (K := K74) rfl rfl (fun h => d74 h) rk74 (by decide +kernel)
set_option maxRecDepth 100000 in
theorem pc74 : cutpc [11] R74 = true := by decide +kernel
set_option maxRecDepth 100000 in
theorem r6_find_11 (p : PM) (hg : Gr 0 p) (kv11 : Int32 → Int32 → Nat) (kg11 : Int32 → Int32 → Prop) (hk11 : ∀ (v1 : Int32) (v4 : Int32) (d0 d5 : ZV), kg11 v1 v4 → ZJ 0 74 11 [d0, zI v1, zR 20 1, zC 40, zI v4, d5] [] p (hoR 10 p (kv11 v1 v4))) : ∀ (v1 : Int32) (v4 : Int32) (d0 d5 : ZV), bg6_find_11 p kg11 v1 v4 → ZJ 0 74 11 [d0, zI v1, zR 20 1, zC 40, zI v4, d5] [] p (hoR 10 p (bv6_find_11 p kv11 v1 v4)) := by
  intro v1 v4 d0 d5 H
  exact roR 10 (n := 3000) (q := 11) (la := [d0, zI v1, zR 20 1, zC 40, zI v4, d5]) (sa := []) (ks := [fun la sa _ => kv11 (ai la 1) (ai la 4)]) (gs := [fun la sa _ => zsw (tc2 la [(2, 0), (0, 0), (120, 1), (3, 40), (0, 0), (2, 0)] && tc2 sa []) False (kg11 (ai la 1) (ai la 4))]) (fnil) tab74 pc74 ⟨fun la sa s hg H => zcut H fun H => hk11 (ai la 1) (ai la 4) (zld la 0) (zld la 5) H, trivial⟩ hg H
theorem t6_find_11 (p : PM) (hg : Gr 0 p) : ∀ (n : Nat), ∀ (v1 : Int32) (v4 : Int32) (d0 d5 : ZV), g6_find_11 p n v1 v4 → ZJ 0 74 11 [d0, zI v1, zR 20 1, zC 40, zI v4, d5] [] p (hoR 10 p (v6_find_11 p n v1 v4)) := by
  intro n
  induction n with
  | zero =>
    intro v1 v4 d0 d5 H
    exact H.elim
  | succ n ih => exact r6_find_11 p hg (v6_find_11 p n) (g6_find_11 p n) ih
set_option maxRecDepth 100000 in
theorem r6_find (p : PM) (hg : Gr 0 p) (kv11 : Int32 → Int32 → Nat) (kg11 : Int32 → Int32 → Prop) (hk11 : ∀ (v1 : Int32) (v4 : Int32) (d0 d5 : ZV), kg11 v1 v4 → ZJ 0 74 11 [d0, zI v1, zR 20 1, zC 40, zI v4, d5] [] p (hoR 10 p (kv11 v1 v4))) : ∀ (v1 : Int32), bg6_find p kg11 v1 → ZJ 0 74 0 [zR 6 1, zI v1, zJ, zJ, zJ, zJ] [] p (hoR 10 p (bv6_find p kv11 v1)) := by
  intro v1  H
  exact roR 10 (n := 3000) (q := 0) (la := [zR 6 1, zI v1, zJ, zJ, zJ, zJ]) (sa := []) (ks := [fun la sa _ => kv11 (ai la 1) (ai la 4)]) (gs := [fun la sa _ => zsw (tc2 la [(2, 0), (0, 0), (120, 1), (3, 40), (0, 0), (2, 0)] && tc2 sa []) False (kg11 (ai la 1) (ai la 4))]) (fnil) tab74 pc74 ⟨fun la sa s hg H => zcut H fun H => hk11 (ai la 1) (ai la 4) (zld la 0) (zld la 5) H, trivial⟩ hg H
theorem t6_find (p : PM) (hg : Gr 0 p) : ∀ (v1 : Int32), g6_find p v1 → ZJ 0 74 0 [zR 6 1, zI v1, zJ, zJ, zJ, zJ] [] p (hoR 10 p (v6_find p v1)) := r6_find p hg (v6_find_11 p FU) (g6_find_11 p FU) (t6_find_11 p hg FU)
def CC74 (F : PM → Int32 → Nat) (G : PM → Int32 → Prop) : Cal := (74, [9, 0], (3 + 10), true, fun as p => (zR 10 (F p (ai as 1)), p), fun as p => zsw (tc2 as [(106, 1), (0, 0)]) False (G p (ai as 1)))
set_option maxRecDepth 100000 in
theorem okr74 (F : PM → Int32 → Nat) (G : PM → Int32 → Prop) (h : ∀ (p : PM) (v1 : Int32), Gr 0 p → G p v1 → ZJ 0 74 0 [zR 6 1, zI v1, zJ, zJ, zJ, zJ] [] p (hoR 10 p (F p v1))) : CalOK 0 (CC74 F G) := cal_ok (m := 6) (by unfold mL; rw [mX_74]) (fun as p hg H => h p (ai as 1) hg H)
theorem ok74 : CalOK 0 (CC74 v6_find g6_find) := okr74 v6_find g6_find (fun p v1 hg H => t6_find p hg v1 H)
