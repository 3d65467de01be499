/-! methods as functions over one part, by program (wip/p50/lift.py) -/
noncomputable def bv6_sumShown_17 (p : PM) (F142 : PM → Nat → Nat → Int32 → Int32) (kv17 : Nat → Int32 → Int32 → Int32 → Int32 → Int32) (v1 : Nat) (v2 : Int32) (v3 : Int32) (v4 : Int32) (v7 : Int32) : Int32 :=
  if v7 < (cn 40) then (
    if (F142 p ((v7).toNatClampNeg + 1) v1 v2) = 0 then (
      kv17 v1 v2 v3 v4 (v7 + (cn 1)))
    else (
      if (p.1 10 ((v7).toNatClampNeg + 1) 7) = v3 then (
        if v3 = (cn (-100000)) then (
          kv17 v1 v2 v3 v4 (v7 + (cn 1)))
        else (
          let x1 : Int32 := (v4 + (p.1 10 ((v7).toNatClampNeg + 1) 11))
          kv17 v1 v2 v3 x1 (v7 + (cn 1))))
      else (
        kv17 v1 v2 v3 v4 (v7 + (cn 1)))))
  else (
    v4)
noncomputable def v6_sumShown_17 (p : PM) (n : Nat) : Nat → Int32 → Int32 → Int32 → Int32 → Int32 := Nat.rec (motive := fun _ => Nat → Int32 → Int32 → Int32 → Int32 → Int32) (fun _ _ _ _ _ => 0) (fun _ ih => bv6_sumShown_17 p v10_standsIn ih) n
theorem ev6_sumShown_17 (p : PM) (n : Nat) (v1 : Nat) (v2 : Int32) (v3 : Int32) (v4 : Int32) (v7 : Int32) : v6_sumShown_17 p (n + 1) v1 v2 v3 v4 v7 = bv6_sumShown_17 p v10_standsIn (v6_sumShown_17 p n) v1 v2 v3 v4 v7 := rfl
noncomputable def bg6_sumShown_17 (p : PM) (F142 : PM → Nat → Nat → Int32 → Int32) (G142 : PM → Nat → Nat → Int32 → Prop) (kg17 : Nat → Int32 → Int32 → Int32 → Int32 → Prop) (v1 : Nat) (v2 : Int32) (v3 : Int32) (v4 : Int32) (v7 : Int32) : Prop :=
  if v7 < (cn 40) then (
    (inb v7 40) ∧ (
    (G142 p ((v7).toNatClampNeg + 1) v1 v2) ∧ (
    if (F142 p ((v7).toNatClampNeg + 1) v1 v2) = 0 then (
      kg17 v1 v2 v3 v4 (v7 + (cn 1)))
    else (
      if (p.1 10 ((v7).toNatClampNeg + 1) 7) = v3 then (
        if v3 = (cn (-100000)) then (
          kg17 v1 v2 v3 v4 (v7 + (cn 1)))
        else (
          let x1 : Int32 := (v4 + (p.1 10 ((v7).toNatClampNeg + 1) 11))
          kg17 v1 v2 v3 x1 (v7 + (cn 1))))
      else (
        kg17 v1 v2 v3 v4 (v7 + (cn 1)))))))
  else (
    True)
noncomputable def g6_sumShown_17 (p : PM) (n : Nat) : Nat → Int32 → Int32 → Int32 → Int32 → Prop := Nat.rec (motive := fun _ => Nat → Int32 → Int32 → Int32 → Int32 → Prop) (fun _ _ _ _ _ => False) (fun _ ih => bg6_sumShown_17 p v10_standsIn g10_standsIn ih) n
theorem eg6_sumShown_17 (p : PM) (n : Nat) (v1 : Nat) (v2 : Int32) (v3 : Int32) (v4 : Int32) (v7 : Int32) : g6_sumShown_17 p (n + 1) v1 v2 v3 v4 v7 = bg6_sumShown_17 p v10_standsIn g10_standsIn (g6_sumShown_17 p n) v1 v2 v3 v4 v7 := rfl
noncomputable def bv6_sumShown (p : PM) (kv17 : Nat → Int32 → Int32 → Int32 → Int32 → Int32) (v1 : Nat) (v2 : Int32) (v3 : Int32) : Int32 :=
  kv17 v1 v2 v3 (cn 0) (cn 0)
noncomputable def v6_sumShown (p : PM) (v1 : Nat) (v2 : Int32) (v3 : Int32) : Int32 := bv6_sumShown p (v6_sumShown_17 p FU) v1 v2 v3
noncomputable def bg6_sumShown (p : PM) (kg17 : Nat → Int32 → Int32 → Int32 → Int32 → Prop) (v1 : Nat) (v2 : Int32) (v3 : Int32) : Prop :=
  kg17 v1 v2 v3 (cn 0) (cn 0)
noncomputable def g6_sumShown (p : PM) (v1 : Nat) (v2 : Int32) (v3 : Int32) : Prop := bg6_sumShown p (g6_sumShown_17 p FU) v1 v2 v3
def R82 : List Row := [(0, .iconst 0, 1, 0, (0, 0, 0, 0, 0, 0)), (1, .istore 4, 2, 0, (0, 0, 0, 0, 0, 0)), (3, .aload_n 0, 1, 0, (0, 0, 0, 0, 0, 0)), (4, .getfield 11, 3, 0, (6, 1, 23, 2, 1, 0)), (7, .astore 5, 2, 0, (0, 0, 0, 0, 0, 0)), (9, .aload 5, 2, 0, (0, 0, 0, 0, 0, 0)), (11, .arraylength, 1, 0, (20, 40, 0, 0, 0, 40)), (12, .istore 6, 2, 0, (0, 0, 0, 0, 0, 0)), (14, .iconst 0, 1, 0, (0, 0, 0, 0, 0, 0)), (15, .istore 7, 2, 0, (0, 0, 0, 0, 0, 0)), (17, .iload 7, 2, 1, (0, 0, 0, 0, 0, 0)), (19, .iload 6, 2, 0, (0, 0, 0, 0, 0, 0)), (21, .if_icmp .ge 51, 3, 0, (0, 0, 0, 0, 0, 0)), (24, .aload 5, 2, 0, (0, 0, 0, 0, 0, 0)), (26, .iload 7, 2, 0, (0, 0, 0, 0, 0, 0)), (28, .aaload, 1, 0, (20, 40, 0, 1, 1, 0)), (29, .astore 8, 2, 0, (0, 0, 0, 0, 0, 0)), (31, .aload 8, 2, 0, (0, 0, 0, 0, 0, 0)), (33, .aload_n 1, 1, 0, (0, 0, 0, 0, 0, 0)), (34, .iload_n 2, 1, 0, (0, 0, 0, 0, 0, 0)), (35, .invokevirtual 72, 3, 0, (0, 3, 0, 0, 1, 0)), (38, .ifCond .eq 28, 3, 0, (0, 0, 0, 0, 0, 0)), (41, .aload 8, 2, 0, (0, 0, 0, 0, 0, 0)), (43, .getfield 55, 3, 0, (10, 7, 0, 1, 0, 0)), (46, .iload_n 3, 1, 0, (0, 0, 0, 0, 0, 0)), (47, .if_icmp .ne 19, 3, 0, (0, 0, 0, 0, 0, 0)), (50, .iload_n 3, 1, 0, (0, 0, 0, 0, 0, 0)), (51, .ldc 71, 2, 0, (0, 0, 0, 0, 0, -100000)), (53, .if_icmp .eq 13, 3, 0, (0, 0, 0, 0, 0, 0)), (56, .iload 4, 2, 0, (0, 0, 0, 0, 0, 0)), (58, .aload 8, 2, 0, (0, 0, 0, 0, 0, 0)), (60, .getfield 62, 3, 0, (10, 11, 0, 1, 0, 0)), (63, .iadd, 1, 0, (0, 0, 0, 0, 0, 0)), (64, .istore 4, 2, 0, (0, 0, 0, 0, 0, 0)), (66, .iinc 7 1, 3, 0, (0, 0, 0, 0, 0, 1)), (69, .goto (-52), 3, 0, (0, 0, 0, 0, 0, 0)), (72, .iload 4, 2, 0, (0, 0, 0, 0, 0, 0)), (74, .ireturn, 1, 0, (0, 0, 0, 0, 0, 0))]
set_option maxRecDepth 100000 in
theorem rk82 : R82.all (rok 0 82 1 [(142, [13, 4, 0])]) = true := by decide +kernel
set_option maxRecDepth 100000 in
theorem tab82 {F142 : PM → Nat → Nat → Int32 → Int32} {G142 : PM → Nat → Nat → Int32 → Prop} : TabOK 0 82 1 [CC142 F142 G142] R82 := tab_ok (K := K82) rfl rfl (fun h => d82 h) rk82 (by decide +kernel)
set_option maxRecDepth 100000 in
theorem pc82 : cutpc [17] R82 = true := by decide +kernel
set_option maxRecDepth 100000 in
theorem r6_sumShown_17 (p : PM) (hg : Gr 0 p) (F142 : PM → Nat → Nat → Int32 → Int32) (G142 : PM → Nat → Nat → Int32 → Prop) (o142 : CalOK 0 (CC142 F142 G142)) (kv17 : Nat → Int32 → Int32 → Int32 → Int32 → Int32) (kg17 : Nat → Int32 → Int32 → Int32 → Int32 → Prop) (hk17 : ∀ (v1 : Nat) (v2 : Int32) (v3 : Int32) (v4 : Int32) (v7 : Int32) (d0 d8 : ZV), kg17 v1 v2 v3 v4 v7 → ZJ 0 82 17 [d0, zR 1 v1, zI v2, zI v3, zI v4, zR 20 1, zC 40, zI v7, d8] [] p (hoI p (kv17 v1 v2 v3 v4 v7))) : ∀ (v1 : Nat) (v2 : Int32) (v3 : Int32) (v4 : Int32) (v7 : Int32) (d0 d8 : ZV), bg6_sumShown_17 p F142 G142 kg17 v1 v2 v3 v4 v7 → ZJ 0 82 17 [d0, zR 1 v1, zI v2, zI v3, zI v4, zR 20 1, zC 40, zI v7, d8] [] p (hoI p (bv6_sumShown_17 p F142 kv17 v1 v2 v3 v4 v7)) := by
  intro v1 v2 v3 v4 v7 d0 d8 H
  exact roI (n := 3000) (q := 17) (la := [d0, zR 1 v1, zI v2, zI v3, zI v4, zR 20 1, zC 40, zI v7, d8]) (sa := []) (ks := [fun la sa _ => kv17 (ar la 1) (ai la 2) (ai la 3) (ai la 4) (ai la 7)]) (gs := [fun la sa _ => zsw (tc2 la [(2, 0), (5, 0), (0, 0), (0, 0), (0, 0), (120, 1), (3, 40), (0, 0), (2, 0)] && tc2 sa []) False (kg17 (ar la 1) (ai la 2) (ai la 3) (ai la 4) (ai la 7))]) (fcons o142 (fnil)) tab82 pc82 ⟨fun la sa s hg H => zcut H fun H => hk17 (ar la 1) (ai la 2) (ai la 3) (ai la 4) (ai la 7) (zld la 0) (zld la 8) H, trivial⟩ hg H
theorem t6_sumShown_17 (p : PM) (hg : Gr 0 p) : ∀ (n : Nat), ∀ (v1 : Nat) (v2 : Int32) (v3 : Int32) (v4 : Int32) (v7 : Int32) (d0 d8 : ZV), g6_sumShown_17 p n v1 v2 v3 v4 v7 → ZJ 0 82 17 [d0, zR 1 v1, zI v2, zI v3, zI v4, zR 20 1, zC 40, zI v7, d8] [] p (hoI p (v6_sumShown_17 p n v1 v2 v3 v4 v7)) := by
  intro n
  induction n with
  | zero =>
    intro v1 v2 v3 v4 v7 d0 d8 H
    exact H.elim
  | succ n ih => exact r6_sumShown_17 p hg v10_standsIn g10_standsIn ok142 (v6_sumShown_17 p n) (g6_sumShown_17 p n) ih
set_option maxRecDepth 100000 in
theorem r6_sumShown (p : PM) (hg : Gr 0 p) (F142 : PM → Nat → Nat → Int32 → Int32) (G142 : PM → Nat → Nat → Int32 → Prop) (o142 : CalOK 0 (CC142 F142 G142)) (kv17 : Nat → Int32 → Int32 → Int32 → Int32 → Int32) (kg17 : Nat → Int32 → Int32 → Int32 → Int32 → Prop) (hk17 : ∀ (v1 : Nat) (v2 : Int32) (v3 : Int32) (v4 : Int32) (v7 : Int32) (d0 d8 : ZV), kg17 v1 v2 v3 v4 v7 → ZJ 0 82 17 [d0, zR 1 v1, zI v2, zI v3, zI v4, zR 20 1, zC 40, zI v7, d8] [] p (hoI p (kv17 v1 v2 v3 v4 v7))) : ∀ (v1 : Nat) (v2 : Int32) (v3 : Int32), bg6_sumShown p kg17 v1 v2 v3 → ZJ 0 82 0 [zR 6 1, zR 1 v1, zI v2, zI v3, zJ, zJ, zJ, zJ, zJ] [] p (hoI p (bv6_sumShown p kv17 v1 v2 v3)) := by
  intro v1 v2 v3  H
  exact roI (n := 3000) (q := 0) (la := [zR 6 1, zR 1 v1, zI v2, zI v3, zJ, zJ, zJ, zJ, zJ]) (sa := []) (ks := [fun la sa _ => kv17 (ar la 1) (ai la 2) (ai la 3) (ai la 4) (ai la 7)]) (gs := [fun la sa _ => zsw (tc2 la [(2, 0), (5, 0), (0, 0), (0, 0), (0, 0), (120, 1), (3, 40), (0, 0), (2, 0)] && tc2 sa []) False (kg17 (ar la 1) (ai la 2) (ai la 3) (ai la 4) (ai la 7))]) (fcons o142 (fnil)) tab82 pc82 ⟨fun la sa s hg H => zcut H fun H => hk17 (ar la 1) (ai la 2) (ai la 3) (ai la 4) (ai la 7) (zld la 0) (zld la 8) H, trivial⟩ hg H
theorem t6_sumShown (p : PM) (hg : Gr 0 p) : ∀ (v1 : Nat) (v2 : Int32) (v3 : Int32), g6_sumShown p v1 v2 v3 → ZJ 0 82 0 [zR 6 1, zR 1 v1, zI v2, zI v3, zJ, zJ, zJ, zJ, zJ] [] p (hoI p (v6_sumShown p v1 v2 v3)) := r6_sumShown p hg v10_standsIn g10_standsIn ok142 (v6_sumShown_17 p FU) (g6_sumShown_17 p FU) (t6_sumShown_17 p hg FU)
def CC82 (F : PM → Nat → Int32 → Int32 → Int32) (G : PM → Nat → Int32 → Int32 → Prop) : Cal := (82, [9, 4, 0, 0], 1, true, fun as p => (zI (F p (ar as 1) (ai as 2) (ai as 3)), p), fun as p => zsw (tc2 as [(106, 1), (5, 0), (0, 0), (0, 0)]) False (G p (ar as 1) (ai as 2) (ai as 3)))
set_option maxRecDepth 100000 in
theorem okr82 (F : PM → Nat → Int32 → Int32 → Int32) (G : PM → Nat → Int32 → Int32 → Prop) (h : ∀ (p : PM) (v1 : Nat) (v2 : Int32) (v3 : Int32), Gr 0 p → G p v1 v2 v3 → ZJ 0 82 0 [zR 6 1, zR 1 v1, zI v2, zI v3, zJ, zJ, zJ, zJ, zJ] [] p (hoI p (F p v1 v2 v3))) : CalOK 0 (CC82 F G) := cal_ok (m := 9) (by unfold mL; rw [mX_82]) (fun as p hg H => h p (ar as 1) (ai as 2) (ai as 3) hg H)
theorem ok82 : CalOK 0 (CC82 v6_sumShown g6_sumShown) := okr82 v6_sumShown g6_sumShown (fun p v1 v2 v3 hg H => t6_sumShown p hg v1 v2 v3 H)
noncomputable def bv6_withdraw (F74 : PM → Int32 → Nat) (p : PM) (v1 : Int32) : Int32 × PM :=
  if (F74 p v1) = 0 then (
    ((cn 0), p))
  else (
    let p1 : PM := pI p 10 (F74 p v1) 2 (cn 0)
    ((p1.1 10 (F74 p v1) 9), p1))
noncomputable def v6_withdraw (p : PM) (v1 : Int32) : Int32 × PM := bv6_withdraw v6_find p v1
noncomputable def bg6_withdraw (F74 : PM → Int32 → Nat) (G74 : PM → Int32 → Prop) (p : PM) (v1 : Int32) : Prop :=
  (G74 p v1) ∧ (
  if (F74 p v1) = 0 then (
    True)
  else (
    (¬ (F74 p v1) = 0) ∧ (
    let p1 : PM := pI p 10 (F74 p v1) 2 (cn 0)
    (¬ (F74 p v1) = 0) ∧ (
    True))))
noncomputable def g6_withdraw (p : PM) (v1 : Int32) : Prop := bg6_withdraw v6_find g6_find p v1
def R85 : List Row := [(0, .aload_n 0, 1, 0, (0, 0, 0, 0, 0, 0)), (1, .iload_n 1, 1, 0, (0, 0, 0, 0, 0, 0)), (2, .invokevirtual 126, 3, 0, (0, 2, 0, 0, 1, 0)), (5, .astore_n 2, 1, 0, (0, 0, 0, 0, 0, 0)), (6, .aload_n 2, 1, 0, (0, 0, 0, 0, 0, 0)), (7, .ifnonnull 5, 3, 0, (0, 0, 0, 0, 0, 0)), (10, .iconst 0, 1, 0, (0, 0, 0, 0, 0, 0)), (11, .ireturn, 1, 0, (0, 0, 0, 0, 0, 0)), (12, .aload_n 2, 1, 0, (0, 0, 0, 0, 0, 0)), (13, .iconst 0, 1, 0, (0, 0, 0, 0, 0, 0)), (14, .putfield 29, 3, 0, (10, 2, 0, 0, 0, 0)), (17, .aload_n 2, 1, 0, (0, 0, 0, 0, 0, 0)), (18, .getfield 123, 3, 0, (10, 9, 0, 0, 0, 0)), (21, .ireturn, 1, 0, (0, 0, 0, 0, 0, 0))]
set_option maxRecDepth 100000 in
theorem rk85 : R85.all (rok 0 85 1 [(74, [9, 0])]) = true := by decide +kernel
set_option maxRecDepth 100000 in
theorem tab85 {F74 : PM → Int32 → Nat} {G74 : PM → Int32 → Prop} : TabOK 0 85 1 [CC74 F74 G74] R85 := tab_ok (K := K85) rfl rfl (fun h => d85 h) rk85 (by decide +kernel)
set_option maxRecDepth 100000 in
theorem pc85 : cutpc [] R85 = true := by decide +kernel
set_option maxRecDepth 100000 in
theorem r6_withdraw (F74 : PM → Int32 → Nat) (G74 : PM → Int32 → Prop) (o74 : CalOK 0 (CC74 F74 G74)) : ∀ (p : PM) (v1 : Int32), Gr 0 p → bg6_withdraw F74 G74 p v1 → ZJ 0 85 0 [zR 6 1, zI v1, zJ] [] p (hwI (bv6_withdraw F74 p v1)) := by
  intro p v1  hg H
  exact rwI (n := 3000) (q := 0) (la := [zR 6 1, zI v1, zJ]) (sa := []) (ks := []) (gs := []) (fcons o74 (fnil)) tab85 pc85 trivial hg H
theorem t6_withdraw : ∀ (p : PM) (v1 : Int32), Gr 0 p → g6_withdraw p v1 → ZJ 0 85 0 [zR 6 1, zI v1, zJ] [] p (hwI (v6_withdraw p v1)) := r6_withdraw v6_find g6_find ok74
def CC85 (F : PM → Int32 → Int32 × PM) (G : PM → Int32 → Prop) : Cal := (85, [9, 0], 1, false, fun as p => (zI (F p (ai as 1)).1, (F p (ai as 1)).2), fun as p => zsw (tc2 as [(106, 1), (0, 0)]) False (G p (ai as 1)))
set_option maxRecDepth 100000 in
theorem okr85 (F : PM → Int32 → Int32 × PM) (G : PM → Int32 → Prop) (h : ∀ (p : PM) (v1 : Int32), Gr 0 p → G p v1 → ZJ 0 85 0 [zR 6 1, zI v1, zJ] [] p (hwI (F p v1))) : CalOK 0 (CC85 F G) := cal_ok (m := 3) (by unfold mL; rw [mX_85]) (fun as p hg H => h p (ai as 1) hg H)
theorem ok85 : CalOK 0 (CC85 v6_withdraw g6_withdraw) := okr85 v6_withdraw g6_withdraw t6_withdraw
noncomputable def bv6_hasAuction_10 (p : PM) (kv10 : Int32 → Int32) (v3 : Int32) : Int32 :=
  if v3 < (cn 6) then (
    if (p.1 1 ((v3).toNatClampNeg + 1) 5) = 0 then (
      kv10 (v3 + (cn 1)))
    else (
      (cn 1)))
  else (
    (cn 0))
noncomputable def v6_hasAuction_10 (p : PM) (n : Nat) : Int32 → Int32 := Nat.rec (motive := fun _ => Int32 → Int32) (fun _ => 0) (fun _ ih => bv6_hasAuction_10 p ih) n
theorem ev6_hasAuction_10 (p : PM) (n : Nat) (v3 : Int32) : v6_hasAuction_10 p (n + 1) v3 = bv6_hasAuction_10 p (v6_hasAuction_10 p n) v3 := rfl
noncomputable def bg6_hasAuction_10 (p : PM) (kg10 : Int32 → Prop) (v3 : Int32) : Prop :=
  if v3 < (cn 6) then (
    (inb v3 6) ∧ (
    if (p.1 1 ((v3).toNatClampNeg + 1) 5) = 0 then (
      kg10 (v3 + (cn 1)))
    else (
      True)))
  else (
    True)
noncomputable def g6_hasAuction_10 (p : PM) (n : Nat) : Int32 → Prop := Nat.rec (motive := fun _ => Int32 → Prop) (fun _ => False) (fun _ ih => bg6_hasAuction_10 p ih) n
theorem eg6_hasAuction_10 (p : PM) (n : Nat) (v3 : Int32) : g6_hasAuction_10 p (n + 1) v3 = bg6_hasAuction_10 p (g6_hasAuction_10 p n) v3 := rfl
noncomputable def bv6_hasAuction (p : PM) (kv10 : Int32 → Int32) : Int32 :=
  kv10 (cn 0)
noncomputable def v6_hasAuction (p : PM) : Int32 := bv6_hasAuction p (v6_hasAuction_10 p FU)
noncomputable def bg6_hasAuction (p : PM) (kg10 : Int32 → Prop) : Prop :=
  kg10 (cn 0)
noncomputable def g6_hasAuction (p : PM) : Prop := bg6_hasAuction p (g6_hasAuction_10 p FU)
def R92 : List Row := [(0, .aload_n 0, 1, 0, (0, 0, 0, 0, 0, 0)), (1, .getfield 17, 3, 0, (6, 0, 20, 2, 1, 0)), (4, .astore_n 1, 1, 0, (0, 0, 0, 0, 0, 0)), (5, .aload_n 1, 1, 0, (0, 0, 0, 0, 0, 0)), (6, .arraylength, 1, 0, (17, 6, 0, 0, 0, 6)), (7, .istore_n 2, 1, 0, (0, 0, 0, 0, 0, 0)), (8, .iconst 0, 1, 0, (0, 0, 0, 0, 0, 0)), (9, .istore_n 3, 1, 0, (0, 0, 0, 0, 0, 0)), (10, .iload_n 3, 1, 1, (0, 0, 0, 0, 0, 0)), (11, .iload_n 2, 1, 0, (0, 0, 0, 0, 0, 0)), (12, .if_icmp .ge 24, 3, 0, (0, 0, 0, 0, 0, 0)), (15, .aload_n 1, 1, 0, (0, 0, 0, 0, 0, 0)), (16, .iload_n 3, 1, 0, (0, 0, 0, 0, 0, 0)), (17, .aaload, 1, 0, (17, 6, 0, 1, 1, 0)), (18, .astore 4, 2, 0, (0, 0, 0, 0, 0, 0)), (20, .aload 4, 2, 0, (0, 0, 0, 0, 0, 0)), (22, .getfield 154, 3, 0, (1, 5, 1, 1, 0, 0)), (25, .ifCond .eq 5, 3, 0, (0, 0, 0, 0, 0, 0)), (28, .iconst 1, 1, 0, (0, 0, 0, 0, 0, 1)), (29, .ireturn, 1, 0, (1, 0, 0, 0, 0, 0)), (30, .iinc 3 1, 3, 0, (0, 0, 0, 0, 0, 1)), (33, .goto (-23), 3, 0, (0, 0, 0, 0, 0, 0)), (36, .iconst 0, 1, 0, (0, 0, 0, 0, 0, 0)), (37, .ireturn, 1, 0, (1, 0, 0, 0, 0, 0))]
set_option maxRecDepth 100000 in
theorem rk92 : R92.all (rok 0 92 1 []) = true := by decide +kernel
set_option maxRecDepth 100000 in
theorem tab92 : TabOK 0 92 1 [] R92 := tab_ok (K := K92) rfl rfl (fun h => d92 h) rk92 (by decide +kernel)
set_option maxRecDepth 100000 in
theorem pc92 : cutpc [10] R92 = true := by decide +kernel
set_option maxRecDepth 100000 in
theorem r6_hasAuction_10 (p : PM) (hg : Gr 0 p) (kv10 : Int32 → Int32) (kg10 : Int32 → Prop) (hk10 : ∀ (v3 : Int32) (d0 d4 : ZV), kg10 v3 → ZJ 0 92 10 [d0, zR 17 1, zC 6, zI v3, d4] [] p (hoI p (kv10 v3))) : ∀ (v3 : Int32) (d0 d4 : ZV), bg6_hasAuction_10 p kg10 v3 → ZJ 0 92 10 [d0, zR 17 1, zC 6, zI v3, d4] [] p (hoI p (bv6_hasAuction_10 p kv10 v3)) := by
  intro v3 d0 d4 H
  exact roI (n := 3000) (q := 10) (la := [d0, zR 17 1, zC 6, zI v3, d4]) (sa := []) (ks := [fun la sa _ => kv10 (ai la 3)]) (gs := [fun la sa _ => zsw (tc2 la [(2, 0), (117, 1), (3, 6), (0, 0), (2, 0)] && tc2 sa []) False (kg10 (ai la 3))]) (fnil) tab92 pc92 ⟨fun la sa s hg H => zcut H fun H => hk10 (ai la 3) (zld la 0) (zld la 4) H, trivial⟩ hg H
theorem t6_hasAuction_10 (p : PM) (hg : Gr 0 p) : ∀ (n : Nat), ∀ (v3 : Int32) (d0 d4 : ZV), g6_hasAuction_10 p n v3 → ZJ 0 92 10 [d0, zR 17 1, zC 6, zI v3, d4] [] p (hoI p (v6_hasAuction_10 p n v3)) := by
  intro n
  induction n with
  | zero =>
    intro v3 d0 d4 H
    exact H.elim
  | succ n ih => exact r6_hasAuction_10 p hg (v6_hasAuction_10 p n) (g6_hasAuction_10 p n) ih
set_option maxRecDepth 100000 in
theorem r6_hasAuction (p : PM) (hg : Gr 0 p) (kv10 : Int32 → Int32) (kg10 : Int32 → Prop) (hk10 : ∀ (v3 : Int32) (d0 d4 : ZV), kg10 v3 → ZJ 0 92 10 [d0, zR 17 1, zC 6, zI v3, d4] [] p (hoI p (kv10 v3))) : bg6_hasAuction p kg10 → ZJ 0 92 0 [zR 6 1, zJ, zJ, zJ, zJ] [] p (hoI p (bv6_hasAuction p kv10)) := by
  intro   H
  exact roI (n := 3000) (q := 0) (la := [zR 6 1, zJ, zJ, zJ, zJ]) (sa := []) (ks := [fun la sa _ => kv10 (ai la 3)]) (gs := [fun la sa _ => zsw (tc2 la [(2, 0), (117, 1), (3, 6), (0, 0), (2, 0)] && tc2 sa []) False (kg10 (ai la 3))]) (fnil) tab92 pc92 ⟨fun la sa s hg H => zcut H fun H => hk10 (ai la 3) (zld la 0) (zld la 4) H, trivial⟩ hg H
theorem t6_hasAuction (p : PM) (hg : Gr 0 p) : g6_hasAuction p → ZJ 0 92 0 [zR 6 1, zJ, zJ, zJ, zJ] [] p (hoI p (v6_hasAuction p)) := r6_hasAuction p hg (v6_hasAuction_10 p FU) (g6_hasAuction_10 p FU) (t6_hasAuction_10 p hg FU)
def CC92 (F : PM → Int32) (G : PM → Prop) : Cal := (92, [9], 1, true, fun as p => (zI (F p ), p), fun as p => zsw (tc2 as [(106, 1)]) False (G p ))
set_option maxRecDepth 100000 in
theorem okr92 (F : PM → Int32) (G : PM → Prop) (h : ∀ (p : PM), Gr 0 p → G p  → ZJ 0 92 0 [zR 6 1, zJ, zJ, zJ, zJ] [] p (hoI p (F p ))) : CalOK 0 (CC92 F G) := cal_ok (m := 5) (by unfold mL; rw [mX_92]) (fun as p hg H => h p  hg H)
theorem ok92 : CalOK 0 (CC92 v6_hasAuction g6_hasAuction) := okr92 v6_hasAuction g6_hasAuction (fun p  hg H => t6_hasAuction p hg  H)
noncomputable def bv6_turnDay_71 (kv71 : PM → Int32 → Int32 → Int32 × PM) (p : PM) (v1 : Int32) (v4 : Int32) : Int32 × PM :=
  if v4 < (cn 6) then (
    let p2 : PM := pI p 1 ((v4).toNatClampNeg + 1) 4 (p.1 1 ((v4).toNatClampNeg + 1) 3)
    kv71 p2 v1 (v4 + (cn 1)))
  else (
    let p1 : PM := pI p 6 1 3 ((p.1 6 1 3) + (cn 1))
    (v1, p1))
noncomputable def v6_turnDay_71 (n : Nat) : PM → Int32 → Int32 → Int32 × PM := Nat.rec (motive := fun _ => PM → Int32 → Int32 → Int32 × PM) (fun p _ _ => (0, p)) (fun _ ih => bv6_turnDay_71 ih) n
theorem ev6_turnDay_71 (n : Nat) (p : PM) (v1 : Int32) (v4 : Int32) : v6_turnDay_71 (n + 1) p v1 v4 = bv6_turnDay_71 (v6_turnDay_71 n) p v1 v4 := rfl
noncomputable def bg6_turnDay_71 (kg71 : PM → Int32 → Int32 → Prop) (p : PM) (v1 : Int32) (v4 : Int32) : Prop :=
  if v4 < (cn 6) then (
    (inb v4 6) ∧ (
    let p2 : PM := pI p 1 ((v4).toNatClampNeg + 1) 4 (p.1 1 ((v4).toNatClampNeg + 1) 3)
    kg71 p2 v1 (v4 + (cn 1))))
  else (
    let p1 : PM := pI p 6 1 3 ((p.1 6 1 3) + (cn 1))
    True)
noncomputable def g6_turnDay_71 (n : Nat) : PM → Int32 → Int32 → Prop := Nat.rec (motive := fun _ => PM → Int32 → Int32 → Prop) (fun _ _ _ => False) (fun _ ih => bg6_turnDay_71 ih) n
theorem eg6_turnDay_71 (n : Nat) (p : PM) (v1 : Int32) (v4 : Int32) : g6_turnDay_71 (n + 1) p v1 v4 = bg6_turnDay_71 (g6_turnDay_71 n) p v1 v4 := rfl
noncomputable def bv6_turnDay_13 (kv13 : PM → Int32 → Int32 → Int32 × PM) (kv71 : PM → Int32 → Int32 → Int32 × PM) (p : PM) (v1 : Int32) (v4 : Int32) : Int32 × PM :=
  if v4 < (cn 40) then (
    if (p.1 10 ((v4).toNatClampNeg + 1) 2) = 0 then (
      kv13 p v1 (v4 + (cn 1)))
    else (
      if (p.1 6 1 3) < (p.1 10 ((v4).toNatClampNeg + 1) 8) then (
        kv13 p v1 (v4 + (cn 1)))
      else (
        let p1 : PM := pI p 10 ((v4).toNatClampNeg + 1) 2 (cn 0)
        kv13 p1 (v1 + (cn 1)) (v4 + (cn 1)))))
  else (
    kv71 p v1 (cn 0))
noncomputable def v6_turnDay_13 (n : Nat) : PM → Int32 → Int32 → Int32 × PM := Nat.rec (motive := fun _ => PM → Int32 → Int32 → Int32 × PM) (fun p _ _ => (0, p)) (fun _ ih => bv6_turnDay_13 ih (v6_turnDay_71 FU)) n
theorem ev6_turnDay_13 (n : Nat) (p : PM) (v1 : Int32) (v4 : Int32) : v6_turnDay_13 (n + 1) p v1 v4 = bv6_turnDay_13 (v6_turnDay_13 n) (v6_turnDay_71 FU) p v1 v4 := rfl
noncomputable def bg6_turnDay_13 (kg13 : PM → Int32 → Int32 → Prop) (kg71 : PM → Int32 → Int32 → Prop) (p : PM) (v1 : Int32) (v4 : Int32) : Prop :=
  if v4 < (cn 40) then (
    (inb v4 40) ∧ (
    if (p.1 10 ((v4).toNatClampNeg + 1) 2) = 0 then (
      kg13 p v1 (v4 + (cn 1)))
    else (
      if (p.1 6 1 3) < (p.1 10 ((v4).toNatClampNeg + 1) 8) then (
        kg13 p v1 (v4 + (cn 1)))
      else (
        let p1 : PM := pI p 10 ((v4).toNatClampNeg + 1) 2 (cn 0)
        kg13 p1 (v1 + (cn 1)) (v4 + (cn 1))))))
  else (
    kg71 p v1 (cn 0))
noncomputable def g6_turnDay_13 (n : Nat) : PM → Int32 → Int32 → Prop := Nat.rec (motive := fun _ => PM → Int32 → Int32 → Prop) (fun _ _ _ => False) (fun _ ih => bg6_turnDay_13 ih (g6_turnDay_71 FU)) n
theorem eg6_turnDay_13 (n : Nat) (p : PM) (v1 : Int32) (v4 : Int32) : g6_turnDay_13 (n + 1) p v1 v4 = bg6_turnDay_13 (g6_turnDay_13 n) (g6_turnDay_71 FU) p v1 v4 := rfl
noncomputable def bv6_turnDay (kv13 : PM → Int32 → Int32 → Int32 × PM) (p : PM) : Int32 × PM :=
  kv13 p (cn 0) (cn 0)
noncomputable def v6_turnDay (p : PM) : Int32 × PM := bv6_turnDay (v6_turnDay_13 FU) p
noncomputable def bg6_turnDay (kg13 : PM → Int32 → Int32 → Prop) (p : PM) : Prop :=
  kg13 p (cn 0) (cn 0)
noncomputable def g6_turnDay (p : PM) : Prop := bg6_turnDay (g6_turnDay_13 FU) p
def R95 : List Row := [(0, .iconst 0, 1, 0, (0, 0, 0, 0, 0, 0)), (1, .istore_n 1, 1, 0, (0, 0, 0, 0, 0, 0)), (2, .aload_n 0, 1, 0, (0, 0, 0, 0, 0, 0)), (3, .getfield 11, 3, 0, (6, 1, 23, 2, 1, 0)), (6, .astore_n 2, 1, 0, (0, 0, 0, 0, 0, 0)), (7, .aload_n 2, 1, 0, (0, 0, 0, 0, 0, 0)), (8, .arraylength, 1, 0, (20, 40, 0, 0, 0, 40)), (9, .istore_n 3, 1, 0, (0, 0, 0, 0, 0, 0)), (10, .iconst 0, 1, 0, (0, 0, 0, 0, 0, 0)), (11, .istore 4, 2, 0, (0, 0, 0, 0, 0, 0)), (13, .iload 4, 2, 1, (0, 0, 0, 0, 0, 0)), (15, .iload_n 3, 1, 0, (0, 0, 0, 0, 0, 0)), (16, .if_icmp .ge 44, 3, 0, (0, 0, 0, 0, 0, 0)), (19, .aload_n 2, 1, 0, (0, 0, 0, 0, 0, 0)), (20, .iload 4, 2, 0, (0, 0, 0, 0, 0, 0)), (22, .aaload, 1, 0, (20, 40, 0, 1, 1, 0)), (23, .astore 5, 2, 0, (0, 0, 0, 0, 0, 0)), (25, .aload 5, 2, 0, (0, 0, 0, 0, 0, 0)), (27, .getfield 29, 3, 0, (10, 2, 0, 1, 0, 0)), (30, .ifCond .eq 24, 3, 0, (0, 0, 0, 0, 0, 0)), (33, .aload 5, 2, 0, (0, 0, 0, 0, 0, 0)), (35, .getfield 173, 3, 0, (10, 8, 0, 1, 0, 0)), (38, .aload_n 0, 1, 0, (0, 0, 0, 0, 0, 0)), (39, .getfield 36, 3, 0, (6, 3, 0, 1, 0, 0)), (42, .if_icmp .gt 12, 3, 0, (0, 0, 0, 0, 0, 0)), (45, .aload 5, 2, 0, (0, 0, 0, 0, 0, 0)), (47, .iconst 0, 1, 0, (0, 0, 0, 0, 0, 0)), (48, .putfield 29, 3, 0, (10, 2, 0, 1, 0, 0)), (51, .iinc 1 1, 3, 0, (0, 0, 0, 0, 0, 1)), (54, .iinc 4 1, 3, 0, (0, 0, 0, 0, 0, 1)), (57, .goto (-44), 3, 0, (0, 0, 0, 0, 0, 0)), (60, .aload_n 0, 1, 0, (0, 0, 0, 0, 0, 0)), (61, .getfield 17, 3, 0, (6, 0, 20, 2, 1, 0)), (64, .astore_n 2, 1, 0, (0, 0, 0, 0, 0, 0)), (65, .aload_n 2, 1, 0, (0, 0, 0, 0, 0, 0)), (66, .arraylength, 1, 0, (17, 6, 0, 0, 0, 6)), (67, .istore_n 3, 1, 0, (0, 0, 0, 0, 0, 0)), (68, .iconst 0, 1, 0, (0, 0, 0, 0, 0, 0)), (69, .istore 4, 2, 0, (0, 0, 0, 0, 0, 0)), (71, .iload 4, 2, 2, (0, 0, 0, 0, 0, 0)), (73, .iload_n 3, 1, 0, (0, 0, 0, 0, 0, 0)), (74, .if_icmp .ge 25, 3, 0, (0, 0, 0, 0, 0, 0)), (77, .aload_n 2, 1, 0, (0, 0, 0, 0, 0, 0)), (78, .iload 4, 2, 0, (0, 0, 0, 0, 0, 0)), (80, .aaload, 1, 0, (17, 6, 0, 1, 1, 0)), (81, .astore 5, 2, 0, (0, 0, 0, 0, 0, 0)), (83, .aload 5, 2, 0, (0, 0, 0, 0, 0, 0)), (85, .aload 5, 2, 0, (0, 0, 0, 0, 0, 0)), (87, .getfield 176, 3, 0, (1, 3, 0, 1, 0, 0)), (90, .putfield 179, 3, 0, (1, 4, 0, 1, 0, 0)), (93, .iinc 4 1, 3, 0, (0, 0, 0, 0, 0, 1)), (96, .goto (-25), 3, 0, (0, 0, 0, 0, 0, 0)), (99, .aload_n 0, 1, 0, (0, 0, 0, 0, 0, 0)), (100, .dup, 1, 0, (0, 0, 0, 0, 0, 0)), (101, .getfield 36, 3, 0, (6, 3, 0, 1, 0, 0)), (104, .iconst 1, 1, 0, (0, 0, 0, 0, 0, 1)), (105, .iadd, 1, 0, (0, 0, 0, 0, 0, 0)), (106, .putfield 36, 3, 0, (6, 3, 0, 1, 0, 0)), (109, .iload_n 1, 1, 0, (0, 0, 0, 0, 0, 0)), (110, .ireturn, 1, 0, (0, 0, 0, 0, 0, 0))]
set_option maxRecDepth 100000 in
theorem rk95 : R95.all (rok 0 95 1 []) = true := by decide +kernel
set_option maxRecDepth 100000 in
theorem tab95 : TabOK 0 95 1 [] R95 := tab_ok (K := K95) rfl rfl (fun h => d95 h) rk95 (by decide +kernel)
set_option maxRecDepth 100000 in
theorem pc95 : cutpc [13, 71] R95 = true := by decide +kernel
set_option maxRecDepth 100000 in
theorem r6_turnDay_71 (kv71 : PM → Int32 → Int32 → Int32 × PM) (kg71 : PM → Int32 → Int32 → Prop) (hk71 : ∀ (p : PM) (v1 : Int32) (v4 : Int32) (d5 : ZV), Gr 0 p → kg71 p v1 v4 → ZJ 0 95 71 [zR 6 1, zI v1, zR 17 1, zC 6, zI v4, d5] [] p (hwI (kv71 p v1 v4))) : ∀ (p : PM) (v1 : Int32) (v4 : Int32) (d5 : ZV), Gr 0 p → bg6_turnDay_71 kg71 p v1 v4 → ZJ 0 95 71 [zR 6 1, zI v1, zR 17 1, zC 6, zI v4, d5] [] p (hwI (bv6_turnDay_71 kv71 p v1 v4)) := by
  intro p v1 v4 d5 hg H
  exact rwI (n := 3000) (q := 71) (la := [zR 6 1, zI v1, zR 17 1, zC 6, zI v4, d5]) (sa := []) (ks := [fun _ _ s => (0, s), fun la sa s => kv71 s (ai la 1) (ai la 4)]) (gs := [fun _ _ _ => False, fun la sa s => zsw (tc2 la [(106, 1), (0, 0), (117, 1), (3, 6), (0, 0), (2, 0)] && tc2 sa []) False (kg71 s (ai la 1) (ai la 4))]) (fnil) tab95 pc95 ⟨fun _ _ _ _ H => H.elim, fun la sa s hg H => zcut H fun H => hk71 s (ai la 1) (ai la 4) (zld la 5) hg H, trivial⟩ hg H
theorem t6_turnDay_71 : ∀ (n : Nat), ∀ (p : PM) (v1 : Int32) (v4 : Int32) (d5 : ZV), Gr 0 p → g6_turnDay_71 n p v1 v4 → ZJ 0 95 71 [zR 6 1, zI v1, zR 17 1, zC 6, zI v4, d5] [] p (hwI (v6_turnDay_71 n p v1 v4)) := by
  intro n
  induction n with
  | zero =>
    intro p v1 v4 d5 hg H
    exact H.elim
  | succ n ih => exact r6_turnDay_71 (v6_turnDay_71 n) (g6_turnDay_71 n) ih
set_option maxRecDepth 100000 in
theorem r6_turnDay_13 (kv13 : PM → Int32 → Int32 → Int32 × PM) (kg13 : PM → Int32 → Int32 → Prop) (hk13 : ∀ (p : PM) (v1 : Int32) (v4 : Int32) (d5 : ZV), Gr 0 p → kg13 p v1 v4 → ZJ 0 95 13 [zR 6 1, zI v1, zR 20 1, zC 40, zI v4, d5] [] p (hwI (kv13 p v1 v4))) (kv71 : PM → Int32 → Int32 → Int32 × PM) (kg71 : PM → Int32 → Int32 → Prop) (hk71 : ∀ (p : PM) (v1 : Int32) (v4 : Int32) (d5 : ZV), Gr 0 p → kg71 p v1 v4 → ZJ 0 95 71 [zR 6 1, zI v1, zR 17 1, zC 6, zI v4, d5] [] p (hwI (kv71 p v1 v4))) : ∀ (p : PM) (v1 : Int32) (v4 : Int32) (d5 : ZV), Gr 0 p → bg6_turnDay_13 kg13 kg71 p v1 v4 → ZJ 0 95 13 [zR 6 1, zI v1, zR 20 1, zC 40, zI v4, d5] [] p (hwI (bv6_turnDay_13 kv13 kv71 p v1 v4)) := by
  intro p v1 v4 d5 hg H
  exact rwI (n := 3000) (q := 13) (la := [zR 6 1, zI v1, zR 20 1, zC 40, zI v4, d5]) (sa := []) (ks := [fun la sa s => kv13 s (ai la 1) (ai la 4), fun la sa s => kv71 s (ai la 1) (ai la 4)]) (gs := [fun la sa s => zsw (tc2 la [(106, 1), (0, 0), (120, 1), (3, 40), (0, 0), (2, 0)] && tc2 sa []) False (kg13 s (ai la 1) (ai la 4)), fun la sa s => zsw (tc2 la [(106, 1), (0, 0), (117, 1), (3, 6), (0, 0), (2, 0)] && tc2 sa []) False (kg71 s (ai la 1) (ai la 4))]) (fnil) tab95 pc95 ⟨fun la sa s hg H => zcut H fun H => hk13 s (ai la 1) (ai la 4) (zld la 5) hg H, fun la sa s hg H => zcut H fun H => hk71 s (ai la 1) (ai la 4) (zld la 5) hg H, trivial⟩ hg H
theorem t6_turnDay_13 : ∀ (n : Nat), ∀ (p : PM) (v1 : Int32) (v4 : Int32) (d5 : ZV), Gr 0 p → g6_turnDay_13 n p v1 v4 → ZJ 0 95 13 [zR 6 1, zI v1, zR 20 1, zC 40, zI v4, d5] [] p (hwI (v6_turnDay_13 n p v1 v4)) := by
  intro n
  induction n with
  | zero =>
    intro p v1 v4 d5 hg H
    exact H.elim
  | succ n ih => exact r6_turnDay_13 (v6_turnDay_13 n) (g6_turnDay_13 n) ih (v6_turnDay_71 FU) (g6_turnDay_71 FU) (t6_turnDay_71 FU)
set_option maxRecDepth 100000 in
theorem r6_turnDay (kv13 : PM → Int32 → Int32 → Int32 × PM) (kg13 : PM → Int32 → Int32 → Prop) (hk13 : ∀ (p : PM) (v1 : Int32) (v4 : Int32) (d5 : ZV), Gr 0 p → kg13 p v1 v4 → ZJ 0 95 13 [zR 6 1, zI v1, zR 20 1, zC 40, zI v4, d5] [] p (hwI (kv13 p v1 v4))) : ∀ (p : PM), Gr 0 p → bg6_turnDay kg13 p → ZJ 0 95 0 [zR 6 1, zJ, zJ, zJ, zJ, zJ] [] p (hwI (bv6_turnDay kv13 p)) := by
  intro p   hg H
  exact rwI (n := 3000) (q := 0) (la := [zR 6 1, zJ, zJ, zJ, zJ, zJ]) (sa := []) (ks := [fun la sa s => kv13 s (ai la 1) (ai la 4), fun _ _ s => (0, s)]) (gs := [fun la sa s => zsw (tc2 la [(106, 1), (0, 0), (120, 1), (3, 40), (0, 0), (2, 0)] && tc2 sa []) False (kg13 s (ai la 1) (ai la 4)), fun _ _ _ => False]) (fnil) tab95 pc95 ⟨fun la sa s hg H => zcut H fun H => hk13 s (ai la 1) (ai la 4) (zld la 5) hg H, fun _ _ _ _ H => H.elim, trivial⟩ hg H
theorem t6_turnDay : ∀ (p : PM), Gr 0 p → g6_turnDay p → ZJ 0 95 0 [zR 6 1, zJ, zJ, zJ, zJ, zJ] [] p (hwI (v6_turnDay p)) := r6_turnDay (v6_turnDay_13 FU) (g6_turnDay_13 FU) (t6_turnDay_13 FU)
def CC95 (F : PM → Int32 × PM) (G : PM → Prop) : Cal := (95, [9], 1, false, fun as p => (zI (F p ).1, (F p ).2), fun as p => zsw (tc2 as [(106, 1)]) False (G p ))
set_option maxRecDepth 100000 in
theorem okr95 (F : PM → Int32 × PM) (G : PM → Prop) (h : ∀ (p : PM), Gr 0 p → G p  → ZJ 0 95 0 [zR 6 1, zJ, zJ, zJ, zJ, zJ] [] p (hwI (F p ))) : CalOK 0 (CC95 F G) := cal_ok (m := 6) (by unfold mL; rw [mX_95]) (fun as p hg H => h p  hg H)
theorem ok95 : CalOK 0 (CC95 v6_turnDay g6_turnDay) := okr95 v6_turnDay g6_turnDay t6_turnDay
noncomputable def bv7_reprice (F106 : PM → Int32 → Nat) (F107 : PM → Nat → Int32) (p : PM) (v1 : Int32) (v2 : Int32) : Int32 × PM :=
  if (F106 p v1) = 0 then (
    ((cn 0), p))
  else (
    let x1 : Int64 := (((p.1 4 (F106 p v1) 4)).toInt64 * ((v2 - (p.1 4 (F106 p v1) 3))).toInt64)
    let p2 : PM := pI p 4 (F106 p v1) 3 v2
    let p3 : PM := pJ p2 0 (p2.2.2 4 (F106 p v1) 1) 4 ((p2.2.1 0 (p2.2.2 4 (F106 p v1) 1) 4) - x1)
    let p4 : PM := pJ p3 0 (p3.2.2 4 (F106 p v1) 2) 4 ((p3.2.1 0 (p3.2.2 4 (F106 p v1) 2) 4) + x1)
    if (F107 p4 (p4.2.2 4 (F106 p v1) 0)) = v1 then (
      let p5 : PM := pI p4 1 (p4.2.2 4 (F106 p v1) 0) 3 v2
      ((p.1 4 (F106 p v1) 3), p5))
    else (
      ((p.1 4 (F106 p v1) 3), p4)))
noncomputable def v7_reprice (p : PM) (v1 : Int32) (v2 : Int32) : Int32 × PM := bv7_reprice v7_find v7_latestOf p v1 v2
noncomputable def bg7_reprice (F106 : PM → Int32 → Nat) (G106 : PM → Int32 → Prop) (F107 : PM → Nat → Int32) (G107 : PM → Nat → Prop) (p : PM) (v1 : Int32) (v2 : Int32) : Prop :=
  (G106 p v1) ∧ (
  if (F106 p v1) = 0 then (
    True)
  else (
    (¬ (F106 p v1) = 0) ∧ (
    (¬ (F106 p v1) = 0) ∧ (
    let x1 : Int64 := (((p.1 4 (F106 p v1) 4)).toInt64 * ((v2 - (p.1 4 (F106 p v1) 3))).toInt64)
    (¬ (F106 p v1) = 0) ∧ (
    let p2 : PM := pI p 4 (F106 p v1) 3 v2
    (¬ (F106 p v1) = 0) ∧ (
    (¬ (p2.2.2 4 (F106 p v1) 1) = 0) ∧ (
    (¬ (p2.2.2 4 (F106 p v1) 1) = 0) ∧ (
    let p3 : PM := pJ p2 0 (p2.2.2 4 (F106 p v1) 1) 4 ((p2.2.1 0 (p2.2.2 4 (F106 p v1) 1) 4) - x1)
    (¬ (F106 p v1) = 0) ∧ (
    (¬ (p3.2.2 4 (F106 p v1) 2) = 0) ∧ (
    (¬ (p3.2.2 4 (F106 p v1) 2) = 0) ∧ (
    let p4 : PM := pJ p3 0 (p3.2.2 4 (F106 p v1) 2) 4 ((p3.2.1 0 (p3.2.2 4 (F106 p v1) 2) 4) + x1)
    (¬ (F106 p v1) = 0) ∧ (
    (G107 p4 (p4.2.2 4 (F106 p v1) 0)) ∧ (
    if (F107 p4 (p4.2.2 4 (F106 p v1) 0)) = v1 then (
      (¬ (F106 p v1) = 0) ∧ (
      (¬ (p4.2.2 4 (F106 p v1) 0) = 0) ∧ (
      let p5 : PM := pI p4 1 (p4.2.2 4 (F106 p v1) 0) 3 v2
      True)))
    else (
      True))))))))))))))
noncomputable def g7_reprice (p : PM) (v1 : Int32) (v2 : Int32) : Prop := bg7_reprice v7_find g7_find v7_latestOf g7_latestOf p v1 v2
def R109 : List Row := [(0, .aload_n 0, 1, 0, (0, 0, 0, 0, 0, 0)), (1, .iload_n 1, 1, 0, (0, 0, 0, 0, 0, 0)), (2, .invokevirtual 59, 3, 0, (0, 2, 0, 0, 1, 0)), (5, .astore_n 3, 1, 0, (0, 0, 0, 0, 0, 0)), (6, .aload_n 3, 1, 0, (0, 0, 0, 0, 0, 0)), (7, .ifnonnull 5, 3, 0, (0, 0, 0, 0, 0, 0)), (10, .iconst 0, 1, 0, (0, 0, 0, 0, 0, 0)), (11, .ireturn, 1, 0, (0, 0, 0, 0, 0, 0)), (12, .aload_n 3, 1, 0, (0, 0, 0, 0, 0, 0)), (13, .getfield 82, 3, 0, (4, 3, 0, 0, 0, 0)), (16, .istore 4, 2, 0, (0, 0, 0, 0, 0, 0)), (18, .aload_n 3, 1, 0, (0, 0, 0, 0, 0, 0)), (19, .getfield 79, 3, 0, (4, 4, 0, 0, 0, 0)), (22, .i2l, 1, 0, (0, 0, 0, 0, 0, 0)), (23, .iload_n 2, 1, 0, (0, 0, 0, 0, 0, 0)), (24, .iload 4, 2, 0, (0, 0, 0, 0, 0, 0)), (26, .isub, 1, 0, (0, 0, 0, 0, 0, 0)), (27, .i2l, 1, 0, (0, 0, 0, 0, 0, 0)), (28, .lmul, 1, 0, (0, 0, 0, 0, 0, 0)), (29, .lstore 5, 2, 0, (0, 0, 0, 0, 0, 0)), (31, .aload_n 3, 1, 0, (0, 0, 0, 0, 0, 0)), (32, .iload_n 2, 1, 0, (0, 0, 0, 0, 0, 0)), (33, .putfield 82, 3, 0, (4, 3, 0, 0, 0, 0)), (36, .aload_n 3, 1, 0, (0, 0, 0, 0, 0, 0)), (37, .getfield 75, 3, 0, (4, 1, 3, 0, 0, 0)), (40, .dup, 1, 0, (0, 0, 0, 0, 0, 0)), (41, .getfield 91, 3, 0, (0, 4, 2, 0, 0, 0)), (44, .lload 5, 2, 0, (0, 0, 0, 0, 0, 0)), (46, .lsub, 1, 0, (0, 0, 0, 0, 0, 0)), (47, .putfield 91, 3, 0, (0, 4, 2, 0, 0, 0)), (50, .aload_n 3, 1, 0, (0, 0, 0, 0, 0, 0)), (51, .getfield 85, 3, 0, (4, 2, 3, 0, 0, 0)), (54, .dup, 1, 0, (0, 0, 0, 0, 0, 0)), (55, .getfield 91, 3, 0, (0, 4, 2, 0, 0, 0)), (58, .lload 5, 2, 0, (0, 0, 0, 0, 0, 0)), (60, .ladd, 1, 0, (0, 0, 0, 0, 0, 0)), (61, .putfield 91, 3, 0, (0, 4, 2, 0, 0, 0)), (64, .aload_n 0, 1, 0, (0, 0, 0, 0, 0, 0)), (65, .aload_n 3, 1, 0, (0, 0, 0, 0, 0, 0)), (66, .getfield 63, 3, 0, (4, 0, 4, 0, 0, 0)), (69, .invokevirtual 71, 3, 0, (1, 2, 0, 0, 1, 0)), (72, .iload_n 1, 1, 0, (0, 0, 0, 0, 0, 0)), (73, .if_icmp .ne 11, 3, 0, (0, 0, 0, 0, 0, 0)), (76, .aload_n 3, 1, 0, (0, 0, 0, 0, 0, 0)), (77, .getfield 63, 3, 0, (4, 0, 4, 0, 0, 0)), (80, .iload_n 2, 1, 0, (0, 0, 0, 0, 0, 0)), (81, .putfield 44, 3, 0, (1, 3, 0, 0, 0, 0)), (84, .iload 4, 2, 0, (0, 0, 0, 0, 0, 0)), (86, .ireturn, 1, 0, (0, 0, 0, 0, 0, 0))]
set_option maxRecDepth 100000 in
theorem rk109 : R109.all (rok 0 109 1 [(106, [10, 0]), (107, [10, 4])]) = true := by decide +kernel
set_option maxRecDepth 100000 in
theorem tab109 {F106 : PM → Int32 → Nat} {G106 : PM → Int32 → Prop} {F107 : PM → Nat → Int32} {G107 : PM → Nat → Prop} : TabOK 0 109 1 [CC106 F106 G106, CC107 F107 G107] R109 := tab_ok (K := K109) rfl rfl (fun h => d109 h) rk109 (by decide +kernel)
set_option maxRecDepth 100000 in
theorem pc109 : cutpc [] R109 = true := by decide +kernel
set_option maxRecDepth 100000 in
theorem r7_reprice (F106 : PM → Int32 → Nat) (G106 : PM → Int32 → Prop) (o106 : CalOK 0 (CC106 F106 G106)) (F107 : PM → Nat → Int32) (G107 : PM → Nat → Prop) (o107 : CalOK 0 (CC107 F107 G107)) : ∀ (p : PM) (v1 : Int32) (v2 : Int32), Gr 0 p → bg7_reprice F106 G106 F107 G107 p v1 v2 → ZJ 0 109 0 [zR 7 1, zI v1, zI v2, zJ, zJ, zJ, zJ] [] p (hwI (bv7_reprice F106 F107 p v1 v2)) := by
  intro p v1 v2  hg H
  exact rwI (n := 3000) (q := 0) (la := [zR 7 1, zI v1, zI v2, zJ, zJ, zJ, zJ]) (sa := []) (ks := []) (gs := []) (fcons o106 (fcons o107 (fnil))) tab109 pc109 trivial hg H
theorem t7_reprice : ∀ (p : PM) (v1 : Int32) (v2 : Int32), Gr 0 p → g7_reprice p v1 v2 → ZJ 0 109 0 [zR 7 1, zI v1, zI v2, zJ, zJ, zJ, zJ] [] p (hwI (v7_reprice p v1 v2)) := r7_reprice v7_find g7_find ok106 v7_latestOf g7_latestOf ok107
def CC109 (F : PM → Int32 → Int32 → Int32 × PM) (G : PM → Int32 → Int32 → Prop) : Cal := (109, [10, 0, 0], 1, false, fun as p => (zI (F p (ai as 1) (ai as 2)).1, (F p (ai as 1) (ai as 2)).2), fun as p => zsw (tc2 as [(107, 1), (0, 0), (0, 0)]) False (G p (ai as 1) (ai as 2)))
set_option maxRecDepth 100000 in
theorem okr109 (F : PM → Int32 → Int32 → Int32 × PM) (G : PM → Int32 → Int32 → Prop) (h : ∀ (p : PM) (v1 : Int32) (v2 : Int32), Gr 0 p → G p v1 v2 → ZJ 0 109 0 [zR 7 1, zI v1, zI v2, zJ, zJ, zJ, zJ] [] p (hwI (F p v1 v2))) : CalOK 0 (CC109 F G) := cal_ok (m := 7) (by unfold mL; rw [mX_109]) (fun as p hg H => h p (ai as 1) (ai as 2) hg H)
theorem ok109 : CalOK 0 (CC109 v7_reprice g7_reprice) := okr109 v7_reprice g7_reprice t7_reprice
noncomputable def bv7_replaceSide (F5 : PM → Nat → Nat → Int32 → Int32 → PM) (F104 : PM → Int32 → Nat) (F106 : PM → Int32 → Nat) (p : PM) (v1 : Int32) (v2 : Int32) (v3 : Int32) : Int32 × PM :=
  if (F106 p v1) = 0 then (
    ((cn 0), p))
  else (
    if v2 = 0 then (
      let x1 : Nat := (p.2.2 4 (F106 p v1) 2)
      if v2 = 0 then (
        let x2 : Int32 := (-(p.1 4 (F106 p v1) 4))
        let p3 : PM := F5 p x1 (p.2.2 4 (F106 p v1) 0) (-x2) (p.1 4 (F106 p v1) 3)
        let p4 : PM := F5 p3 (F104 p v3) (p3.2.2 4 (F106 p v1) 0) x2 (p3.1 4 (F106 p v1) 3)
        if v2 = 0 then (
          let p5 : PM := pR p4 4 (F106 p v1) 2 (F104 p v3)
          ((p5.1 0 x1 0), p5))
        else (
          let p6 : PM := pR p4 4 (F106 p v1) 1 (F104 p v3)
          ((p6.1 0 x1 0), p6)))
      else (
        let p7 : PM := F5 p x1 (p.2.2 4 (F106 p v1) 0) (-(p.1 4 (F106 p v1) 4)) (p.1 4 (F106 p v1) 3)
        let p8 : PM := F5 p7 (F104 p v3) (p7.2.2 4 (F106 p v1) 0) (p.1 4 (F106 p v1) 4) (p7.1 4 (F106 p v1) 3)
        if v2 = 0 then (
          let p9 : PM := pR p8 4 (F106 p v1) 2 (F104 p v3)
          ((p9.1 0 x1 0), p9))
        else (
          let p10 : PM := pR p8 4 (F106 p v1) 1 (F104 p v3)
          ((p10.1 0 x1 0), p10))))
    else (
      let x11 : Nat := (p.2.2 4 (F106 p v1) 1)
      if v2 = 0 then (
        let x12 : Int32 := (-(p.1 4 (F106 p v1) 4))
        let p13 : PM := F5 p x11 (p.2.2 4 (F106 p v1) 0) (-x12) (p.1 4 (F106 p v1) 3)
        let p14 : PM := F5 p13 (F104 p v3) (p13.2.2 4 (F106 p v1) 0) x12 (p13.1 4 (F106 p v1) 3)
        if v2 = 0 then (
          let p15 : PM := pR p14 4 (F106 p v1) 2 (F104 p v3)
          ((p15.1 0 x11 0), p15))
        else (
          let p16 : PM := pR p14 4 (F106 p v1) 1 (F104 p v3)
          ((p16.1 0 x11 0), p16)))
      else (
        let p17 : PM := F5 p x11 (p.2.2 4 (F106 p v1) 0) (-(p.1 4 (F106 p v1) 4)) (p.1 4 (F106 p v1) 3)
        let p18 : PM := F5 p17 (F104 p v3) (p17.2.2 4 (F106 p v1) 0) (p.1 4 (F106 p v1) 4) (p17.1 4 (F106 p v1) 3)
        if v2 = 0 then (
          let p19 : PM := pR p18 4 (F106 p v1) 2 (F104 p v3)
          ((p19.1 0 x11 0), p19))
        else (
          let p20 : PM := pR p18 4 (F106 p v1) 1 (F104 p v3)
          ((p20.1 0 x11 0), p20)))))
noncomputable def v7_replaceSide (p : PM) (v1 : Int32) (v2 : Int32) (v3 : Int32) : Int32 × PM := bv7_replaceSide v0_take v7_accountAt v7_find p v1 v2 v3
noncomputable def bg7_replaceSide (F5 : PM → Nat → Nat → Int32 → Int32 → PM) (G5 : PM → Nat → Nat → Int32 → Int32 → Prop) (F104 : PM → Int32 → Nat) (G104 : PM → Int32 → Prop) (F106 : PM → Int32 → Nat) (G106 : PM → Int32 → Prop) (p : PM) (v1 : Int32) (v2 : Int32) (v3 : Int32) : Prop :=
  (G106 p v1) ∧ (
  if (F106 p v1) = 0 then (
    True)
  else (
    if v2 = 0 then (
      (¬ (F106 p v1) = 0) ∧ (
      let x1 : Nat := (p.2.2 4 (F106 p v1) 2)
      (G104 p v3) ∧ (
      if v2 = 0 then (
        (¬ (F106 p v1) = 0) ∧ (
        let x2 : Int32 := (-(p.1 4 (F106 p v1) 4))
        (¬ (F106 p v1) = 0) ∧ (
        (¬ (F106 p v1) = 0) ∧ (
        (¬ x1 = 0) ∧ (
        (G5 p x1 (p.2.2 4 (F106 p v1) 0) (-x2) (p.1 4 (F106 p v1) 3)) ∧ (
        let p3 : PM := F5 p x1 (p.2.2 4 (F106 p v1) 0) (-x2) (p.1 4 (F106 p v1) 3)
        (¬ (F106 p v1) = 0) ∧ (
        (¬ (F106 p v1) = 0) ∧ (
        (¬ (F104 p v3) = 0) ∧ (
        (G5 p3 (F104 p v3) (p3.2.2 4 (F106 p v1) 0) x2 (p3.1 4 (F106 p v1) 3)) ∧ (
        let p4 : PM := F5 p3 (F104 p v3) (p3.2.2 4 (F106 p v1) 0) x2 (p3.1 4 (F106 p v1) 3)
        if v2 = 0 then (
          (¬ (F106 p v1) = 0) ∧ (
          let p5 : PM := pR p4 4 (F106 p v1) 2 (F104 p v3)
          (¬ x1 = 0) ∧ (
          True)))
        else (
          (¬ (F106 p v1) = 0) ∧ (
          let p6 : PM := pR p4 4 (F106 p v1) 1 (F104 p v3)
          (¬ x1 = 0) ∧ (
          True)))))))))))))
      else (
        (¬ (F106 p v1) = 0) ∧ (
        (¬ (F106 p v1) = 0) ∧ (
        (¬ (F106 p v1) = 0) ∧ (
        (¬ x1 = 0) ∧ (
        (G5 p x1 (p.2.2 4 (F106 p v1) 0) (-(p.1 4 (F106 p v1) 4)) (p.1 4 (F106 p v1) 3)) ∧ (
        let p7 : PM := F5 p x1 (p.2.2 4 (F106 p v1) 0) (-(p.1 4 (F106 p v1) 4)) (p.1 4 (F106 p v1) 3)
        (¬ (F106 p v1) = 0) ∧ (
        (¬ (F106 p v1) = 0) ∧ (
        (¬ (F104 p v3) = 0) ∧ (
        (G5 p7 (F104 p v3) (p7.2.2 4 (F106 p v1) 0) (p.1 4 (F106 p v1) 4) (p7.1 4 (F106 p v1) 3)) ∧ (
        let p8 : PM := F5 p7 (F104 p v3) (p7.2.2 4 (F106 p v1) 0) (p.1 4 (F106 p v1) 4) (p7.1 4 (F106 p v1) 3)
        if v2 = 0 then (
          (¬ (F106 p v1) = 0) ∧ (
          let p9 : PM := pR p8 4 (F106 p v1) 2 (F104 p v3)
          (¬ x1 = 0) ∧ (
          True)))
        else (
          (¬ (F106 p v1) = 0) ∧ (
          let p10 : PM := pR p8 4 (F106 p v1) 1 (F104 p v3)
          (¬ x1 = 0) ∧ (
          True))))))))))))))))
    else (
      (¬ (F106 p v1) = 0) ∧ (
      let x11 : Nat := (p.2.2 4 (F106 p v1) 1)
      (G104 p v3) ∧ (
      if v2 = 0 then (
        (¬ (F106 p v1) = 0) ∧ (
        let x12 : Int32 := (-(p.1 4 (F106 p v1) 4))
        (¬ (F106 p v1) = 0) ∧ (
        (¬ (F106 p v1) = 0) ∧ (
        (¬ x11 = 0) ∧ (
        (G5 p x11 (p.2.2 4 (F106 p v1) 0) (-x12) (p.1 4 (F106 p v1) 3)) ∧ (
        let p13 : PM := F5 p x11 (p.2.2 4 (F106 p v1) 0) (-x12) (p.1 4 (F106 p v1) 3)
        (¬ (F106 p v1) = 0) ∧ (
        (¬ (F106 p v1) = 0) ∧ (
        (¬ (F104 p v3) = 0) ∧ (
        (G5 p13 (F104 p v3) (p13.2.2 4 (F106 p v1) 0) x12 (p13.1 4 (F106 p v1) 3)) ∧ (
        let p14 : PM := F5 p13 (F104 p v3) (p13.2.2 4 (F106 p v1) 0) x12 (p13.1 4 (F106 p v1) 3)
        if v2 = 0 then (
          (¬ (F106 p v1) = 0) ∧ (
          let p15 : PM := pR p14 4 (F106 p v1) 2 (F104 p v3)
          (¬ x11 = 0) ∧ (
          True)))
        else (
          (¬ (F106 p v1) = 0) ∧ (
          let p16 : PM := pR p14 4 (F106 p v1) 1 (F104 p v3)
          (¬ x11 = 0) ∧ (
          True)))))))))))))
      else (
        (¬ (F106 p v1) = 0) ∧ (
        (¬ (F106 p v1) = 0) ∧ (
        (¬ (F106 p v1) = 0) ∧ (
        (¬ x11 = 0) ∧ (
        (G5 p x11 (p.2.2 4 (F106 p v1) 0) (-(p.1 4 (F106 p v1) 4)) (p.1 4 (F106 p v1) 3)) ∧ (
        let p17 : PM := F5 p x11 (p.2.2 4 (F106 p v1) 0) (-(p.1 4 (F106 p v1) 4)) (p.1 4 (F106 p v1) 3)
        (¬ (F106 p v1) = 0) ∧ (
        (¬ (F106 p v1) = 0) ∧ (
        (¬ (F104 p v3) = 0) ∧ (
        (G5 p17 (F104 p v3) (p17.2.2 4 (F106 p v1) 0) (p.1 4 (F106 p v1) 4) (p17.1 4 (F106 p v1) 3)) ∧ (
        let p18 : PM := F5 p17 (F104 p v3) (p17.2.2 4 (F106 p v1) 0) (p.1 4 (F106 p v1) 4) (p17.1 4 (F106 p v1) 3)
        if v2 = 0 then (
          (¬ (F106 p v1) = 0) ∧ (
          let p19 : PM := pR p18 4 (F106 p v1) 2 (F104 p v3)
          (¬ x11 = 0) ∧ (
          True)))
        else (
          (¬ (F106 p v1) = 0) ∧ (
          let p20 : PM := pR p18 4 (F106 p v1) 1 (F104 p v3)
          (¬ x11 = 0) ∧ (
          True))))))))))))))))))
noncomputable def g7_replaceSide (p : PM) (v1 : Int32) (v2 : Int32) (v3 : Int32) : Prop := bg7_replaceSide v0_take g0_take v7_accountAt g7_accountAt v7_find g7_find p v1 v2 v3
def R110 : List Row := [(0, .aload_n 0, 1, 0, (0, 0, 0, 0, 0, 0)), (1, .iload_n 1, 1, 0, (0, 0, 0, 0, 0, 0)), (2, .invokevirtual 59, 3, 0, (0, 2, 0, 0, 1, 0)), (5, .astore 4, 2, 0, (0, 0, 0, 0, 0, 0)), (7, .aload 4, 2, 0, (0, 0, 0, 0, 0, 0)), (9, .ifnonnull 5, 3, 0, (0, 0, 0, 0, 0, 0)), (12, .iconst 0, 1, 0, (0, 0, 0, 0, 0, 0)), (13, .ireturn, 1, 0, (0, 0, 0, 0, 0, 0)), (14, .iload_n 2, 1, 0, (0, 0, 0, 0, 0, 0)), (15, .ifCond .eq 11, 3, 0, (0, 0, 0, 0, 0, 0)), (18, .aload 4, 2, 0, (0, 0, 0, 0, 0, 0)), (20, .getfield 75, 3, 0, (4, 1, 3, 0, 0, 0)), (23, .goto 8, 3, 0, (0, 0, 0, 0, 0, 0)), (26, .aload 4, 2, 0, (0, 0, 0, 0, 0, 0)), (28, .getfield 85, 3, 0, (4, 2, 3, 0, 0, 0)), (31, .astore 5, 2, 0, (0, 0, 0, 0, 0, 0)), (33, .aload_n 0, 1, 0, (0, 0, 0, 0, 0, 0)), (34, .iload_n 3, 1, 0, (0, 0, 0, 0, 0, 0)), (35, .invokevirtual 95, 3, 0, (1, 2, 0, 0, 1, 0)), (38, .astore 6, 2, 0, (0, 0, 0, 0, 0, 0)), (40, .iload_n 2, 1, 0, (0, 0, 0, 0, 0, 0)), (41, .ifCond .eq 11, 3, 0, (0, 0, 0, 0, 0, 0)), (44, .aload 4, 2, 0, (0, 0, 0, 0, 0, 0)), (46, .getfield 79, 3, 0, (4, 4, 0, 0, 0, 0)), (49, .goto 9, 3, 0, (0, 0, 0, 0, 0, 0)), (52, .aload 4, 2, 0, (0, 0, 0, 0, 0, 0)), (54, .getfield 79, 3, 0, (4, 4, 0, 0, 0, 0)), (57, .ineg, 1, 0, (0, 0, 0, 0, 0, 0)), (58, .istore 7, 2, 0, (0, 0, 0, 0, 0, 0)), (60, .aload 5, 2, 0, (0, 0, 0, 0, 0, 0)), (62, .aload 4, 2, 0, (0, 0, 0, 0, 0, 0)), (64, .getfield 63, 3, 0, (4, 0, 4, 0, 0, 0)), (67, .iload 7, 2, 0, (0, 0, 0, 0, 0, 0)), (69, .ineg, 1, 0, (0, 0, 0, 0, 0, 0)), (70, .aload 4, 2, 0, (0, 0, 0, 0, 0, 0)), (72, .getfield 82, 3, 0, (4, 3, 0, 0, 0, 0)), (75, .invokevirtual 49, 3, 0, (2, 4, 0, 0, 2, 0)), (78, .aload 6, 2, 0, (0, 0, 0, 0, 0, 0)), (80, .aload 4, 2, 0, (0, 0, 0, 0, 0, 0)), (82, .getfield 63, 3, 0, (4, 0, 4, 0, 0, 0)), (85, .iload 7, 2, 0, (0, 0, 0, 0, 0, 0)), (87, .aload 4, 2, 0, (0, 0, 0, 0, 0, 0)), (89, .getfield 82, 3, 0, (4, 3, 0, 0, 0, 0)), (92, .invokevirtual 49, 3, 0, (2, 4, 0, 0, 2, 0)), (95, .iload_n 2, 1, 0, (0, 0, 0, 0, 0, 0)), (96, .ifCond .eq 13, 3, 0, (0, 0, 0, 0, 0, 0)), (99, .aload 4, 2, 0, (0, 0, 0, 0, 0, 0)), (101, .aload 6, 2, 0, (0, 0, 0, 0, 0, 0)), (103, .putfield 75, 3, 0, (4, 1, 3, 0, 0, 0)), (106, .goto 10, 3, 0, (0, 0, 0, 0, 0, 0)), (109, .aload 4, 2, 0, (0, 0, 0, 0, 0, 0)), (111, .aload 6, 2, 0, (0, 0, 0, 0, 0, 0)), (113, .putfield 85, 3, 0, (4, 2, 3, 0, 0, 0)), (116, .aload 5, 2, 0, (0, 0, 0, 0, 0, 0)), (118, .getfield 99, 3, 0, (0, 0, 0, 0, 0, 0)), (121, .ireturn, 1, 0, (0, 0, 0, 0, 0, 0))]
set_option maxRecDepth 100000 in
theorem rk110 : R110.all (rok 0 110 1 [(106, [10, 0]), (104, [10, 0]), (5, [3, 4, 0, 0])]) = true := by decide +kernel
set_option maxRecDepth 100000 in
theorem tab110 {F106 : PM → Int32 → Nat} {G106 : PM → Int32 → Prop} {F104 : PM → Int32 → Nat} {G104 : PM → Int32 → Prop} {F5 : PM → Nat → Nat → Int32 → Int32 → PM} {G5 : PM → Nat → Nat → Int32 → Int32 → Prop} : TabOK 0 110 1 [CC106 F106 G106, CC104 F104 G104, CC5 F5 G5] R110 := tab_ok (K := K110) rfl rfl (fun h => d110 h) rk110 (by decide +kernel)
set_option maxRecDepth 100000 in
theorem pc110 : cutpc [] R110 = true := by decide +kernel
set_option maxRecDepth 100000 in
theorem r7_replaceSide (F106 : PM → Int32 → Nat) (G106 : PM → Int32 → Prop) (o106 : CalOK 0 (CC106 F106 G106)) (F104 : PM → Int32 → Nat) (G104 : PM → Int32 → Prop) (o104 : CalOK 0 (CC104 F104 G104)) (F5 : PM → Nat → Nat → Int32 → Int32 → PM) (G5 : PM → Nat → Nat → Int32 → Int32 → Prop) (o5 : CalOK 0 (CC5 F5 G5)) : ∀ (p : PM) (v1 : Int32) (v2 : Int32) (v3 : Int32), Gr 0 p → bg7_replaceSide F5 G5 F104 G104 F106 G106 p v1 v2 v3 → ZJ 0 110 0 [zR 7 1, zI v1, zI v2, zI v3, zJ, zJ, zJ, zJ] [] p (hwI (bv7_replaceSide F5 F104 F106 p v1 v2 v3)) := by
  intro p v1 v2 v3  hg H
  exact rwI (n := 3000) (q := 0) (la := [zR 7 1, zI v1, zI v2, zI v3, zJ, zJ, zJ, zJ]) (sa := []) (ks := []) (gs := []) (fcons o106 (fcons o104 (fcons o5 (fnil)))) tab110 pc110 trivial hg H
theorem t7_replaceSide : ∀ (p : PM) (v1 : Int32) (v2 : Int32) (v3 : Int32), Gr 0 p → g7_replaceSide p v1 v2 v3 → ZJ 0 110 0 [zR 7 1, zI v1, zI v2, zI v3, zJ, zJ, zJ, zJ] [] p (hwI (v7_replaceSide p v1 v2 v3)) := r7_replaceSide v7_find g7_find ok106 v7_accountAt g7_accountAt ok104 v0_take g0_take ok5
def CC110 (F : PM → Int32 → Int32 → Int32 → Int32 × PM) (G : PM → Int32 → Int32 → Int32 → Prop) : Cal := (110, [10, 0, 0, 0], 1, false, fun as p => (zI (F p (ai as 1) (ai as 2) (ai as 3)).1, (F p (ai as 1) (ai as 2) (ai as 3)).2), fun as p => zsw (tc2 as [(107, 1), (0, 0), (0, 0), (0, 0)]) False (G p (ai as 1) (ai as 2) (ai as 3)))
set_option maxRecDepth 100000 in
theorem okr110 (F : PM → Int32 → Int32 → Int32 → Int32 × PM) (G : PM → Int32 → Int32 → Int32 → Prop) (h : ∀ (p : PM) (v1 : Int32) (v2 : Int32) (v3 : Int32), Gr 0 p → G p v1 v2 v3 → ZJ 0 110 0 [zR 7 1, zI v1, zI v2, zI v3, zJ, zJ, zJ, zJ] [] p (hwI (F p v1 v2 v3))) : CalOK 0 (CC110 F G) := cal_ok (m := 8) (by unfold mL; rw [mX_110]) (fun as p hg H => h p (ai as 1) (ai as 2) (ai as 3) hg H)
theorem ok110 : CalOK 0 (CC110 v7_replaceSide g7_replaceSide) := okr110 v7_replaceSide g7_replaceSide t7_replaceSide
noncomputable def bv7_averageOf_20 (p : PM) (F53 : PM → Nat → Int32) (F203 : PM → Int64 → Int64 → Int64) (kv20 : Nat → Int32 → Int32 → Int64 → Int64 → Int32 → Int32) (v1 : Nat) (v2 : Int32) (v3 : Int32) (v4 : Int64) (v6 : Int64) (v10 : Int32) : Int32 :=
  if v10 < (cn 60) then (
    if v3 = 0 then (
      let x1 : Nat := (p.2.2 4 ((v10).toNatClampNeg + 1) 2)
      if (F53 p ((v10).toNatClampNeg + 1)) = 0 then (
        kv20 v1 v2 v3 v4 v6 (v10 + (cn 1)))
      else (
        if (p.1 1 (p.2.2 4 ((v10).toNatClampNeg + 1) 0) 0) = v2 then (
          if x1 = v1 then (
            let x2 : Int64 := (v4 + (((p.1 4 ((v10).toNatClampNeg + 1) 3)).toInt64 * ((p.1 4 ((v10).toNatClampNeg + 1) 4)).toInt64))
            let x3 : Int64 := (v6 + ((p.1 4 ((v10).toNatClampNeg + 1) 4)).toInt64)
            kv20 v1 v2 v3 x2 x3 (v10 + (cn 1)))
          else (
            kv20 v1 v2 v3 v4 v6 (v10 + (cn 1))))
        else (
          kv20 v1 v2 v3 v4 v6 (v10 + (cn 1)))))
    else (
      let x4 : Nat := (p.2.2 4 ((v10).toNatClampNeg + 1) 1)
      if (F53 p ((v10).toNatClampNeg + 1)) = 0 then (
        kv20 v1 v2 v3 v4 v6 (v10 + (cn 1)))
      else (
        if (p.1 1 (p.2.2 4 ((v10).toNatClampNeg + 1) 0) 0) = v2 then (
          if x4 = v1 then (
            let x5 : Int64 := (v4 + (((p.1 4 ((v10).toNatClampNeg + 1) 3)).toInt64 * ((p.1 4 ((v10).toNatClampNeg + 1) 4)).toInt64))
            let x6 : Int64 := (v6 + ((p.1 4 ((v10).toNatClampNeg + 1) 4)).toInt64)
            kv20 v1 v2 v3 x5 x6 (v10 + (cn 1)))
          else (
            kv20 v1 v2 v3 v4 v6 (v10 + (cn 1))))
        else (
          kv20 v1 v2 v3 v4 v6 (v10 + (cn 1))))))
  else (
    if 0 < (lg_cmp v6 (cl 0)) then (
      ((F203 p v4 v6)).toInt32)
    else (
      (cn (-100000))))
noncomputable def v7_averageOf_20 (p : PM) (n : Nat) : Nat → Int32 → Int32 → Int64 → Int64 → Int32 → Int32 := Nat.rec (motive := fun _ => Nat → Int32 → Int32 → Int64 → Int64 → Int32 → Int32) (fun _ _ _ _ _ _ => 0) (fun _ ih => bv7_averageOf_20 p v4_counts v14_floorDiv_f86c9 ih) n
theorem ev7_averageOf_20 (p : PM) (n : Nat) (v1 : Nat) (v2 : Int32) (v3 : Int32) (v4 : Int64) (v6 : Int64) (v10 : Int32) : v7_averageOf_20 p (n + 1) v1 v2 v3 v4 v6 v10 = bv7_averageOf_20 p v4_counts v14_floorDiv_f86c9 (v7_averageOf_20 p n) v1 v2 v3 v4 v6 v10 := rfl
noncomputable def bg7_averageOf_20 (p : PM) (F53 : PM → Nat → Int32) (G53 : PM → Nat → Prop) (F203 : PM → Int64 → Int64 → Int64) (G203 : PM → Int64 → Int64 → Prop) (kg20 : Nat → Int32 → Int32 → Int64 → Int64 → Int32 → Prop) (v1 : Nat) (v2 : Int32) (v3 : Int32) (v4 : Int64) (v6 : Int64) (v10 : Int32) : Prop :=
  if v10 < (cn 60) then (
    (inb v10 60) ∧ (
    if v3 = 0 then (
      let x1 : Nat := (p.2.2 4 ((v10).toNatClampNeg + 1) 2)
      (G53 p ((v10).toNatClampNeg + 1)) ∧ (
      if (F53 p ((v10).toNatClampNeg + 1)) = 0 then (
        kg20 v1 v2 v3 v4 v6 (v10 + (cn 1)))
      else (
        (¬ (p.2.2 4 ((v10).toNatClampNeg + 1) 0) = 0) ∧ (
        if (p.1 1 (p.2.2 4 ((v10).toNatClampNeg + 1) 0) 0) = v2 then (
          if x1 = v1 then (
            let x2 : Int64 := (v4 + (((p.1 4 ((v10).toNatClampNeg + 1) 3)).toInt64 * ((p.1 4 ((v10).toNatClampNeg + 1) 4)).toInt64))
            let x3 : Int64 := (v6 + ((p.1 4 ((v10).toNatClampNeg + 1) 4)).toInt64)
            kg20 v1 v2 v3 x2 x3 (v10 + (cn 1)))
          else (
            kg20 v1 v2 v3 v4 v6 (v10 + (cn 1))))
        else (
          kg20 v1 v2 v3 v4 v6 (v10 + (cn 1)))))))
    else (
      let x4 : Nat := (p.2.2 4 ((v10).toNatClampNeg + 1) 1)
      (G53 p ((v10).toNatClampNeg + 1)) ∧ (
      if (F53 p ((v10).toNatClampNeg + 1)) = 0 then (
        kg20 v1 v2 v3 v4 v6 (v10 + (cn 1)))
      else (
        (¬ (p.2.2 4 ((v10).toNatClampNeg + 1) 0) = 0) ∧ (
        if (p.1 1 (p.2.2 4 ((v10).toNatClampNeg + 1) 0) 0) = v2 then (
          if x4 = v1 then (
            let x5 : Int64 := (v4 + (((p.1 4 ((v10).toNatClampNeg + 1) 3)).toInt64 * ((p.1 4 ((v10).toNatClampNeg + 1) 4)).toInt64))
            let x6 : Int64 := (v6 + ((p.1 4 ((v10).toNatClampNeg + 1) 4)).toInt64)
            kg20 v1 v2 v3 x5 x6 (v10 + (cn 1)))
          else (
            kg20 v1 v2 v3 v4 v6 (v10 + (cn 1))))
        else (
          kg20 v1 v2 v3 v4 v6 (v10 + (cn 1)))))))))
  else (
    if 0 < (lg_cmp v6 (cl 0)) then (
      (G203 p v4 v6) ∧ (
      True))
    else (
      True))
noncomputable def g7_averageOf_20 (p : PM) (n : Nat) : Nat → Int32 → Int32 → Int64 → Int64 → Int32 → Prop := Nat.rec (motive := fun _ => Nat → Int32 → Int32 → Int64 → Int64 → Int32 → Prop) (fun _ _ _ _ _ _ => False) (fun _ ih => bg7_averageOf_20 p v4_counts g4_counts v14_floorDiv_f86c9 g14_floorDiv_f86c9 ih) n
theorem eg7_averageOf_20 (p : PM) (n : Nat) (v1 : Nat) (v2 : Int32) (v3 : Int32) (v4 : Int64) (v6 : Int64) (v10 : Int32) : g7_averageOf_20 p (n + 1) v1 v2 v3 v4 v6 v10 = bg7_averageOf_20 p v4_counts g4_counts v14_floorDiv_f86c9 g14_floorDiv_f86c9 (g7_averageOf_20 p n) v1 v2 v3 v4 v6 v10 := rfl
noncomputable def bv7_averageOf (p : PM) (kv20 : Nat → Int32 → Int32 → Int64 → Int64 → Int32 → Int32) (v1 : Nat) (v2 : Int32) (v3 : Int32) : Int32 :=
  kv20 v1 v2 v3 (cl 0) (cl 0) (cn 0)
noncomputable def v7_averageOf (p : PM) (v1 : Nat) (v2 : Int32) (v3 : Int32) : Int32 := bv7_averageOf p (v7_averageOf_20 p FU) v1 v2 v3
noncomputable def bg7_averageOf (p : PM) (kg20 : Nat → Int32 → Int32 → Int64 → Int64 → Int32 → Prop) (v1 : Nat) (v2 : Int32) (v3 : Int32) : Prop :=
  kg20 v1 v2 v3 (cl 0) (cl 0) (cn 0)
noncomputable def g7_averageOf (p : PM) (v1 : Nat) (v2 : Int32) (v3 : Int32) : Prop := bg7_averageOf p (g7_averageOf_20 p FU) v1 v2 v3
def R111 : List Row := [(0, .lconst 0, 1, 0, (0, 0, 0, 0, 0, 0)), (1, .lstore 4, 2, 0, (0, 0, 0, 0, 0, 0)), (3, .lconst 0, 1, 0, (0, 0, 0, 0, 0, 0)), (4, .lstore 6, 2, 0, (0, 0, 0, 0, 0, 0)), (6, .aload_n 0, 1, 0, (0, 0, 0, 0, 0, 0)), (7, .getfield 19, 3, 0, (7, 1, 21, 2, 1, 0)), (10, .astore 8, 2, 0, (0, 0, 0, 0, 0, 0)), (12, .aload 8, 2, 0, (0, 0, 0, 0, 0, 0)), (14, .arraylength, 1, 0, (18, 60, 0, 0, 0, 60)), (15, .istore 9, 2, 0, (0, 0, 0, 0, 0, 0)), (17, .iconst 0, 1, 0, (0, 0, 0, 0, 0, 0)), (18, .istore 10, 2, 0, (0, 0, 0, 0, 0, 0)), (20, .iload 10, 2, 1, (0, 0, 0, 0, 0, 0)), (22, .iload 9, 2, 0, (0, 0, 0, 0, 0, 0)), (24, .if_icmp .ge 90, 3, 0, (0, 0, 0, 0, 0, 0)), (27, .aload 8, 2, 0, (0, 0, 0, 0, 0, 0)), (29, .iload 10, 2, 0, (0, 0, 0, 0, 0, 0)), (31, .aaload, 1, 0, (18, 60, 0, 1, 1, 0)), (32, .astore 11, 2, 0, (0, 0, 0, 0, 0, 0)), (34, .iload_n 3, 1, 0, (0, 0, 0, 0, 0, 0)), (35, .ifCond .eq 11, 3, 0, (0, 0, 0, 0, 0, 0)), (38, .aload 11, 2, 0, (0, 0, 0, 0, 0, 0)), (40, .getfield 75, 3, 0, (4, 1, 3, 1, 0, 0)), (43, .goto 8, 3, 0, (0, 0, 0, 0, 0, 0)), (46, .aload 11, 2, 0, (0, 0, 0, 0, 0, 0)), (48, .getfield 85, 3, 0, (4, 2, 3, 1, 0, 0)), (51, .astore 12, 2, 0, (0, 0, 0, 0, 0, 0)), (53, .aload 11, 2, 0, (0, 0, 0, 0, 0, 0)), (55, .invokevirtual 102, 3, 0, (1, 1, 0, 0, 1, 0)), (58, .ifCond .eq 50, 3, 0, (0, 0, 0, 0, 0, 0)), (61, .aload 11, 2, 0, (0, 0, 0, 0, 0, 0)), (63, .getfield 63, 3, 0, (4, 0, 4, 1, 0, 0)), (66, .getfield 106, 3, 0, (1, 0, 0, 0, 0, 0)), (69, .iload_n 2, 1, 0, (0, 0, 0, 0, 0, 0)), (70, .if_icmp .ne 38, 3, 0, (0, 0, 0, 0, 0, 0)), (73, .aload 12, 2, 0, (0, 0, 0, 0, 0, 0)), (75, .aload_n 1, 1, 0, (0, 0, 0, 0, 0, 0)), (76, .if_acmp .ne 32, 3, 0, (0, 0, 0, 0, 0, 0)), (79, .lload 4, 2, 0, (0, 0, 0, 0, 0, 0)), (81, .aload 11, 2, 0, (0, 0, 0, 0, 0, 0)), (83, .getfield 82, 3, 0, (4, 3, 0, 1, 0, 0)), (86, .i2l, 1, 0, (0, 0, 0, 0, 0, 0)), (87, .aload 11, 2, 0, (0, 0, 0, 0, 0, 0)), (89, .getfield 79, 3, 0, (4, 4, 0, 1, 0, 0)), (92, .i2l, 1, 0, (0, 0, 0, 0, 0, 0)), (93, .lmul, 1, 0, (0, 0, 0, 0, 0, 0)), (94, .ladd, 1, 0, (0, 0, 0, 0, 0, 0)), (95, .lstore 4, 2, 0, (0, 0, 0, 0, 0, 0)), (97, .lload 6, 2, 0, (0, 0, 0, 0, 0, 0)), (99, .aload 11, 2, 0, (0, 0, 0, 0, 0, 0)), (101, .getfield 79, 3, 0, (4, 4, 0, 1, 0, 0)), (104, .i2l, 1, 0, (0, 0, 0, 0, 0, 0)), (105, .ladd, 1, 0, (0, 0, 0, 0, 0, 0)), (106, .lstore 6, 2, 0, (0, 0, 0, 0, 0, 0)), (108, .iinc 10 1, 3, 0, (0, 0, 0, 0, 0, 1)), (111, .goto (-91), 3, 0, (0, 0, 0, 0, 0, 0)), (114, .lload 6, 2, 0, (0, 0, 0, 0, 0, 0)), (116, .lconst 0, 1, 0, (0, 0, 0, 0, 0, 0)), (117, .lcmp, 1, 0, (0, 0, 0, 0, 0, 0)), (118, .ifCond .le 14, 3, 0, (0, 0, 0, 0, 0, 0)), (121, .lload 4, 2, 0, (0, 0, 0, 0, 0, 0)), (123, .lload 6, 2, 0, (0, 0, 0, 0, 0, 0)), (125, .invokestatic 107, 3, 0, (0, 2, 0, 0, 0, 0)), (128, .l2i, 1, 0, (0, 0, 0, 0, 0, 0)), (129, .goto 5, 3, 0, (0, 0, 0, 0, 0, 0)), (132, .ldc 70, 2, 0, (0, 0, 0, 0, 0, -100000)), (134, .ireturn, 1, 0, (0, 0, 0, 0, 0, 0))]
set_option maxRecDepth 100000 in
theorem rk111 : R111.all (rok 0 111 1 [(203, [1, 1]), (53, [7])]) = true := by decide +kernel
set_option maxRecDepth 100000 in
theorem tab111 {F203 : PM → Int64 → Int64 → Int64} {G203 : PM → Int64 → Int64 → Prop} {F53 : PM → Nat → Int32} {G53 : PM → Nat → Prop} : TabOK 0 111 1 [CC203 F203 G203, CC53 F53 G53] R111 := tab_ok (K := K111) rfl rfl (fun h => d111 h) rk111 (by decide +kernel)
set_option maxRecDepth 100000 in
theorem pc111 : cutpc [20] R111 = true := by decide +kernel
set_option maxRecDepth 100000 in
theorem r7_averageOf_20 (p : PM) (hg : Gr 0 p) (F203 : PM → Int64 → Int64 → Int64) (G203 : PM → Int64 → Int64 → Prop) (o203 : CalOK 0 (CC203 F203 G203)) (F53 : PM → Nat → Int32) (G53 : PM → Nat → Prop) (o53 : CalOK 0 (CC53 F53 G53)) (kv20 : Nat → Int32 → Int32 → Int64 → Int64 → Int32 → Int32) (kg20 : Nat → Int32 → Int32 → Int64 → Int64 → Int32 → Prop) (hk20 : ∀ (v1 : Nat) (v2 : Int32) (v3 : Int32) (v4 : Int64) (v6 : Int64) (v10 : Int32) (d0 d5 d7 d11 d12 : ZV), kg20 v1 v2 v3 v4 v6 v10 → ZJ 0 111 20 [d0, zR 0 v1, zI v2, zI v3, zL v4, d5, zL v6, d7, zR 18 1, zC 60, zI v10, d11, d12] [] p (hoI p (kv20 v1 v2 v3 v4 v6 v10))) : ∀ (v1 : Nat) (v2 : Int32) (v3 : Int32) (v4 : Int64) (v6 : Int64) (v10 : Int32) (d0 d5 d7 d11 d12 : ZV), bg7_averageOf_20 p F53 G53 F203 G203 kg20 v1 v2 v3 v4 v6 v10 → ZJ 0 111 20 [d0, zR 0 v1, zI v2, zI v3, zL v4, d5, zL v6, d7, zR 18 1, zC 60, zI v10, d11, d12] [] p (hoI p (bv7_averageOf_20 p F53 F203 kv20 v1 v2 v3 v4 v6 v10)) := by
  intro v1 v2 v3 v4 v6 v10 d0 d5 d7 d11 d12 H
  exact roI (n := 3000) (q := 20) (la := [d0, zR 0 v1, zI v2, zI v3, zL v4, d5, zL v6, d7, zR 18 1, zC 60, zI v10, d11, d12]) (sa := []) (ks := [fun la sa _ => kv20 (ar la 1) (ai la 2) (ai la 3) (al la 4) (al la 6) (ai la 10)]) (gs := [fun la sa _ => zsw (tc2 la [(2, 0), (4, 0), (0, 0), (0, 0), (1, 0), (2, 0), (1, 0), (2, 0), (118, 1), (3, 60), (0, 0), (2, 0), (2, 0)] && tc2 sa []) False (kg20 (ar la 1) (ai la 2) (ai la 3) (al la 4) (al la 6) (ai la 10))]) (fcons o203 (fcons o53 (fnil))) tab111 pc111 ⟨fun la sa s hg H => zcut H fun H => hk20 (ar la 1) (ai la 2) (ai la 3) (al la 4) (al la 6) (ai la 10) (zld la 0) (zld la 5) (zld la 7) (zld la 11) (zld la 12) H, trivial⟩ hg H
theorem t7_averageOf_20 (p : PM) (hg : Gr 0 p) : ∀ (n : Nat), ∀ (v1 : Nat) (v2 : Int32) (v3 : Int32) (v4 : Int64) (v6 : Int64) (v10 : Int32) (d0 d5 d7 d11 d12 : ZV), g7_averageOf_20 p n v1 v2 v3 v4 v6 v10 → ZJ 0 111 20 [d0, zR 0 v1, zI v2, zI v3, zL v4, d5, zL v6, d7, zR 18 1, zC 60, zI v10, d11, d12] [] p (hoI p (v7_averageOf_20 p n v1 v2 v3 v4 v6 v10)) := by
  intro n
  induction n with
  | zero =>
    intro v1 v2 v3 v4 v6 v10 d0 d5 d7 d11 d12 H
    exact H.elim
  | succ n ih => exact r7_averageOf_20 p hg v14_floorDiv_f86c9 g14_floorDiv_f86c9 ok203 v4_counts g4_counts ok53 (v7_averageOf_20 p n) (g7_averageOf_20 p n) ih
set_option maxRecDepth 100000 in
theorem r7_averageOf (p : PM) (hg : Gr 0 p) (F203 : PM → Int64 → Int64 → Int64) (G203 : PM → Int64 → Int64 → Prop) (o203 : CalOK 0 (CC203 F203 G203)) (F53 : PM → Nat → Int32) (G53 : PM → Nat → Prop) (o53 : CalOK 0 (CC53 F53 G53)) (kv20 : Nat → Int32 → Int32 → Int64 → Int64 → Int32 → Int32) (kg20 : Nat → Int32 → Int32 → Int64 → Int64 → Int32 → Prop) (hk20 : ∀ (v1 : Nat) (v2 : Int32) (v3 : Int32) (v4 : Int64) (v6 : Int64) (v10 : Int32) (d0 d5 d7 d11 d12 : ZV), kg20 v1 v2 v3 v4 v6 v10 → ZJ 0 111 20 [d0, zR 0 v1, zI v2, zI v3, zL v4, d5, zL v6, d7, zR 18 1, zC 60, zI v10, d11, d12] [] p (hoI p (kv20 v1 v2 v3 v4 v6 v10))) : ∀ (v1 : Nat) (v2 : Int32) (v3 : Int32), bg7_averageOf p kg20 v1 v2 v3 → ZJ 0 111 0 [zR 7 1, zR 0 v1, zI v2, zI v3, zJ, zJ, zJ, zJ, zJ, zJ, zJ, zJ, zJ] [] p (hoI p (bv7_averageOf p kv20 v1 v2 v3)) := by
  intro v1 v2 v3  H
  exact roI (n := 3000) (q := 0) (la := [zR 7 1, zR 0 v1, zI v2, zI v3, zJ, zJ, zJ, zJ, zJ, zJ, zJ, zJ, zJ]) (sa := []) (ks := [fun la sa _ => kv20 (ar la 1) (ai la 2) (ai la 3) (al la 4) (al la 6) (ai la 10)]) (gs := [fun la sa _ => zsw (tc2 la [(2, 0), (4, 0), (0, 0), (0, 0), (1, 0), (2, 0), (1, 0), (2, 0), (118, 1), (3, 60), (0, 0), (2, 0), (2, 0)] && tc2 sa []) False (kg20 (ar la 1) (ai la 2) (ai la 3) (al la 4) (al la 6) (ai la 10))]) (fcons o203 (fcons o53 (fnil))) tab111 pc111 ⟨fun la sa s hg H => zcut H fun H => hk20 (ar la 1) (ai la 2) (ai la 3) (al la 4) (al la 6) (ai la 10) (zld la 0) (zld la 5) (zld la 7) (zld la 11) (zld la 12) H, trivial⟩ hg H
theorem t7_averageOf (p : PM) (hg : Gr 0 p) : ∀ (v1 : Nat) (v2 : Int32) (v3 : Int32), g7_averageOf p v1 v2 v3 → ZJ 0 111 0 [zR 7 1, zR 0 v1, zI v2, zI v3, zJ, zJ, zJ, zJ, zJ, zJ, zJ, zJ, zJ] [] p (hoI p (v7_averageOf p v1 v2 v3)) := r7_averageOf p hg v14_floorDiv_f86c9 g14_floorDiv_f86c9 ok203 v4_counts g4_counts ok53 (v7_averageOf_20 p FU) (g7_averageOf_20 p FU) (t7_averageOf_20 p hg FU)
def CC111 (F : PM → Nat → Int32 → Int32 → Int32) (G : PM → Nat → Int32 → Int32 → Prop) : Cal := (111, [10, 3, 0, 0], 1, true, fun as p => (zI (F p (ar as 1) (ai as 2) (ai as 3)), p), fun as p => zsw (tc2 as [(107, 1), (4, 0), (0, 0), (0, 0)]) False (G p (ar as 1) (ai as 2) (ai as 3)))
set_option maxRecDepth 100000 in
theorem okr111 (F : PM → Nat → Int32 → Int32 → Int32) (G : PM → Nat → Int32 → Int32 → Prop) (h : ∀ (p : PM) (v1 : Nat) (v2 : Int32) (v3 : Int32), Gr 0 p → G p v1 v2 v3 → ZJ 0 111 0 [zR 7 1, zR 0 v1, zI v2, zI v3, zJ, zJ, zJ, zJ, zJ, zJ, zJ, zJ, zJ] [] p (hoI p (F p v1 v2 v3))) : CalOK 0 (CC111 F G) := cal_ok (m := 13) (by unfold mL; rw [mX_111]) (fun as p hg H => h p (ar as 1) (ai as 2) (ai as 3) hg H)
theorem ok111 : CalOK 0 (CC111 v7_averageOf g7_averageOf) := okr111 v7_averageOf g7_averageOf (fun p v1 v2 v3 hg H => t7_averageOf p hg v1 v2 v3 H)
noncomputable def bv7_allotLots (F2 : PM → Nat → Int32 → Int32) (F4 : PM → Nat → Int32 → Int32 → PM) (F104 : PM → Int32 → Nat) (F111 : PM → Nat → Int32 → Int32 → Int32) (p : PM) (v1 : Int32) (v2 : Int32) (v3 : Int32) (v4 : Int32) : Int32 × PM :=
  if 0 < v4 then (
    let x6 : Int32 := (F111 p (F104 p v1) v3 (cn 1))
    let p7 : PM := F4 p (F104 p v1) v3 ((F2 p (F104 p v1) v3) - v4)
    let p8 : PM := F4 p7 (F104 p v2) v3 ((F2 p7 (F104 p v2) v3) + v4)
    let p9 : PM := pJ p8 0 (F104 p v1) 4 ((p8.2.1 0 (F104 p v1) 4) + ((v4).toInt64 * (x6).toInt64))
    let p10 : PM := pJ p9 0 (F104 p v2) 4 ((p9.2.1 0 (F104 p v2) 4) - ((v4).toInt64 * (x6).toInt64))
    (x6, p10))
  else (
    let x1 : Int32 := (F111 p (F104 p v1) v3 (cn 0))
    let p2 : PM := F4 p (F104 p v1) v3 ((F2 p (F104 p v1) v3) - v4)
    let p3 : PM := F4 p2 (F104 p v2) v3 ((F2 p2 (F104 p v2) v3) + v4)
    let p4 : PM := pJ p3 0 (F104 p v1) 4 ((p3.2.1 0 (F104 p v1) 4) + ((v4).toInt64 * (x1).toInt64))
    let p5 : PM := pJ p4 0 (F104 p v2) 4 ((p4.2.1 0 (F104 p v2) 4) - ((v4).toInt64 * (x1).toInt64))
    (x1, p5))
noncomputable def v7_allotLots (p : PM) (v1 : Int32) (v2 : Int32) (v3 : Int32) (v4 : Int32) : Int32 × PM := bv7_allotLots v0_holds v0_put v7_accountAt v7_averageOf p v1 v2 v3 v4
noncomputable def bg7_allotLots (F2 : PM → Nat → Int32 → Int32) (G2 : PM → Nat → Int32 → Prop) (F4 : PM → Nat → Int32 → Int32 → PM) (G4 : PM → Nat → Int32 → Int32 → Prop) (F104 : PM → Int32 → Nat) (G104 : PM → Int32 → Prop) (F111 : PM → Nat → Int32 → Int32 → Int32) (G111 : PM → Nat → Int32 → Int32 → Prop) (p : PM) (v1 : Int32) (v2 : Int32) (v3 : Int32) (v4 : Int32) : Prop :=
  (G104 p v1) ∧ (
  (G104 p v2) ∧ (
  if 0 < v4 then (
    (G111 p (F104 p v1) v3 (cn 1)) ∧ (
    let x6 : Int32 := (F111 p (F104 p v1) v3 (cn 1))
    (¬ (F104 p v1) = 0) ∧ (
    (G2 p (F104 p v1) v3) ∧ (
    (¬ (F104 p v1) = 0) ∧ (
    (G4 p (F104 p v1) v3 ((F2 p (F104 p v1) v3) - v4)) ∧ (
    let p7 : PM := F4 p (F104 p v1) v3 ((F2 p (F104 p v1) v3) - v4)
    (¬ (F104 p v2) = 0) ∧ (
    (G2 p7 (F104 p v2) v3) ∧ (
    (¬ (F104 p v2) = 0) ∧ (
    (G4 p7 (F104 p v2) v3 ((F2 p7 (F104 p v2) v3) + v4)) ∧ (
    let p8 : PM := F4 p7 (F104 p v2) v3 ((F2 p7 (F104 p v2) v3) + v4)
    (¬ (F104 p v1) = 0) ∧ (
    (¬ (F104 p v1) = 0) ∧ (
    let p9 : PM := pJ p8 0 (F104 p v1) 4 ((p8.2.1 0 (F104 p v1) 4) + ((v4).toInt64 * (x6).toInt64))
    (¬ (F104 p v2) = 0) ∧ (
    (¬ (F104 p v2) = 0) ∧ (
    let p10 : PM := pJ p9 0 (F104 p v2) 4 ((p9.2.1 0 (F104 p v2) 4) - ((v4).toInt64 * (x6).toInt64))
    True))))))))))))))
  else (
    (G111 p (F104 p v1) v3 (cn 0)) ∧ (
    let x1 : Int32 := (F111 p (F104 p v1) v3 (cn 0))
    (¬ (F104 p v1) = 0) ∧ (
    (G2 p (F104 p v1) v3) ∧ (
    (¬ (F104 p v1) = 0) ∧ (
    (G4 p (F104 p v1) v3 ((F2 p (F104 p v1) v3) - v4)) ∧ (
    let p2 : PM := F4 p (F104 p v1) v3 ((F2 p (F104 p v1) v3) - v4)
    (¬ (F104 p v2) = 0) ∧ (
    (G2 p2 (F104 p v2) v3) ∧ (
    (¬ (F104 p v2) = 0) ∧ (
    (G4 p2 (F104 p v2) v3 ((F2 p2 (F104 p v2) v3) + v4)) ∧ (
    let p3 : PM := F4 p2 (F104 p v2) v3 ((F2 p2 (F104 p v2) v3) + v4)
    (¬ (F104 p v1) = 0) ∧ (
    (¬ (F104 p v1) = 0) ∧ (
    let p4 : PM := pJ p3 0 (F104 p v1) 4 ((p3.2.1 0 (F104 p v1) 4) + ((v4).toInt64 * (x1).toInt64))
    (¬ (F104 p v2) = 0) ∧ (
    (¬ (F104 p v2) = 0) ∧ (
    let p5 : PM := pJ p4 0 (F104 p v2) 4 ((p4.2.1 0 (F104 p v2) 4) - ((v4).toInt64 * (x1).toInt64))
    True))))))))))))))))
noncomputable def g7_allotLots (p : PM) (v1 : Int32) (v2 : Int32) (v3 : Int32) (v4 : Int32) : Prop := bg7_allotLots v0_holds g0_holds v0_put g0_put v7_accountAt g7_accountAt v7_averageOf g7_averageOf p v1 v2 v3 v4
def R112 : List Row := [(0, .aload_n 0, 1, 0, (0, 0, 0, 0, 0, 0)), (1, .iload_n 1, 1, 0, (0, 0, 0, 0, 0, 0)), (2, .invokevirtual 95, 3, 0, (0, 2, 0, 0, 1, 0)), (5, .astore 5, 2, 0, (0, 0, 0, 0, 0, 0)), (7, .aload_n 0, 1, 0, (0, 0, 0, 0, 0, 0)), (8, .iload_n 2, 1, 0, (0, 0, 0, 0, 0, 0)), (9, .invokevirtual 95, 3, 0, (0, 2, 0, 0, 1, 0)), (12, .astore 6, 2, 0, (0, 0, 0, 0, 0, 0)), (14, .aload_n 0, 1, 0, (0, 0, 0, 0, 0, 0)), (15, .aload 5, 2, 0, (0, 0, 0, 0, 0, 0)), (17, .iload_n 3, 1, 0, (0, 0, 0, 0, 0, 0)), (18, .iload 4, 2, 0, (0, 0, 0, 0, 0, 0)), (20, .ifCond .le 7, 3, 0, (0, 0, 0, 0, 0, 0)), (23, .iconst 1, 1, 0, (0, 0, 0, 0, 0, 1)), (24, .goto 4, 3, 0, (0, 0, 0, 0, 0, 0)), (27, .iconst 0, 1, 0, (0, 0, 0, 0, 0, 0)), (28, .invokevirtual 115, 3, 0, (1, 4, 0, 0, 1, 0)), (31, .istore 7, 2, 0, (0, 0, 0, 0, 0, 0)), (33, .aload 5, 2, 0, (0, 0, 0, 0, 0, 0)), (35, .iload_n 3, 1, 0, (0, 0, 0, 0, 0, 0)), (36, .aload 5, 2, 0, (0, 0, 0, 0, 0, 0)), (38, .iload_n 3, 1, 0, (0, 0, 0, 0, 0, 0)), (39, .invokevirtual 111, 3, 0, (2, 2, 0, 0, 2, 0)), (42, .iload 4, 2, 0, (0, 0, 0, 0, 0, 0)), (44, .isub, 1, 0, (0, 0, 0, 0, 0, 0)), (45, .invokevirtual 119, 3, 0, (3, 3, 0, 0, 2, 0)), (48, .aload 6, 2, 0, (0, 0, 0, 0, 0, 0)), (50, .iload_n 3, 1, 0, (0, 0, 0, 0, 0, 0)), (51, .aload 6, 2, 0, (0, 0, 0, 0, 0, 0)), (53, .iload_n 3, 1, 0, (0, 0, 0, 0, 0, 0)), (54, .invokevirtual 111, 3, 0, (2, 2, 0, 0, 2, 0)), (57, .iload 4, 2, 0, (0, 0, 0, 0, 0, 0)), (59, .iadd, 1, 0, (0, 0, 0, 0, 0, 0)), (60, .invokevirtual 119, 3, 0, (3, 3, 0, 0, 2, 0)), (63, .aload 5, 2, 0, (0, 0, 0, 0, 0, 0)), (65, .dup, 1, 0, (0, 0, 0, 0, 0, 0)), (66, .getfield 91, 3, 0, (0, 4, 2, 0, 0, 0)), (69, .iload 4, 2, 0, (0, 0, 0, 0, 0, 0)), (71, .i2l, 1, 0, (0, 0, 0, 0, 0, 0)), (72, .iload 7, 2, 0, (0, 0, 0, 0, 0, 0)), (74, .i2l, 1, 0, (0, 0, 0, 0, 0, 0)), (75, .lmul, 1, 0, (0, 0, 0, 0, 0, 0)), (76, .ladd, 1, 0, (0, 0, 0, 0, 0, 0)), (77, .putfield 91, 3, 0, (0, 4, 2, 0, 0, 0)), (80, .aload 6, 2, 0, (0, 0, 0, 0, 0, 0)), (82, .dup, 1, 0, (0, 0, 0, 0, 0, 0)), (83, .getfield 91, 3, 0, (0, 4, 2, 0, 0, 0)), (86, .iload 4, 2, 0, (0, 0, 0, 0, 0, 0)), (88, .i2l, 1, 0, (0, 0, 0, 0, 0, 0)), (89, .iload 7, 2, 0, (0, 0, 0, 0, 0, 0)), (91, .i2l, 1, 0, (0, 0, 0, 0, 0, 0)), (92, .lmul, 1, 0, (0, 0, 0, 0, 0, 0)), (93, .lsub, 1, 0, (0, 0, 0, 0, 0, 0)), (94, .putfield 91, 3, 0, (0, 4, 2, 0, 0, 0)), (97, .iload 7, 2, 0, (0, 0, 0, 0, 0, 0)), (99, .ireturn, 1, 0, (0, 0, 0, 0, 0, 0))]
set_option maxRecDepth 100000 in
theorem rk112 : R112.all (rok 0 112 1 [(104, [10, 0]), (111, [10, 3, 0, 0]), (2, [3, 0]), (4, [3, 0, 0])]) = true := by decide +kernel
set_option maxRecDepth 100000 in
theorem tab112 {F104 : PM → Int32 → Nat} {G104 : PM → Int32 → Prop} {F111 : PM → Nat → Int32 → Int32 → Int32} {G111 : PM → Nat → Int32 → Int32 → Prop} {F2 : PM → Nat → Int32 → Int32} {G2 : PM → Nat → Int32 → Prop} {F4 : PM → Nat → Int32 → Int32 → PM} {G4 : PM → Nat → Int32 → Int32 → Prop} : TabOK 0 112 1 [CC104 F104 G104, CC111 F111 G111, CC2 F2 G2, CC4 F4 G4] R112 := tab_ok (K := K112) rfl rfl (fun h => d112 h) rk112 (by decide +kernel)
set_option maxRecDepth 100000 in
theorem pc112 : cutpc [] R112 = true := by decide +kernel
set_option maxRecDepth 100000 in
theorem r7_allotLots (F104 : PM → Int32 → Nat) (G104 : PM → Int32 → Prop) (o104 : CalOK 0 (CC104 F104 G104)) (F111 : PM → Nat → Int32 → Int32 → Int32) (G111 : PM → Nat → Int32 → Int32 → Prop) (o111 : CalOK 0 (CC111 F111 G111)) (F2 : PM → Nat → Int32 → Int32) (G2 : PM → Nat → Int32 → Prop) (o2 : CalOK 0 (CC2 F2 G2)) (F4 : PM → Nat → Int32 → Int32 → PM) (G4 : PM → Nat → Int32 → Int32 → Prop) (o4 : CalOK 0 (CC4 F4 G4)) : ∀ (p : PM) (v1 : Int32) (v2 : Int32) (v3 : Int32) (v4 : Int32), Gr 0 p → bg7_allotLots F2 G2 F4 G4 F104 G104 F111 G111 p v1 v2 v3 v4 → ZJ 0 112 0 [zR 7 1, zI v1, zI v2, zI v3, zI v4, zJ, zJ, zJ] [] p (hwI (bv7_allotLots F2 F4 F104 F111 p v1 v2 v3 v4)) := by
  intro p v1 v2 v3 v4  hg H
  exact rwI (n := 3000) (q := 0) (la := [zR 7 1, zI v1, zI v2, zI v3, zI v4, zJ, zJ, zJ]) (sa := []) (ks := []) (gs := []) (fcons o104 (fcons o111 (fcons o2 (fcons o4 (fnil))))) tab112 pc112 trivial hg H
theorem t7_allotLots : ∀ (p : PM) (v1 : Int32) (v2 : Int32) (v3 : Int32) (v4 : Int32), Gr 0 p → g7_allotLots p v1 v2 v3 v4 → ZJ 0 112 0 [zR 7 1, zI v1, zI v2, zI v3, zI v4, zJ, zJ, zJ] [] p (hwI (v7_allotLots p v1 v2 v3 v4)) := r7_allotLots v7_accountAt g7_accountAt ok104 v7_averageOf g7_averageOf ok111 v0_holds g0_holds ok2 v0_put g0_put ok4
def CC112 (F : PM → Int32 → Int32 → Int32 → Int32 → Int32 × PM) (G : PM → Int32 → Int32 → Int32 → Int32 → Prop) : Cal := (112, [10, 0, 0, 0, 0], 1, false, fun as p => (zI (F p (ai as 1) (ai as 2) (ai as 3) (ai as 4)).1, (F p (ai as 1) (ai as 2) (ai as 3) (ai as 4)).2), fun as p => zsw (tc2 as [(107, 1), (0, 0), (0, 0), (0, 0), (0, 0)]) False (G p (ai as 1) (ai as 2) (ai as 3) (ai as 4)))
set_option maxRecDepth 100000 in
theorem okr112 (F : PM → Int32 → Int32 → Int32 → Int32 → Int32 × PM) (G : PM → Int32 → Int32 → Int32 → Int32 → Prop) (h : ∀ (p : PM) (v1 : Int32) (v2 : Int32) (v3 : Int32) (v4 : Int32), Gr 0 p → G p v1 v2 v3 v4 → ZJ 0 112 0 [zR 7 1, zI v1, zI v2, zI v3, zI v4, zJ, zJ, zJ] [] p (hwI (F p v1 v2 v3 v4))) : CalOK 0 (CC112 F G) := cal_ok (m := 8) (by unfold mL; rw [mX_112]) (fun as p hg H => h p (ai as 1) (ai as 2) (ai as 3) (ai as 4) hg H)
theorem ok112 : CalOK 0 (CC112 v7_allotLots g7_allotLots) := okr112 v7_allotLots g7_allotLots t7_allotLots
noncomputable def bv14_floorMod_7cf53 (p : PM) (v0 : Int32) (v1 : Int32) : Int32 :=
  if (v0 ^^^ v1) < 0 then (
    if (irm v0 v1) = 0 then (
      (irm v0 v1))
    else (
      ((irm v0 v1) + v1)))
  else (
    (irm v0 v1))
noncomputable def v14_floorMod_7cf53 (p : PM) (v0 : Int32) (v1 : Int32) : Int32 := bv14_floorMod_7cf53 p v0 v1
noncomputable def bg14_floorMod_7cf53 (p : PM) (v0 : Int32) (v1 : Int32) : Prop :=
  (¬ v1 = 0) ∧ (
  if (v0 ^^^ v1) < 0 then (
    if (irm v0 v1) = 0 then (
      True)
    else (
      True))
  else (
    True))
noncomputable def g14_floorMod_7cf53 (p : PM) (v0 : Int32) (v1 : Int32) : Prop := bg14_floorMod_7cf53 p v0 v1
def R204 : List Row := [(0, .iload_n 0, 1, 0, (0, 0, 0, 0, 0, 0)), (1, .iload_n 1, 1, 0, (0, 0, 0, 0, 0, 0)), (2, .irem, 1, 0, (0, 0, 0, 0, 0, 0)), (3, .istore_n 2, 1, 0, (0, 0, 0, 0, 0, 0)), (4, .iload_n 0, 1, 0, (0, 0, 0, 0, 0, 0)), (5, .iload_n 1, 1, 0, (0, 0, 0, 0, 0, 0)), (6, .ixor, 1, 0, (0, 0, 0, 0, 0, 0)), (7, .ifCond .ge 11, 3, 0, (0, 0, 0, 0, 0, 0)), (10, .iload_n 2, 1, 0, (0, 0, 0, 0, 0, 0)), (11, .ifCond .eq 7, 3, 0, (0, 0, 0, 0, 0, 0)), (14, .iload_n 2, 1, 0, (0, 0, 0, 0, 0, 0)), (15, .iload_n 1, 1, 0, (0, 0, 0, 0, 0, 0)), (16, .iadd, 1, 0, (0, 0, 0, 0, 0, 0)), (17, .ireturn, 1, 0, (0, 0, 0, 0, 0, 0)), (18, .iload_n 2, 1, 0, (0, 0, 0, 0, 0, 0)), (19, .ireturn, 1, 0, (0, 0, 0, 0, 0, 0))]
set_option maxRecDepth 100000 in
theorem rk204 : R204.all (rok 0 204 1 []) = true := by decide +kernel
set_option maxRecDepth 100000 in
theorem tab204 : TabOK 0 204 1 [] R204 := tab_ok (K := K204) rfl rfl (fun h => d204 h) rk204 (by decide +kernel)
set_option maxRecDepth 100000 in
theorem pc204 : cutpc [] R204 = true := by decide +kernel
set_option maxRecDepth 100000 in
theorem r14_floorMod_7cf53 (p : PM) (hg : Gr 0 p) : ∀ (v0 : Int32) (v1 : Int32), bg14_floorMod_7cf53 p v0 v1 → ZJ 0 204 0 [zI v0, zI v1, zJ] [] p (hoI p (bv14_floorMod_7cf53 p v0 v1)) := by
  intro v0 v1  H
  exact roI (n := 3000) (q := 0) (la := [zI v0, zI v1, zJ]) (sa := []) (ks := []) (gs := []) (fnil) tab204 pc204 trivial hg H
theorem t14_floorMod_7cf53 (p : PM) (hg : Gr 0 p) : ∀ (v0 : Int32) (v1 : Int32), g14_floorMod_7cf53 p v0 v1 → ZJ 0 204 0 [zI v0, zI v1, zJ] [] p (hoI p (v14_floorMod_7cf53 p v0 v1)) := r14_floorMod_7cf53 p hg
def CC204 (F : PM → Int32 → Int32 → Int32) (G : PM → Int32 → Int32 → Prop) : Cal := (204, [0, 0], 1, true, fun as p => (zI (F p (ai as 0) (ai as 1)), p), fun as p => zsw (tc2 as [(0, 0), (0, 0)]) False (G p (ai as 0) (ai as 1)))
set_option maxRecDepth 100000 in
theorem okr204 (F : PM → Int32 → Int32 → Int32) (G : PM → Int32 → Int32 → Prop) (h : ∀ (p : PM) (v0 : Int32) (v1 : Int32), Gr 0 p → G p v0 v1 → ZJ 0 204 0 [zI v0, zI v1, zJ] [] p (hoI p (F p v0 v1))) : CalOK 0 (CC204 F G) := cal_ok (m := 3) (by unfold mL; rw [mX_204]) (fun as p hg H => h p (ai as 0) (ai as 1) hg H)
theorem ok204 : CalOK 0 (CC204 v14_floorMod_7cf53 g14_floorMod_7cf53) := okr204 v14_floorMod_7cf53 g14_floorMod_7cf53 (fun p v0 v1 hg H => t14_floorMod_7cf53 p hg v0 v1 H)
noncomputable def bv7_assign_79 (F2 : PM → Nat → Int32 → Int32) (F4 : PM → Nat → Int32 → Int32 → PM) (F207 : PM → Int32 → Int32 → Int32) (kv79 : PM → Int64 → Int32 → Int32 × PM) (p : PM) (v4 : Int64) (v8 : Int32) : Int32 × PM :=
  if v8 < (cn 9) then (
    let x1 : Int32 := (F207 p (cn 0) (-(F2 p ((v8).toNatClampNeg + 1) (cn 3))))
    if (lg_cmp v4 (x1).toInt64) < 0 then (
      let p2 : PM := F4 p ((v8).toNatClampNeg + 1) (cn 3) ((F2 p ((v8).toNatClampNeg + 1) (cn 3)) + (cn 1))
      let p3 : PM := F4 p2 ((v8).toNatClampNeg + 1) (cn 0) ((F2 p2 ((v8).toNatClampNeg + 1) (cn 0)) - (cn 1))
      let p4 : PM := pJ p3 0 ((v8).toNatClampNeg + 1) 4 ((p3.2.1 0 ((v8).toNatClampNeg + 1) 4) + (cl 100))
      ((p4.1 0 ((v8).toNatClampNeg + 1) 0), p4))
    else (
      kv79 p (v4 - (x1).toInt64) (v8 + (cn 1))))
  else (
    ((cn 0), p))
noncomputable def v7_assign_79 (n : Nat) : PM → Int64 → Int32 → Int32 × PM := Nat.rec (motive := fun _ => PM → Int64 → Int32 → Int32 × PM) (fun p _ _ => (0, p)) (fun _ ih => bv7_assign_79 v0_holds v0_put v14_max_7cf53 ih) n
theorem ev7_assign_79 (n : Nat) (p : PM) (v4 : Int64) (v8 : Int32) : v7_assign_79 (n + 1) p v4 v8 = bv7_assign_79 v0_holds v0_put v14_max_7cf53 (v7_assign_79 n) p v4 v8 := rfl
noncomputable def bg7_assign_79 (F2 : PM → Nat → Int32 → Int32) (G2 : PM → Nat → Int32 → Prop) (F4 : PM → Nat → Int32 → Int32 → PM) (G4 : PM → Nat → Int32 → Int32 → Prop) (F207 : PM → Int32 → Int32 → Int32) (G207 : PM → Int32 → Int32 → Prop) (kg79 : PM → Int64 → Int32 → Prop) (p : PM) (v4 : Int64) (v8 : Int32) : Prop :=
  if v8 < (cn 9) then (
    (inb v8 9) ∧ (
    (G2 p ((v8).toNatClampNeg + 1) (cn 3)) ∧ (
    (G207 p (cn 0) (-(F2 p ((v8).toNatClampNeg + 1) (cn 3)))) ∧ (
    let x1 : Int32 := (F207 p (cn 0) (-(F2 p ((v8).toNatClampNeg + 1) (cn 3))))
    if (lg_cmp v4 (x1).toInt64) < 0 then (
      (G2 p ((v8).toNatClampNeg + 1) (cn 3)) ∧ (
      (G4 p ((v8).toNatClampNeg + 1) (cn 3) ((F2 p ((v8).toNatClampNeg + 1) (cn 3)) + (cn 1))) ∧ (
      let p2 : PM := F4 p ((v8).toNatClampNeg + 1) (cn 3) ((F2 p ((v8).toNatClampNeg + 1) (cn 3)) + (cn 1))
      (G2 p2 ((v8).toNatClampNeg + 1) (cn 0)) ∧ (
      (G4 p2 ((v8).toNatClampNeg + 1) (cn 0) ((F2 p2 ((v8).toNatClampNeg + 1) (cn 0)) - (cn 1))) ∧ (
      let p3 : PM := F4 p2 ((v8).toNatClampNeg + 1) (cn 0) ((F2 p2 ((v8).toNatClampNeg + 1) (cn 0)) - (cn 1))
      let p4 : PM := pJ p3 0 ((v8).toNatClampNeg + 1) 4 ((p3.2.1 0 ((v8).toNatClampNeg + 1) 4) + (cl 100))
      True)))))
    else (
      kg79 p (v4 - (x1).toInt64) (v8 + (cn 1)))))))
  else (
    True)
noncomputable def g7_assign_79 (n : Nat) : PM → Int64 → Int32 → Prop := Nat.rec (motive := fun _ => PM → Int64 → Int32 → Prop) (fun _ _ _ => False) (fun _ ih => bg7_assign_79 v0_holds g0_holds v0_put g0_put v14_max_7cf53 g14_max_7cf53 ih) n
theorem eg7_assign_79 (n : Nat) (p : PM) (v4 : Int64) (v8 : Int32) : g7_assign_79 (n + 1) p v4 v8 = bg7_assign_79 v0_holds g0_holds v0_put g0_put v14_max_7cf53 g14_max_7cf53 (g7_assign_79 n) p v4 v8 := rfl
noncomputable def bv7_assign_16 (F2 : PM → Nat → Int32 → Int32) (F207 : PM → Int32 → Int32 → Int32) (kv16 : PM → Int32 → Int64 → Int32 → Int32 × PM) (kv79 : PM → Int64 → Int32 → Int32 × PM) (p : PM) (v1 : Int32) (v2 : Int64) (v6 : Int32) : Int32 × PM :=
  if v6 < (cn 9) then (
    let x1 : Int64 := (v2 + ((F207 p (cn 0) (-(F2 p ((v6).toNatClampNeg + 1) (cn 3))))).toInt64)
    kv16 p v1 x1 (v6 + (cn 1)))
  else (
    if 0 < (lg_cmp v2 (cl 0)) then (
      kv79 p (lrm (v1).toInt64 v2) (cn 0))
    else (
      ((cn 0), p)))
noncomputable def v7_assign_16 (n : Nat) : PM → Int32 → Int64 → Int32 → Int32 × PM := Nat.rec (motive := fun _ => PM → Int32 → Int64 → Int32 → Int32 × PM) (fun p _ _ _ => (0, p)) (fun _ ih => bv7_assign_16 v0_holds v14_max_7cf53 ih (v7_assign_79 FU)) n
theorem ev7_assign_16 (n : Nat) (p : PM) (v1 : Int32) (v2 : Int64) (v6 : Int32) : v7_assign_16 (n + 1) p v1 v2 v6 = bv7_assign_16 v0_holds v14_max_7cf53 (v7_assign_16 n) (v7_assign_79 FU) p v1 v2 v6 := rfl
noncomputable def bg7_assign_16 (F2 : PM → Nat → Int32 → Int32) (G2 : PM → Nat → Int32 → Prop) (F207 : PM → Int32 → Int32 → Int32) (G207 : PM → Int32 → Int32 → Prop) (kg16 : PM → Int32 → Int64 → Int32 → Prop) (kg79 : PM → Int64 → Int32 → Prop) (p : PM) (v1 : Int32) (v2 : Int64) (v6 : Int32) : Prop :=
  if v6 < (cn 9) then (
    (inb v6 9) ∧ (
    (G2 p ((v6).toNatClampNeg + 1) (cn 3)) ∧ (
    (G207 p (cn 0) (-(F2 p ((v6).toNatClampNeg + 1) (cn 3)))) ∧ (
    let x1 : Int64 := (v2 + ((F207 p (cn 0) (-(F2 p ((v6).toNatClampNeg + 1) (cn 3))))).toInt64)
    kg16 p v1 x1 (v6 + (cn 1))))))
  else (
    if 0 < (lg_cmp v2 (cl 0)) then (
      (¬ v2 = 0) ∧ (
      kg79 p (lrm (v1).toInt64 v2) (cn 0)))
    else (
      True))
noncomputable def g7_assign_16 (n : Nat) : PM → Int32 → Int64 → Int32 → Prop := Nat.rec (motive := fun _ => PM → Int32 → Int64 → Int32 → Prop) (fun _ _ _ _ => False) (fun _ ih => bg7_assign_16 v0_holds g0_holds v14_max_7cf53 g14_max_7cf53 ih (g7_assign_79 FU)) n
theorem eg7_assign_16 (n : Nat) (p : PM) (v1 : Int32) (v2 : Int64) (v6 : Int32) : g7_assign_16 (n + 1) p v1 v2 v6 = bg7_assign_16 v0_holds g0_holds v14_max_7cf53 g14_max_7cf53 (g7_assign_16 n) (g7_assign_79 FU) p v1 v2 v6 := rfl
noncomputable def bv7_assign (kv16 : PM → Int32 → Int64 → Int32 → Int32 × PM) (p : PM) (v1 : Int32) : Int32 × PM :=
  kv16 p v1 (cl 0) (cn 0)
noncomputable def v7_assign (p : PM) (v1 : Int32) : Int32 × PM := bv7_assign (v7_assign_16 FU) p v1
noncomputable def bg7_assign (kg16 : PM → Int32 → Int64 → Int32 → Prop) (p : PM) (v1 : Int32) : Prop :=
  kg16 p v1 (cl 0) (cn 0)
noncomputable def g7_assign (p : PM) (v1 : Int32) : Prop := bg7_assign (g7_assign_16 FU) p v1
def R114 : List Row := [(0, .lconst 0, 1, 0, (0, 0, 0, 0, 0, 0)), (1, .lstore_n 2, 1, 0, (0, 0, 0, 0, 0, 0)), (2, .aload_n 0, 1, 0, (0, 0, 0, 0, 0, 0)), (3, .getfield 11, 3, 0, (7, 0, 19, 2, 1, 0)), (6, .astore 4, 2, 0, (0, 0, 0, 0, 0, 0)), (8, .aload 4, 2, 0, (0, 0, 0, 0, 0, 0)), (10, .arraylength, 1, 0, (16, 9, 0, 0, 0, 9)), (11, .istore 5, 2, 0, (0, 0, 0, 0, 0, 0)), (13, .iconst 0, 1, 0, (0, 0, 0, 0, 0, 0)), (14, .istore 6, 2, 0, (0, 0, 0, 0, 0, 0)), (16, .iload 6, 2, 1, (0, 0, 0, 0, 0, 0)), (18, .iload 5, 2, 0, (0, 0, 0, 0, 0, 0)), (20, .if_icmp .ge 31, 3, 0, (0, 0, 0, 0, 0, 0)), (23, .aload 4, 2, 0, (0, 0, 0, 0, 0, 0)), (25, .iload 6, 2, 0, (0, 0, 0, 0, 0, 0)), (27, .aaload, 1, 0, (16, 9, 0, 1, 1, 0)), (28, .astore 7, 2, 0, (0, 0, 0, 0, 0, 0)), (30, .lload_n 2, 1, 0, (0, 0, 0, 0, 0, 0)), (31, .iconst 0, 1, 0, (0, 0, 0, 0, 0, 0)), (32, .aload 7, 2, 0, (0, 0, 0, 0, 0, 0)), (34, .iconst 3, 1, 0, (0, 0, 0, 0, 0, 3)), (35, .invokevirtual 111, 3, 0, (0, 2, 0, 0, 1, 0)), (38, .ineg, 1, 0, (0, 0, 0, 0, 0, 0)), (39, .invokestatic 53, 3, 0, (1, 2, 0, 0, 0, 0)), (42, .i2l, 1, 0, (0, 0, 0, 0, 0, 0)), (43, .ladd, 1, 0, (0, 0, 0, 0, 0, 0)), (44, .lstore_n 2, 1, 0, (0, 0, 0, 0, 0, 0)), (45, .iinc 6 1, 3, 0, (0, 0, 0, 0, 0, 1)), (48, .goto (-32), 3, 0, (0, 0, 0, 0, 0, 0)), (51, .lload_n 2, 1, 0, (0, 0, 0, 0, 0, 0)), (52, .lconst 0, 1, 0, (0, 0, 0, 0, 0, 0)), (53, .lcmp, 1, 0, (0, 0, 0, 0, 0, 0)), (54, .ifCond .gt 5, 3, 0, (0, 0, 0, 0, 0, 0)), (57, .iconst 0, 1, 0, (0, 0, 0, 0, 0, 0)), (58, .ireturn, 1, 0, (0, 0, 0, 0, 0, 0)), (59, .iload_n 1, 1, 0, (0, 0, 0, 0, 0, 0)), (60, .i2l, 1, 0, (0, 0, 0, 0, 0, 0)), (61, .lload_n 2, 1, 0, (0, 0, 0, 0, 0, 0)), (62, .lrem, 1, 0, (0, 0, 0, 0, 0, 0)), (63, .lstore 4, 2, 0, (0, 0, 0, 0, 0, 0)), (65, .aload_n 0, 1, 0, (0, 0, 0, 0, 0, 0)), (66, .getfield 11, 3, 0, (7, 0, 19, 2, 1, 0)), (69, .astore 6, 2, 0, (0, 0, 0, 0, 0, 0)), (71, .aload 6, 2, 0, (0, 0, 0, 0, 0, 0)), (73, .arraylength, 1, 0, (16, 9, 0, 0, 0, 9)), (74, .istore 7, 2, 0, (0, 0, 0, 0, 0, 0)), (76, .iconst 0, 1, 0, (0, 0, 0, 0, 0, 0)), (77, .istore 8, 2, 0, (0, 0, 0, 0, 0, 0)), (79, .iload 8, 2, 2, (0, 0, 0, 0, 0, 0)), (81, .iload 7, 2, 0, (0, 0, 0, 0, 0, 0)), (83, .if_icmp .ge 93, 3, 0, (0, 0, 0, 0, 0, 0)), (86, .aload 6, 2, 0, (0, 0, 0, 0, 0, 0)), (88, .iload 8, 2, 0, (0, 0, 0, 0, 0, 0)), (90, .aaload, 1, 0, (16, 9, 0, 1, 1, 0)), (91, .astore 9, 2, 0, (0, 0, 0, 0, 0, 0)), (93, .iconst 0, 1, 0, (0, 0, 0, 0, 0, 0)), (94, .aload 9, 2, 0, (0, 0, 0, 0, 0, 0)), (96, .iconst 3, 1, 0, (0, 0, 0, 0, 0, 3)), (97, .invokevirtual 111, 3, 0, (0, 2, 0, 0, 1, 0)), (100, .ineg, 1, 0, (0, 0, 0, 0, 0, 0)), (101, .invokestatic 53, 3, 0, (1, 2, 0, 0, 0, 0)), (104, .istore 10, 2, 0, (0, 0, 0, 0, 0, 0)), (106, .lload 4, 2, 0, (0, 0, 0, 0, 0, 0)), (108, .iload 10, 2, 0, (0, 0, 0, 0, 0, 0)), (110, .i2l, 1, 0, (0, 0, 0, 0, 0, 0)), (111, .lcmp, 1, 0, (0, 0, 0, 0, 0, 0)), (112, .ifCond .ge 50, 3, 0, (0, 0, 0, 0, 0, 0)), (115, .aload 9, 2, 0, (0, 0, 0, 0, 0, 0)), (117, .iconst 3, 1, 0, (0, 0, 0, 0, 0, 3)), (118, .aload 9, 2, 0, (0, 0, 0, 0, 0, 0)), (120, .iconst 3, 1, 0, (0, 0, 0, 0, 0, 3)), (121, .invokevirtual 111, 3, 0, (0, 2, 0, 0, 1, 0)), (124, .iconst 1, 1, 0, (0, 0, 0, 0, 0, 1)), (125, .iadd, 1, 0, (0, 0, 0, 0, 0, 0)), (126, .invokevirtual 119, 3, 0, (2, 3, 0, 0, 1, 0)), (129, .aload 9, 2, 0, (0, 0, 0, 0, 0, 0)), (131, .iconst 0, 1, 0, (0, 0, 0, 0, 0, 0)), (132, .aload 9, 2, 0, (0, 0, 0, 0, 0, 0)), (134, .iconst 0, 1, 0, (0, 0, 0, 0, 0, 0)), (135, .invokevirtual 111, 3, 0, (0, 2, 0, 0, 1, 0)), (138, .iconst 1, 1, 0, (0, 0, 0, 0, 0, 1)), (139, .isub, 1, 0, (0, 0, 0, 0, 0, 0)), (140, .invokevirtual 119, 3, 0, (2, 3, 0, 0, 1, 0)), (143, .aload 9, 2, 0, (0, 0, 0, 0, 0, 0)), (145, .dup, 1, 0, (0, 0, 0, 0, 0, 0)), (146, .getfield 91, 3, 0, (0, 4, 2, 1, 0, 0)), (149, .ldc2_w 123, 3, 0, (0, 0, 0, 0, 0, 100)), (152, .ladd, 1, 0, (0, 0, 0, 0, 0, 0)), (153, .putfield 91, 3, 0, (0, 4, 2, 1, 0, 0)), (156, .aload 9, 2, 0, (0, 0, 0, 0, 0, 0)), (158, .getfield 99, 3, 0, (0, 0, 0, 1, 0, 0)), (161, .ireturn, 1, 0, (0, 0, 0, 0, 0, 0)), (162, .lload 4, 2, 0, (0, 0, 0, 0, 0, 0)), (164, .iload 10, 2, 0, (0, 0, 0, 0, 0, 0)), (166, .i2l, 1, 0, (0, 0, 0, 0, 0, 0)), (167, .lsub, 1, 0, (0, 0, 0, 0, 0, 0)), (168, .lstore 4, 2, 0, (0, 0, 0, 0, 0, 0)), (170, .iinc 8 1, 3, 0, (0, 0, 0, 0, 0, 1)), (173, .goto (-94), 3, 0, (0, 0, 0, 0, 0, 0)), (176, .iconst 0, 1, 0, (0, 0, 0, 0, 0, 0)), (177, .ireturn, 1, 0, (0, 0, 0, 0, 0, 0))]
set_option maxRecDepth 100000 in
theorem rk114 : R114.all (rok 0 114 1 [(2, [3, 0]), (207, [0, 0]), (4, [3, 0, 0])]) = true := by decide +kernel
set_option maxRecDepth 100000 in
theorem tab114 {F2 : PM → Nat → Int32 → Int32} {G2 : PM → Nat → Int32 → Prop} {F207 : PM → Int32 → Int32 → Int32} {G207 : PM → Int32 → Int32 → Prop} {F4 : PM → Nat → Int32 → Int32 → PM} {G4 : PM → Nat → Int32 → Int32 → Prop} : TabOK 0 114 1 [CC2 F2 G2, CC207 F207 G207, CC4 F4 G4] R114 := tab_ok (K := K114) rfl rfl (fun h => d114 h) rk114 (by decide +kernel)
set_option maxRecDepth 100000 in
theorem pc114 : cutpc [16, 79] R114 = true := by decide +kernel
set_option maxRecDepth 100000 in
theorem r7_assign_79 (F2 : PM → Nat → Int32 → Int32) (G2 : PM → Nat → Int32 → Prop) (o2 : CalOK 0 (CC2 F2 G2)) (F207 : PM → Int32 → Int32 → Int32) (G207 : PM → Int32 → Int32 → Prop) (o207 : CalOK 0 (CC207 F207 G207)) (F4 : PM → Nat → Int32 → Int32 → PM) (G4 : PM → Nat → Int32 → Int32 → Prop) (o4 : CalOK 0 (CC4 F4 G4)) (kv79 : PM → Int64 → Int32 → Int32 × PM) (kg79 : PM → Int64 → Int32 → Prop) (hk79 : ∀ (p : PM) (v4 : Int64) (v8 : Int32) (d0 d1 d2 d3 d5 d9 d10 : ZV), Gr 0 p → kg79 p v4 v8 → ZJ 0 114 79 [d0, d1, d2, d3, zL v4, d5, zR 16 1, zC 9, zI v8, d9, d10] [] p (hwI (kv79 p v4 v8))) : ∀ (p : PM) (v4 : Int64) (v8 : Int32) (d0 d1 d2 d3 d5 d9 d10 : ZV), Gr 0 p → bg7_assign_79 F2 G2 F4 G4 F207 G207 kg79 p v4 v8 → ZJ 0 114 79 [d0, d1, d2, d3, zL v4, d5, zR 16 1, zC 9, zI v8, d9, d10] [] p (hwI (bv7_assign_79 F2 F4 F207 kv79 p v4 v8)) := by
  intro p v4 v8 d0 d1 d2 d3 d5 d9 d10 hg H
  exact rwI (n := 3000) (q := 79) (la := [d0, d1, d2, d3, zL v4, d5, zR 16 1, zC 9, zI v8, d9, d10]) (sa := []) (ks := [fun _ _ s => (0, s), fun la sa s => kv79 s (al la 4) (ai la 8)]) (gs := [fun _ _ _ => False, fun la sa s => zsw (tc2 la [(2, 0), (2, 0), (2, 0), (2, 0), (1, 0), (2, 0), (116, 1), (3, 9), (0, 0), (2, 0), (2, 0)] && tc2 sa []) False (kg79 s (al la 4) (ai la 8))]) (fcons o2 (fcons o207 (fcons o4 (fnil)))) tab114 pc114 ⟨fun _ _ _ _ H => H.elim, fun la sa s hg H => zcut H fun H => hk79 s (al la 4) (ai la 8) (zld la 0) (zld la 1) (zld la 2) (zld la 3) (zld la 5) (zld la 9) (zld la 10) hg H, trivial⟩ hg H
theorem t7_assign_79 : ∀ (n : Nat), ∀ (p : PM) (v4 : Int64) (v8 : Int32) (d0 d1 d2 d3 d5 d9 d10 : ZV), Gr 0 p → g7_assign_79 n p v4 v8 → ZJ 0 114 79 [d0, d1, d2, d3, zL v4, d5, zR 16 1, zC 9, zI v8, d9, d10] [] p (hwI (v7_assign_79 n p v4 v8)) := by
  intro n
  induction n with
  | zero =>
    intro p v4 v8 d0 d1 d2 d3 d5 d9 d10 hg H
    exact H.elim
  | succ n ih => exact r7_assign_79 v0_holds g0_holds ok2 v14_max_7cf53 g14_max_7cf53 ok207 v0_put g0_put ok4 (v7_assign_79 n) (g7_assign_79 n) ih
set_option maxRecDepth 100000 in
theorem r7_assign_16 (F2 : PM → Nat → Int32 → Int32) (G2 : PM → Nat → Int32 → Prop) (o2 : CalOK 0 (CC2 F2 G2)) (F207 : PM → Int32 → Int32 → Int32) (G207 : PM → Int32 → Int32 → Prop) (o207 : CalOK 0 (CC207 F207 G207)) (F4 : PM → Nat → Int32 → Int32 → PM) (G4 : PM → Nat → Int32 → Int32 → Prop) (o4 : CalOK 0 (CC4 F4 G4)) (kv16 : PM → Int32 → Int64 → Int32 → Int32 × PM) (kg16 : PM → Int32 → Int64 → Int32 → Prop) (hk16 : ∀ (p : PM) (v1 : Int32) (v2 : Int64) (v6 : Int32) (d3 d7 d8 d9 d10 : ZV), Gr 0 p → kg16 p v1 v2 v6 → ZJ 0 114 16 [zR 7 1, zI v1, zL v2, d3, zR 16 1, zC 9, zI v6, d7, d8, d9, d10] [] p (hwI (kv16 p v1 v2 v6))) (kv79 : PM → Int64 → Int32 → Int32 × PM) (kg79 : PM → Int64 → Int32 → Prop) (hk79 : ∀ (p : PM) (v4 : Int64) (v8 : Int32) (d0 d1 d2 d3 d5 d9 d10 : ZV), Gr 0 p → kg79 p v4 v8 → ZJ 0 114 79 [d0, d1, d2, d3, zL v4, d5, zR 16 1, zC 9, zI v8, d9, d10] [] p (hwI (kv79 p v4 v8))) : ∀ (p : PM) (v1 : Int32) (v2 : Int64) (v6 : Int32) (d3 d7 d8 d9 d10 : ZV), Gr 0 p → bg7_assign_16 F2 G2 F207 G207 kg16 kg79 p v1 v2 v6 → ZJ 0 114 16 [zR 7 1, zI v1, zL v2, d3, zR 16 1, zC 9, zI v6, d7, d8, d9, d10] [] p (hwI (bv7_assign_16 F2 F207 kv16 kv79 p v1 v2 v6)) := by
  intro p v1 v2 v6 d3 d7 d8 d9 d10 hg H
  exact rwI (n := 3000) (q := 16) (la := [zR 7 1, zI v1, zL v2, d3, zR 16 1, zC 9, zI v6, d7, d8, d9, d10]) (sa := []) (ks := [fun la sa s => kv16 s (ai la 1) (al la 2) (ai la 6), fun la sa s => kv79 s (al la 4) (ai la 8)]) (gs := [fun la sa s => zsw (tc2 la [(107, 1), (0, 0), (1, 0), (2, 0), (116, 1), (3, 9), (0, 0), (2, 0), (2, 0), (2, 0), (2, 0)] && tc2 sa []) False (kg16 s (ai la 1) (al la 2) (ai la 6)), fun la sa s => zsw (tc2 la [(2, 0), (2, 0), (2, 0), (2, 0), (1, 0), (2, 0), (116, 1), (3, 9), (0, 0), (2, 0), (2, 0)] && tc2 sa []) False (kg79 s (al la 4) (ai la 8))]) (fcons o2 (fcons o207 (fcons o4 (fnil)))) tab114 pc114 ⟨fun la sa s hg H => zcut H fun H => hk16 s (ai la 1) (al la 2) (ai la 6) (zld la 3) (zld la 7) (zld la 8) (zld la 9) (zld la 10) hg H, fun la sa s hg H => zcut H fun H => hk79 s (al la 4) (ai la 8) (zld la 0) (zld la 1) (zld la 2) (zld la 3) (zld la 5) (zld la 9) (zld la 10) hg H, trivial⟩ hg H
theorem t7_assign_16 : ∀ (n : Nat), ∀ (p : PM) (v1 : Int32) (v2 : Int64) (v6 : Int32) (d3 d7 d8 d9 d10 : ZV), Gr 0 p → g7_assign_16 n p v1 v2 v6 → ZJ 0 114 16 [zR 7 1, zI v1, zL v2, d3, zR 16 1, zC 9, zI v6, d7, d8, d9, d10] [] p (hwI (v7_assign_16 n p v1 v2 v6)) := by
  intro n
  induction n with
  | zero =>
    intro p v1 v2 v6 d3 d7 d8 d9 d10 hg H
    exact H.elim
  | succ n ih => exact r7_assign_16 v0_holds g0_holds ok2 v14_max_7cf53 g14_max_7cf53 ok207 v0_put g0_put ok4 (v7_assign_16 n) (g7_assign_16 n) ih (v7_assign_79 FU) (g7_assign_79 FU) (t7_assign_79 FU)
set_option maxRecDepth 100000 in
theorem r7_assign (F2 : PM → Nat → Int32 → Int32) (G2 : PM → Nat → Int32 → Prop) (o2 : CalOK 0 (CC2 F2 G2)) (F207 : PM → Int32 → Int32 → Int32) (G207 : PM → Int32 → Int32 → Prop) (o207 : CalOK 0 (CC207 F207 G207)) (F4 : PM → Nat → Int32 → Int32 → PM) (G4 : PM → Nat → Int32 → Int32 → Prop) (o4 : CalOK 0 (CC4 F4 G4)) (kv16 : PM → Int32 → Int64 → Int32 → Int32 × PM) (kg16 : PM → Int32 → Int64 → Int32 → Prop) (hk16 : ∀ (p : PM) (v1 : Int32) (v2 : Int64) (v6 : Int32) (d3 d7 d8 d9 d10 : ZV), Gr 0 p → kg16 p v1 v2 v6 → ZJ 0 114 16 [zR 7 1, zI v1, zL v2, d3, zR 16 1, zC 9, zI v6, d7, d8, d9, d10] [] p (hwI (kv16 p v1 v2 v6))) : ∀ (p : PM) (v1 : Int32), Gr 0 p → bg7_assign kg16 p v1 → ZJ 0 114 0 [zR 7 1, zI v1, zJ, zJ, zJ, zJ, zJ, zJ, zJ, zJ, zJ] [] p (hwI (bv7_assign kv16 p v1)) := by
  intro p v1  hg H
  exact rwI (n := 3000) (q := 0) (la := [zR 7 1, zI v1, zJ, zJ, zJ, zJ, zJ, zJ, zJ, zJ, zJ]) (sa := []) (ks := [fun la sa s => kv16 s (ai la 1) (al la 2) (ai la 6), fun _ _ s => (0, s)]) (gs := [fun la sa s => zsw (tc2 la [(107, 1), (0, 0), (1, 0), (2, 0), (116, 1), (3, 9), (0, 0), (2, 0), (2, 0), (2, 0), (2, 0)] && tc2 sa []) False (kg16 s (ai la 1) (al la 2) (ai la 6)), fun _ _ _ => False]) (fcons o2 (fcons o207 (fcons o4 (fnil)))) tab114 pc114 ⟨fun la sa s hg H => zcut H fun H => hk16 s (ai la 1) (al la 2) (ai la 6) (zld la 3) (zld la 7) (zld la 8) (zld la 9) (zld la 10) hg H, fun _ _ _ _ H => H.elim, trivial⟩ hg H
theorem t7_assign : ∀ (p : PM) (v1 : Int32), Gr 0 p → g7_assign p v1 → ZJ 0 114 0 [zR 7 1, zI v1, zJ, zJ, zJ, zJ, zJ, zJ, zJ, zJ, zJ] [] p (hwI (v7_assign p v1)) := r7_assign v0_holds g0_holds ok2 v14_max_7cf53 g14_max_7cf53 ok207 v0_put g0_put ok4 (v7_assign_16 FU) (g7_assign_16 FU) (t7_assign_16 FU)
def CC114 (F : PM → Int32 → Int32 × PM) (G : PM → Int32 → Prop) : Cal := (114, [10, 0], 1, false, fun as p => (zI (F p (ai as 1)).1, (F p (ai as 1)).2), fun as p => zsw (tc2 as [(107, 1), (0, 0)]) False (G p (ai as 1)))
set_option maxRecDepth 100000 in
theorem okr114 (F : PM → Int32 → Int32 × PM) (G : PM → Int32 → Prop) (h : ∀ (p : PM) (v1 : Int32), Gr 0 p → G p v1 → ZJ 0 114 0 [zR 7 1, zI v1, zJ, zJ, zJ, zJ, zJ, zJ, zJ, zJ, zJ] [] p (hwI (F p v1))) : CalOK 0 (CC114 F G) := cal_ok (m := 11) (by unfold mL; rw [mX_114]) (fun as p hg H => h p (ai as 1) hg H)
theorem ok114 : CalOK 0 (CC114 v7_assign g7_assign) := okr114 v7_assign g7_assign t7_assign
noncomputable def bv7_exerciseLots_60 (F114 : PM → Int32 → Int32 × PM) (F204 : PM → Int32 → Int32 → Int32) (kv60 : PM → Int32 → Int32 → Int32 → Int32 → Int32 × PM) (p : PM) (v2 : Int32) (v5 : Int32) (v6 : Int32) (v7 : Int32) : Int32 × PM :=
  if v7 < v2 then (
    let x1 : Int32 := (F204 p (((cn 421) * v6) + (cn 1663)) (cn 7875))
    let r2 : Int32 × PM := F114 p x1
    kv60 r2.2 v2 r2.1 x1 (v7 + (cn 1)))
  else (
    (v5, p))
noncomputable def v7_exerciseLots_60 (n : Nat) : PM → Int32 → Int32 → Int32 → Int32 → Int32 × PM := Nat.rec (motive := fun _ => PM → Int32 → Int32 → Int32 → Int32 → Int32 × PM) (fun p _ _ _ _ => (0, p)) (fun _ ih => bv7_exerciseLots_60 v7_assign v14_floorMod_7cf53 ih) n
theorem ev7_exerciseLots_60 (n : Nat) (p : PM) (v2 : Int32) (v5 : Int32) (v6 : Int32) (v7 : Int32) : v7_exerciseLots_60 (n + 1) p v2 v5 v6 v7 = bv7_exerciseLots_60 v7_assign v14_floorMod_7cf53 (v7_exerciseLots_60 n) p v2 v5 v6 v7 := rfl
noncomputable def bg7_exerciseLots_60 (F114 : PM → Int32 → Int32 × PM) (G114 : PM → Int32 → Prop) (F204 : PM → Int32 → Int32 → Int32) (G204 : PM → Int32 → Int32 → Prop) (kg60 : PM → Int32 → Int32 → Int32 → Int32 → Prop) (p : PM) (v2 : Int32) (v5 : Int32) (v6 : Int32) (v7 : Int32) : Prop :=
  if v7 < v2 then (
    (G204 p (((cn 421) * v6) + (cn 1663)) (cn 7875)) ∧ (
    let x1 : Int32 := (F204 p (((cn 421) * v6) + (cn 1663)) (cn 7875))
    (G114 p x1) ∧ (
    let r2 : Int32 × PM := F114 p x1
    kg60 r2.2 v2 r2.1 x1 (v7 + (cn 1)))))
  else (
    True)
noncomputable def g7_exerciseLots_60 (n : Nat) : PM → Int32 → Int32 → Int32 → Int32 → Prop := Nat.rec (motive := fun _ => PM → Int32 → Int32 → Int32 → Int32 → Prop) (fun _ _ _ _ _ => False) (fun _ ih => bg7_exerciseLots_60 v7_assign g7_assign v14_floorMod_7cf53 g14_floorMod_7cf53 ih) n
theorem eg7_exerciseLots_60 (n : Nat) (p : PM) (v2 : Int32) (v5 : Int32) (v6 : Int32) (v7 : Int32) : g7_exerciseLots_60 (n + 1) p v2 v5 v6 v7 = bg7_exerciseLots_60 v7_assign g7_assign v14_floorMod_7cf53 g14_floorMod_7cf53 (g7_exerciseLots_60 n) p v2 v5 v6 v7 := rfl
noncomputable def bv7_exerciseLots (F2 : PM → Nat → Int32 → Int32) (F4 : PM → Nat → Int32 → Int32 → PM) (F104 : PM → Int32 → Nat) (kv60 : PM → Int32 → Int32 → Int32 → Int32 → Int32 × PM) (p : PM) (v1 : Int32) (v2 : Int32) (v3 : Int32) : Int32 × PM :=
  let p1 : PM := F4 p (F104 p v1) (cn 3) ((F2 p (F104 p v1) (cn 3)) - v2)
  let p2 : PM := F4 p1 (F104 p v1) (cn 0) ((F2 p1 (F104 p v1) (cn 0)) + v2)
  let p3 : PM := pJ p2 0 (F104 p v1) 4 ((p2.2.1 0 (F104 p v1) 4) - ((v2).toInt64 * (cl 100)))
  kv60 p3 v2 (cn 0) v3 (cn 0)
noncomputable def v7_exerciseLots (p : PM) (v1 : Int32) (v2 : Int32) (v3 : Int32) : Int32 × PM := bv7_exerciseLots v0_holds v0_put v7_accountAt (v7_exerciseLots_60 FU) p v1 v2 v3
noncomputable def bg7_exerciseLots (F2 : PM → Nat → Int32 → Int32) (G2 : PM → Nat → Int32 → Prop) (F4 : PM → Nat → Int32 → Int32 → PM) (G4 : PM → Nat → Int32 → Int32 → Prop) (F104 : PM → Int32 → Nat) (G104 : PM → Int32 → Prop) (kg60 : PM → Int32 → Int32 → Int32 → Int32 → Prop) (p : PM) (v1 : Int32) (v2 : Int32) (v3 : Int32) : Prop :=
  (G104 p v1) ∧ (
  (¬ (F104 p v1) = 0) ∧ (
  (G2 p (F104 p v1) (cn 3)) ∧ (
  (¬ (F104 p v1) = 0) ∧ (
  (G4 p (F104 p v1) (cn 3) ((F2 p (F104 p v1) (cn 3)) - v2)) ∧ (
  let p1 : PM := F4 p (F104 p v1) (cn 3) ((F2 p (F104 p v1) (cn 3)) - v2)
  (¬ (F104 p v1) = 0) ∧ (
  (G2 p1 (F104 p v1) (cn 0)) ∧ (
  (¬ (F104 p v1) = 0) ∧ (
  (G4 p1 (F104 p v1) (cn 0) ((F2 p1 (F104 p v1) (cn 0)) + v2)) ∧ (
  let p2 : PM := F4 p1 (F104 p v1) (cn 0) ((F2 p1 (F104 p v1) (cn 0)) + v2)
  (¬ (F104 p v1) = 0) ∧ (
  (¬ (F104 p v1) = 0) ∧ (
  let p3 : PM := pJ p2 0 (F104 p v1) 4 ((p2.2.1 0 (F104 p v1) 4) - ((v2).toInt64 * (cl 100)))
  kg60 p3 v2 (cn 0) v3 (cn 0))))))))))))
noncomputable def g7_exerciseLots (p : PM) (v1 : Int32) (v2 : Int32) (v3 : Int32) : Prop := bg7_exerciseLots v0_holds g0_holds v0_put g0_put v7_accountAt g7_accountAt (g7_exerciseLots_60 FU) p v1 v2 v3
def R113 : List Row := [(0, .aload_n 0, 1, 0, (0, 0, 0, 0, 0, 0)), (1, .iload_n 1, 1, 0, (0, 0, 0, 0, 0, 0)), (2, .invokevirtual 95, 3, 0, (0, 2, 0, 0, 1, 0)), (5, .astore 4, 2, 0, (0, 0, 0, 0, 0, 0)), (7, .aload 4, 2, 0, (0, 0, 0, 0, 0, 0)), (9, .iconst 3, 1, 0, (0, 0, 0, 0, 0, 3)), (10, .aload 4, 2, 0, (0, 0, 0, 0, 0, 0)), (12, .iconst 3, 1, 0, (0, 0, 0, 0, 0, 3)), (13, .invokevirtual 111, 3, 0, (1, 2, 0, 0, 2, 0)), (16, .iload_n 2, 1, 0, (0, 0, 0, 0, 0, 0)), (17, .isub, 1, 0, (0, 0, 0, 0, 0, 0)), (18, .invokevirtual 119, 3, 0, (2, 3, 0, 0, 2, 0)), (21, .aload 4, 2, 0, (0, 0, 0, 0, 0, 0)), (23, .iconst 0, 1, 0, (0, 0, 0, 0, 0, 0)), (24, .aload 4, 2, 0, (0, 0, 0, 0, 0, 0)), (26, .iconst 0, 1, 0, (0, 0, 0, 0, 0, 0)), (27, .invokevirtual 111, 3, 0, (1, 2, 0, 0, 2, 0)), (30, .iload_n 2, 1, 0, (0, 0, 0, 0, 0, 0)), (31, .iadd, 1, 0, (0, 0, 0, 0, 0, 0)), (32, .invokevirtual 119, 3, 0, (2, 3, 0, 0, 2, 0)), (35, .aload 4, 2, 0, (0, 0, 0, 0, 0, 0)), (37, .dup, 1, 0, (0, 0, 0, 0, 0, 0)), (38, .getfield 91, 3, 0, (0, 4, 2, 0, 0, 0)), (41, .iload_n 2, 1, 0, (0, 0, 0, 0, 0, 0)), (42, .i2l, 1, 0, (0, 0, 0, 0, 0, 0)), (43, .ldc2_w 123, 3, 0, (0, 0, 0, 0, 0, 100)), (46, .lmul, 1, 0, (0, 0, 0, 0, 0, 0)), (47, .lsub, 1, 0, (0, 0, 0, 0, 0, 0)), (48, .putfield 91, 3, 0, (0, 4, 2, 0, 0, 0)), (51, .iconst 0, 1, 0, (0, 0, 0, 0, 0, 0)), (52, .istore 5, 2, 0, (0, 0, 0, 0, 0, 0)), (54, .iload_n 3, 1, 0, (0, 0, 0, 0, 0, 0)), (55, .istore 6, 2, 0, (0, 0, 0, 0, 0, 0)), (57, .iconst 0, 1, 0, (0, 0, 0, 0, 0, 0)), (58, .istore 7, 2, 0, (0, 0, 0, 0, 0, 0)), (60, .iload 7, 2, 1, (0, 0, 0, 0, 0, 0)), (62, .iload_n 2, 1, 0, (0, 0, 0, 0, 0, 0)), (63, .if_icmp .ge 35, 3, 0, (0, 0, 0, 0, 0, 0)), (66, .sipush 421, 3, 0, (0, 0, 0, 0, 0, 421)), (69, .iload 6, 2, 0, (0, 0, 0, 0, 0, 0)), (71, .imul, 1, 0, (0, 0, 0, 0, 0, 0)), (72, .sipush 1663, 3, 0, (0, 0, 0, 0, 0, 1663)), (75, .iadd, 1, 0, (0, 0, 0, 0, 0, 0)), (76, .sipush 7875, 3, 0, (0, 0, 0, 0, 0, 7875)), (79, .invokestatic 125, 3, 0, (3, 2, 0, 0, 0, 0)), (82, .istore 6, 2, 0, (0, 0, 0, 0, 0, 0)), (84, .aload_n 0, 1, 0, (0, 0, 0, 0, 0, 0)), (85, .iload 6, 2, 0, (0, 0, 0, 0, 0, 0)), (87, .invokevirtual 128, 3, 0, (4, 2, 0, 0, 1, 0)), (90, .istore 5, 2, 0, (0, 0, 0, 0, 0, 0)), (92, .iinc 7 1, 3, 0, (0, 0, 0, 0, 0, 1)), (95, .goto (-35), 3, 0, (0, 0, 0, 0, 0, 0)), (98, .iload 5, 2, 0, (0, 0, 0, 0, 0, 0)), (100, .ireturn, 1, 0, (0, 0, 0, 0, 0, 0))]
set_option maxRecDepth 100000 in
theorem rk113 : R113.all (rok 0 113 1 [(104, [10, 0]), (2, [3, 0]), (4, [3, 0, 0]), (204, [0, 0]), (114, [10, 0])]) = true := by decide +kernel
set_option maxRecDepth 100000 in
theorem tab113 {F104 : PM → Int32 → Nat} {G104 : PM → Int32 → Prop} {F2 : PM → Nat → Int32 → Int32} {G2 : PM → Nat → Int32 → Prop} {F4 : PM → Nat → Int32 → Int32 → PM} {G4 : PM → Nat → Int32 → Int32 → Prop} {F204 : PM → Int32 → Int32 → Int32} {G204 : PM → Int32 → Int32 → Prop} {F114 : PM → Int32 → Int32 × PM} {G114 : PM → Int32 → Prop} : TabOK 0 113 1 [CC104 F104 G104, CC2 F2 G2, CC4 F4 G4, CC204 F204 G204, CC114 F114 G114] R113 := tab_ok (K := K113) rfl rfl (fun h => d113 h) rk113 (by decide +kernel)
set_option maxRecDepth 100000 in
theorem pc113 : cutpc [60] R113 = true := by decide +kernel
set_option maxRecDepth 100000 in
theorem r7_exerciseLots_60 (F104 : PM → Int32 → Nat) (G104 : PM → Int32 → Prop) (o104 : CalOK 0 (CC104 F104 G104)) (F2 : PM → Nat → Int32 → Int32) (G2 : PM → Nat → Int32 → Prop) (o2 : CalOK 0 (CC2 F2 G2)) (F4 : PM → Nat → Int32 → Int32 → PM) (G4 : PM → Nat → Int32 → Int32 → Prop) (o4 : CalOK 0 (CC4 F4 G4)) (F204 : PM → Int32 → Int32 → Int32) (G204 : PM → Int32 → Int32 → Prop) (o204 : CalOK 0 (CC204 F204 G204)) (F114 : PM → Int32 → Int32 × PM) (G114 : PM → Int32 → Prop) (o114 : CalOK 0 (CC114 F114 G114)) (kv60 : PM → Int32 → Int32 → Int32 → Int32 → Int32 × PM) (kg60 : PM → Int32 → Int32 → Int32 → Int32 → Prop) (hk60 : ∀ (p : PM) (v2 : Int32) (v5 : Int32) (v6 : Int32) (v7 : Int32) (d1 d3 d4 : ZV), Gr 0 p → kg60 p v2 v5 v6 v7 → ZJ 0 113 60 [zR 7 1, d1, zI v2, d3, d4, zI v5, zI v6, zI v7] [] p (hwI (kv60 p v2 v5 v6 v7))) : ∀ (p : PM) (v2 : Int32) (v5 : Int32) (v6 : Int32) (v7 : Int32) (d1 d3 d4 : ZV), Gr 0 p → bg7_exerciseLots_60 F114 G114 F204 G204 kg60 p v2 v5 v6 v7 → ZJ 0 113 60 [zR 7 1, d1, zI v2, d3, d4, zI v5, zI v6, zI v7] [] p (hwI (bv7_exerciseLots_60 F114 F204 kv60 p v2 v5 v6 v7)) := by
  intro p v2 v5 v6 v7 d1 d3 d4 hg H
  exact rwI (n := 3000) (q := 60) (la := [zR 7 1, d1, zI v2, d3, d4, zI v5, zI v6, zI v7]) (sa := []) (ks := [fun la sa s => kv60 s (ai la 2) (ai la 5) (ai la 6) (ai la 7)]) (gs := [fun la sa s => zsw (tc2 la [(107, 1), (2, 0), (0, 0), (2, 0), (2, 0), (0, 0), (0, 0), (0, 0)] && tc2 sa []) False (kg60 s (ai la 2) (ai la 5) (ai la 6) (ai la 7))]) (fcons o104 (fcons o2 (fcons o4 (fcons o204 (fcons o114 (fnil)))))) tab113 pc113 ⟨fun la sa s hg H => zcut H fun H => hk60 s (ai la 2) (ai la 5) (ai la 6) (ai la 7) (zld la 1) (zld la 3) (zld la 4) hg H, trivial⟩ hg H
theorem t7_exerciseLots_60 : ∀ (n : Nat), ∀ (p : PM) (v2 : Int32) (v5 : Int32) (v6 : Int32) (v7 : Int32) (d1 d3 d4 : ZV), Gr 0 p → g7_exerciseLots_60 n p v2 v5 v6 v7 → ZJ 0 113 60 [zR 7 1, d1, zI v2, d3, d4, zI v5, zI v6, zI v7] [] p (hwI (v7_exerciseLots_60 n p v2 v5 v6 v7)) := by
  intro n
  induction n with
  | zero =>
    intro p v2 v5 v6 v7 d1 d3 d4 hg H
    exact H.elim
  | succ n ih => exact r7_exerciseLots_60 v7_accountAt g7_accountAt ok104 v0_holds g0_holds ok2 v0_put g0_put ok4 v14_floorMod_7cf53 g14_floorMod_7cf53 ok204 v7_assign g7_assign ok114 (v7_exerciseLots_60 n) (g7_exerciseLots_60 n) ih
set_option maxRecDepth 100000 in
theorem r7_exerciseLots (F104 : PM → Int32 → Nat) (G104 : PM → Int32 → Prop) (o104 : CalOK 0 (CC104 F104 G104)) (F2 : PM → Nat → Int32 → Int32) (G2 : PM → Nat → Int32 → Prop) (o2 : CalOK 0 (CC2 F2 G2)) (F4 : PM → Nat → Int32 → Int32 → PM) (G4 : PM → Nat → Int32 → Int32 → Prop) (o4 : CalOK 0 (CC4 F4 G4)) (F204 : PM → Int32 → Int32 → Int32) (G204 : PM → Int32 → Int32 → Prop) (o204 : CalOK 0 (CC204 F204 G204)) (F114 : PM → Int32 → Int32 × PM) (G114 : PM → Int32 → Prop) (o114 : CalOK 0 (CC114 F114 G114)) (kv60 : PM → Int32 → Int32 → Int32 → Int32 → Int32 × PM) (kg60 : PM → Int32 → Int32 → Int32 → Int32 → Prop) (hk60 : ∀ (p : PM) (v2 : Int32) (v5 : Int32) (v6 : Int32) (v7 : Int32) (d1 d3 d4 : ZV), Gr 0 p → kg60 p v2 v5 v6 v7 → ZJ 0 113 60 [zR 7 1, d1, zI v2, d3, d4, zI v5, zI v6, zI v7] [] p (hwI (kv60 p v2 v5 v6 v7))) : ∀ (p : PM) (v1 : Int32) (v2 : Int32) (v3 : Int32), Gr 0 p → bg7_exerciseLots F2 G2 F4 G4 F104 G104 kg60 p v1 v2 v3 → ZJ 0 113 0 [zR 7 1, zI v1, zI v2, zI v3, zJ, zJ, zJ, zJ] [] p (hwI (bv7_exerciseLots F2 F4 F104 kv60 p v1 v2 v3)) := by
  intro p v1 v2 v3  hg H
  exact rwI (n := 3000) (q := 0) (la := [zR 7 1, zI v1, zI v2, zI v3, zJ, zJ, zJ, zJ]) (sa := []) (ks := [fun la sa s => kv60 s (ai la 2) (ai la 5) (ai la 6) (ai la 7)]) (gs := [fun la sa s => zsw (tc2 la [(107, 1), (2, 0), (0, 0), (2, 0), (2, 0), (0, 0), (0, 0), (0, 0)] && tc2 sa []) False (kg60 s (ai la 2) (ai la 5) (ai la 6) (ai la 7))]) (fcons o104 (fcons o2 (fcons o4 (fcons o204 (fcons o114 (fnil)))))) tab113 pc113 ⟨fun la sa s hg H => zcut H fun H => hk60 s (ai la 2) (ai la 5) (ai la 6) (ai la 7) (zld la 1) (zld la 3) (zld la 4) hg H, trivial⟩ hg H
theorem t7_exerciseLots : ∀ (p : PM) (v1 : Int32) (v2 : Int32) (v3 : Int32), Gr 0 p → g7_exerciseLots p v1 v2 v3 → ZJ 0 113 0 [zR 7 1, zI v1, zI v2, zI v3, zJ, zJ, zJ, zJ] [] p (hwI (v7_exerciseLots p v1 v2 v3)) := r7_exerciseLots v7_accountAt g7_accountAt ok104 v0_holds g0_holds ok2 v0_put g0_put ok4 v14_floorMod_7cf53 g14_floorMod_7cf53 ok204 v7_assign g7_assign ok114 (v7_exerciseLots_60 FU) (g7_exerciseLots_60 FU) (t7_exerciseLots_60 FU)
def CC113 (F : PM → Int32 → Int32 → Int32 → Int32 × PM) (G : PM → Int32 → Int32 → Int32 → Prop) : Cal := (113, [10, 0, 0, 0], 1, false, fun as p => (zI (F p (ai as 1) (ai as 2) (ai as 3)).1, (F p (ai as 1) (ai as 2) (ai as 3)).2), fun as p => zsw (tc2 as [(107, 1), (0, 0), (0, 0), (0, 0)]) False (G p (ai as 1) (ai as 2) (ai as 3)))
set_option maxRecDepth 100000 in
theorem okr113 (F : PM → Int32 → Int32 → Int32 → Int32 × PM) (G : PM → Int32 → Int32 → Int32 → Prop) (h : ∀ (p : PM) (v1 : Int32) (v2 : Int32) (v3 : Int32), Gr 0 p → G p v1 v2 v3 → ZJ 0 113 0 [zR 7 1, zI v1, zI v2, zI v3, zJ, zJ, zJ, zJ] [] p (hwI (F p v1 v2 v3))) : CalOK 0 (CC113 F G) := cal_ok (m := 8) (by unfold mL; rw [mX_113]) (fun as p hg H => h p (ai as 1) (ai as 2) (ai as 3) hg H)
theorem ok113 : CalOK 0 (CC113 v7_exerciseLots g7_exerciseLots) := okr113 v7_exerciseLots g7_exerciseLots t7_exerciseLots
noncomputable def bv7_canConvert_3 (p : PM) (F2 : PM → Nat → Int32 → Int32) (F104 : PM → Int32 → Nat) (F116 : PM → Int32 → Int32 → Int32 → Int64) (F206 : PM → Int64 → Int64) (kv3 : Int32 → Int32 → Int32 → Int32 → Int32) (v1 : Int32) (v2 : Int32) (v3 : Int32) (v4 : Int32) : Int32 :=
  if v4 < (cn 8) then (
    if 0 < (lg_cmp (F206 p (F116 p (F2 p (F104 p v4) v1) v2 v3)) (cl 1000000)) then (
      (cn 0))
    else (
      kv3 v1 v2 v3 (v4 + (cn 1))))
  else (
    (cn 1))
noncomputable def v7_canConvert_3 (p : PM) (n : Nat) : Int32 → Int32 → Int32 → Int32 → Int32 := Nat.rec (motive := fun _ => Int32 → Int32 → Int32 → Int32 → Int32) (fun _ _ _ _ => 0) (fun _ ih => bv7_canConvert_3 p v0_holds v7_accountAt v7_scaled v14_abs_067f4 ih) n
theorem ev7_canConvert_3 (p : PM) (n : Nat) (v1 : Int32) (v2 : Int32) (v3 : Int32) (v4 : Int32) : v7_canConvert_3 p (n + 1) v1 v2 v3 v4 = bv7_canConvert_3 p v0_holds v7_accountAt v7_scaled v14_abs_067f4 (v7_canConvert_3 p n) v1 v2 v3 v4 := rfl
noncomputable def bg7_canConvert_3 (p : PM) (F2 : PM → Nat → Int32 → Int32) (G2 : PM → Nat → Int32 → Prop) (F104 : PM → Int32 → Nat) (G104 : PM → Int32 → Prop) (F116 : PM → Int32 → Int32 → Int32 → Int64) (G116 : PM → Int32 → Int32 → Int32 → Prop) (F206 : PM → Int64 → Int64) (G206 : PM → Int64 → Prop) (kg3 : Int32 → Int32 → Int32 → Int32 → Prop) (v1 : Int32) (v2 : Int32) (v3 : Int32) (v4 : Int32) : Prop :=
  if v4 < (cn 8) then (
    (G104 p v4) ∧ (
    (¬ (F104 p v4) = 0) ∧ (
    (G2 p (F104 p v4) v1) ∧ (
    (G116 p (F2 p (F104 p v4) v1) v2 v3) ∧ (
    (G206 p (F116 p (F2 p (F104 p v4) v1) v2 v3)) ∧ (
    if 0 < (lg_cmp (F206 p (F116 p (F2 p (F104 p v4) v1) v2 v3)) (cl 1000000)) then (
      True)
    else (
      kg3 v1 v2 v3 (v4 + (cn 1)))))))))
  else (
    True)
noncomputable def g7_canConvert_3 (p : PM) (n : Nat) : Int32 → Int32 → Int32 → Int32 → Prop := Nat.rec (motive := fun _ => Int32 → Int32 → Int32 → Int32 → Prop) (fun _ _ _ _ => False) (fun _ ih => bg7_canConvert_3 p v0_holds g0_holds v7_accountAt g7_accountAt v7_scaled g7_scaled v14_abs_067f4 g14_abs_067f4 ih) n
theorem eg7_canConvert_3 (p : PM) (n : Nat) (v1 : Int32) (v2 : Int32) (v3 : Int32) (v4 : Int32) : g7_canConvert_3 p (n + 1) v1 v2 v3 v4 = bg7_canConvert_3 p v0_holds g0_holds v7_accountAt g7_accountAt v7_scaled g7_scaled v14_abs_067f4 g14_abs_067f4 (g7_canConvert_3 p n) v1 v2 v3 v4 := rfl
noncomputable def bv7_canConvert (p : PM) (kv3 : Int32 → Int32 → Int32 → Int32 → Int32) (v1 : Int32) (v2 : Int32) (v3 : Int32) : Int32 :=
  kv3 v1 v2 v3 (cn 0)
noncomputable def v7_canConvert (p : PM) (v1 : Int32) (v2 : Int32) (v3 : Int32) : Int32 := bv7_canConvert p (v7_canConvert_3 p FU) v1 v2 v3
noncomputable def bg7_canConvert (p : PM) (kg3 : Int32 → Int32 → Int32 → Int32 → Prop) (v1 : Int32) (v2 : Int32) (v3 : Int32) : Prop :=
  kg3 v1 v2 v3 (cn 0)
noncomputable def g7_canConvert (p : PM) (v1 : Int32) (v2 : Int32) (v3 : Int32) : Prop := bg7_canConvert p (g7_canConvert_3 p FU) v1 v2 v3
def R115 : List Row := [(0, .iconst 0, 1, 0, (0, 0, 0, 0, 0, 0)), (1, .istore 4, 2, 0, (0, 0, 0, 0, 0, 0)), (3, .iload 4, 2, 1, (0, 0, 0, 0, 0, 0)), (5, .bipush 8, 2, 0, (0, 0, 0, 0, 0, 8)), (7, .if_icmp .ge 36, 3, 0, (0, 0, 0, 0, 0, 0)), (10, .aload_n 0, 1, 0, (0, 0, 0, 0, 0, 0)), (11, .iload 4, 2, 0, (0, 0, 0, 0, 0, 0)), (13, .invokevirtual 95, 3, 0, (0, 2, 0, 0, 1, 0)), (16, .iload_n 1, 1, 0, (0, 0, 0, 0, 0, 0)), (17, .invokevirtual 111, 3, 0, (1, 2, 0, 0, 2, 0)), (20, .iload_n 2, 1, 0, (0, 0, 0, 0, 0, 0)), (21, .iload_n 3, 1, 0, (0, 0, 0, 0, 0, 0)), (22, .invokestatic 131, 3, 0, (2, 3, 0, 0, 0, 0)), (25, .invokestatic 135, 3, 0, (3, 1, 0, 0, 0, 0)), (28, .ldc2_w 139, 3, 0, (0, 0, 0, 0, 0, 1000000)), (31, .lcmp, 1, 0, (0, 0, 0, 0, 0, 0)), (32, .ifCond .le 5, 3, 0, (0, 0, 0, 0, 0, 0)), (35, .iconst 0, 1, 0, (0, 0, 0, 0, 0, 0)), (36, .ireturn, 1, 0, (1, 0, 0, 0, 0, 0)), (37, .iinc 4 1, 3, 0, (0, 0, 0, 0, 0, 1)), (40, .goto (-37), 3, 0, (0, 0, 0, 0, 0, 0)), (43, .iconst 1, 1, 0, (0, 0, 0, 0, 0, 1)), (44, .ireturn, 1, 0, (1, 0, 0, 0, 0, 0))]
set_option maxRecDepth 100000 in
theorem rk115 : R115.all (rok 0 115 1 [(104, [10, 0]), (2, [3, 0]), (116, [0, 0, 0]), (206, [1])]) = true := by decide +kernel
set_option maxRecDepth 100000 in
theorem tab115 {F104 : PM → Int32 → Nat} {G104 : PM → Int32 → Prop} {F2 : PM → Nat → Int32 → Int32} {G2 : PM → Nat → Int32 → Prop} {F116 : PM → Int32 → Int32 → Int32 → Int64} {G116 : PM → Int32 → Int32 → Int32 → Prop} {F206 : PM → Int64 → Int64} {G206 : PM → Int64 → Prop} : TabOK 0 115 1 [CC104 F104 G104, CC2 F2 G2, CC116 F116 G116, CC206 F206 G206] R115 := tab_ok (K := K115) rfl rfl (fun h => d115 h) rk115 (by decide +kernel)
set_option maxRecDepth 100000 in
theorem pc115 : cutpc [3] R115 = true := by decide +kernel
set_option maxRecDepth 100000 in
theorem r7_canConvert_3 (p : PM) (hg : Gr 0 p) (F104 : PM → Int32 → Nat) (G104 : PM → Int32 → Prop) (o104 : CalOK 0 (CC104 F104 G104)) (F2 : PM → Nat → Int32 → Int32) (G2 : PM → Nat → Int32 → Prop) (o2 : CalOK 0 (CC2 F2 G2)) (F116 : PM → Int32 → Int32 → Int32 → Int64) (G116 : PM → Int32 → Int32 → Int32 → Prop) (o116 : CalOK 0 (CC116 F116 G116)) (F206 : PM → Int64 → Int64) (G206 : PM → Int64 → Prop) (o206 : CalOK 0 (CC206 F206 G206)) (kv3 : Int32 → Int32 → Int32 → Int32 → Int32) (kg3 : Int32 → Int32 → Int32 → Int32 → Prop) (hk3 : ∀ (v1 : Int32) (v2 : Int32) (v3 : Int32) (v4 : Int32), kg3 v1 v2 v3 v4 → ZJ 0 115 3 [zR 7 1, zI v1, zI v2, zI v3, zI v4] [] p (hoI p (kv3 v1 v2 v3 v4))) : ∀ (v1 : Int32) (v2 : Int32) (v3 : Int32) (v4 : Int32), bg7_canConvert_3 p F2 G2 F104 G104 F116 G116 F206 G206 kg3 v1 v2 v3 v4 → ZJ 0 115 3 [zR 7 1, zI v1, zI v2, zI v3, zI v4] [] p (hoI p (bv7_canConvert_3 p F2 F104 F116 F206 kv3 v1 v2 v3 v4)) := by
  intro v1 v2 v3 v4  H
  exact roI (n := 3000) (q := 3) (la := [zR 7 1, zI v1, zI v2, zI v3, zI v4]) (sa := []) (ks := [fun la sa _ => kv3 (ai la 1) (ai la 2) (ai la 3) (ai la 4)]) (gs := [fun la sa _ => zsw (tc2 la [(107, 1), (0, 0), (0, 0), (0, 0), (0, 0)] && tc2 sa []) False (kg3 (ai la 1) (ai la 2) (ai la 3) (ai la 4))]) (fcons o104 (fcons o2 (fcons o116 (fcons o206 (fnil))))) tab115 pc115 ⟨fun la sa s hg H => zcut H fun H => hk3 (ai la 1) (ai la 2) (ai la 3) (ai la 4) H, trivial⟩ hg H
theorem t7_canConvert_3 (p : PM) (hg : Gr 0 p) : ∀ (n : Nat), ∀ (v1 : Int32) (v2 : Int32) (v3 : Int32) (v4 : Int32), g7_canConvert_3 p n v1 v2 v3 v4 → ZJ 0 115 3 [zR 7 1, zI v1, zI v2, zI v3, zI v4] [] p (hoI p (v7_canConvert_3 p n v1 v2 v3 v4)) := by
  intro n
  induction n with
  | zero =>
    intro v1 v2 v3 v4  H
    exact H.elim
  | succ n ih => exact r7_canConvert_3 p hg v7_accountAt g7_accountAt ok104 v0_holds g0_holds ok2 v7_scaled g7_scaled ok116 v14_abs_067f4 g14_abs_067f4 ok206 (v7_canConvert_3 p n) (g7_canConvert_3 p n) ih
set_option maxRecDepth 100000 in
theorem r7_canConvert (p : PM) (hg : Gr 0 p) (F104 : PM → Int32 → Nat) (G104 : PM → Int32 → Prop) (o104 : CalOK 0 (CC104 F104 G104)) (F2 : PM → Nat → Int32 → Int32) (G2 : PM → Nat → Int32 → Prop) (o2 : CalOK 0 (CC2 F2 G2)) (F116 : PM → Int32 → Int32 → Int32 → Int64) (G116 : PM → Int32 → Int32 → Int32 → Prop) (o116 : CalOK 0 (CC116 F116 G116)) (F206 : PM → Int64 → Int64) (G206 : PM → Int64 → Prop) (o206 : CalOK 0 (CC206 F206 G206)) (kv3 : Int32 → Int32 → Int32 → Int32 → Int32) (kg3 : Int32 → Int32 → Int32 → Int32 → Prop) (hk3 : ∀ (v1 : Int32) (v2 : Int32) (v3 : Int32) (v4 : Int32), kg3 v1 v2 v3 v4 → ZJ 0 115 3 [zR 7 1, zI v1, zI v2, zI v3, zI v4] [] p (hoI p (kv3 v1 v2 v3 v4))) : ∀ (v1 : Int32) (v2 : Int32) (v3 : Int32), bg7_canConvert p kg3 v1 v2 v3 → ZJ 0 115 0 [zR 7 1, zI v1, zI v2, zI v3, zJ] [] p (hoI p (bv7_canConvert p kv3 v1 v2 v3)) := by
  intro v1 v2 v3  H
  exact roI (n := 3000) (q := 0) (la := [zR 7 1, zI v1, zI v2, zI v3, zJ]) (sa := []) (ks := [fun la sa _ => kv3 (ai la 1) (ai la 2) (ai la 3) (ai la 4)]) (gs := [fun la sa _ => zsw (tc2 la [(107, 1), (0, 0), (0, 0), (0, 0), (0, 0)] && tc2 sa []) False (kg3 (ai la 1) (ai la 2) (ai la 3) (ai la 4))]) (fcons o104 (fcons o2 (fcons o116 (fcons o206 (fnil))))) tab115 pc115 ⟨fun la sa s hg H => zcut H fun H => hk3 (ai la 1) (ai la 2) (ai la 3) (ai la 4) H, trivial⟩ hg H
theorem t7_canConvert (p : PM) (hg : Gr 0 p) : ∀ (v1 : Int32) (v2 : Int32) (v3 : Int32), g7_canConvert p v1 v2 v3 → ZJ 0 115 0 [zR 7 1, zI v1, zI v2, zI v3, zJ] [] p (hoI p (v7_canConvert p v1 v2 v3)) := r7_canConvert p hg v7_accountAt g7_accountAt ok104 v0_holds g0_holds ok2 v7_scaled g7_scaled ok116 v14_abs_067f4 g14_abs_067f4 ok206 (v7_canConvert_3 p FU) (g7_canConvert_3 p FU) (t7_canConvert_3 p hg FU)
def CC115 (F : PM → Int32 → Int32 → Int32 → Int32) (G : PM → Int32 → Int32 → Int32 → Prop) : Cal := (115, [10, 0, 0, 0], 1, true, fun as p => (zI (F p (ai as 1) (ai as 2) (ai as 3)), p), fun as p => zsw (tc2 as [(107, 1), (0, 0), (0, 0), (0, 0)]) False (G p (ai as 1) (ai as 2) (ai as 3)))
set_option maxRecDepth 100000 in
theorem okr115 (F : PM → Int32 → Int32 → Int32 → Int32) (G : PM → Int32 → Int32 → Int32 → Prop) (h : ∀ (p : PM) (v1 : Int32) (v2 : Int32) (v3 : Int32), Gr 0 p → G p v1 v2 v3 → ZJ 0 115 0 [zR 7 1, zI v1, zI v2, zI v3, zJ] [] p (hoI p (F p v1 v2 v3))) : CalOK 0 (CC115 F G) := cal_ok (m := 5) (by unfold mL; rw [mX_115]) (fun as p hg H => h p (ai as 1) (ai as 2) (ai as 3) hg H)
theorem ok115 : CalOK 0 (CC115 v7_canConvert g7_canConvert) := okr115 v7_canConvert g7_canConvert (fun p v1 v2 v3 hg H => t7_canConvert p hg v1 v2 v3 H)
