/-! methods as functions over one part, by program (wip/p50/lift.py) -/
noncomputable def bv8_share_82 (F209 : PM → Int32 → Int32 → Int32) (kv82 : PM → Int32 → Int32 → Int32 → PM) (p : PM) (v4 : Int32) (v5 : Int32) (v6 : Int32) : PM :=
  if v6 < v4 then (
    let p1 : PM := pI p 13 19 (v6).toNatClampNeg (F209 p v5 (p.1 10 (p.2.2 20 2 (v6).toNatClampNeg) 11))
    let x2 : Int32 := (v5 - (p1.1 13 19 (v6).toNatClampNeg))
    kv82 p1 v4 x2 (v6 + (cn 1)))
  else (
    p)
noncomputable def v8_share_82 (n : Nat) : PM → Int32 → Int32 → Int32 → PM := Nat.rec (motive := fun _ => PM → Int32 → Int32 → Int32 → PM) (fun p _ _ _ => p) (fun _ ih => bv8_share_82 v14_min_7cf53 ih) n
theorem ev8_share_82 (n : Nat) (p : PM) (v4 : Int32) (v5 : Int32) (v6 : Int32) : v8_share_82 (n + 1) p v4 v5 v6 = bv8_share_82 v14_min_7cf53 (v8_share_82 n) p v4 v5 v6 := rfl
noncomputable def bg8_share_82 (F209 : PM → Int32 → Int32 → Int32) (G209 : PM → Int32 → Int32 → Prop) (kg82 : PM → Int32 → Int32 → Int32 → Prop) (p : PM) (v4 : Int32) (v5 : Int32) (v6 : Int32) : Prop :=
  if v6 < v4 then (
    (inb v6 40) ∧ (
    (¬ (p.2.2 20 2 (v6).toNatClampNeg) = 0) ∧ (
    (G209 p v5 (p.1 10 (p.2.2 20 2 (v6).toNatClampNeg) 11)) ∧ (
    (inb v6 40) ∧ (
    let p1 : PM := pI p 13 19 (v6).toNatClampNeg (F209 p v5 (p.1 10 (p.2.2 20 2 (v6).toNatClampNeg) 11))
    (inb v6 40) ∧ (
    let x2 : Int32 := (v5 - (p1.1 13 19 (v6).toNatClampNeg))
    kg82 p1 v4 x2 (v6 + (cn 1))))))))
  else (
    True)
noncomputable def g8_share_82 (n : Nat) : PM → Int32 → Int32 → Int32 → Prop := Nat.rec (motive := fun _ => PM → Int32 → Int32 → Int32 → Prop) (fun _ _ _ _ => False) (fun _ ih => bg8_share_82 v14_min_7cf53 g14_min_7cf53 ih) n
theorem eg8_share_82 (n : Nat) (p : PM) (v4 : Int32) (v5 : Int32) (v6 : Int32) : g8_share_82 (n + 1) p v4 v5 v6 = bg8_share_82 v14_min_7cf53 g14_min_7cf53 (g8_share_82 n) p v4 v5 v6 := rfl
noncomputable def bv8_share_25 (F126 : PM → Int32 → Int32 → Int32 → Int32 × PM) (F127 : PM → Int32 → Int32 → PM) (kv25 : PM → Nat → Int32 → Int32 → Int32 → Int32 → PM) (kv82 : PM → Int32 → Int32 → Int32 → PM) (p : PM) (v1 : Nat) (v2 : Int32) (v4 : Int32) (v5 : Int32) (v6 : Int32) : PM :=
  if v6 < v4 then (
    let p3 : PM := pI p 13 19 (v6).toNatClampNeg (cn 0)
    kv25 p3 v1 v2 v4 v5 (v6 + (cn 1)))
  else (
    if (p.1 1 v1 9) = (cn 1) then (
      let r1 : Int32 × PM := F126 p (p.1 1 v1 10) v2 v4
      let p2 : PM := F127 r1.2 (v5 - r1.1) v4
      p2)
    else (
      kv82 p v4 v5 (cn 0)))
noncomputable def v8_share_25 (n : Nat) : PM → Nat → Int32 → Int32 → Int32 → Int32 → PM := Nat.rec (motive := fun _ => PM → Nat → Int32 → Int32 → Int32 → Int32 → PM) (fun p _ _ _ _ _ => p) (fun _ ih => bv8_share_25 v8_giveTop v8_giveShares ih (v8_share_82 FU)) n
theorem ev8_share_25 (n : Nat) (p : PM) (v1 : Nat) (v2 : Int32) (v4 : Int32) (v5 : Int32) (v6 : Int32) : v8_share_25 (n + 1) p v1 v2 v4 v5 v6 = bv8_share_25 v8_giveTop v8_giveShares (v8_share_25 n) (v8_share_82 FU) p v1 v2 v4 v5 v6 := rfl
noncomputable def bg8_share_25 (F126 : PM → Int32 → Int32 → Int32 → Int32 × PM) (G126 : PM → Int32 → Int32 → Int32 → Prop) (F127 : PM → Int32 → Int32 → PM) (G127 : PM → Int32 → Int32 → Prop) (kg25 : PM → Nat → Int32 → Int32 → Int32 → Int32 → Prop) (kg82 : PM → Int32 → Int32 → Int32 → Prop) (p : PM) (v1 : Nat) (v2 : Int32) (v4 : Int32) (v5 : Int32) (v6 : Int32) : Prop :=
  if v6 < v4 then (
    (inb v6 40) ∧ (
    let p3 : PM := pI p 13 19 (v6).toNatClampNeg (cn 0)
    kg25 p3 v1 v2 v4 v5 (v6 + (cn 1))))
  else (
    (¬ v1 = 0) ∧ (
    if (p.1 1 v1 9) = (cn 1) then (
      (¬ v1 = 0) ∧ (
      (G126 p (p.1 1 v1 10) v2 v4) ∧ (
      let r1 : Int32 × PM := F126 p (p.1 1 v1 10) v2 v4
      (G127 r1.2 (v5 - r1.1) v4) ∧ (
      let p2 : PM := F127 r1.2 (v5 - r1.1) v4
      True))))
    else (
      kg82 p v4 v5 (cn 0))))
noncomputable def g8_share_25 (n : Nat) : PM → Nat → Int32 → Int32 → Int32 → Int32 → Prop := Nat.rec (motive := fun _ => PM → Nat → Int32 → Int32 → Int32 → Int32 → Prop) (fun _ _ _ _ _ _ => False) (fun _ ih => bg8_share_25 v8_giveTop g8_giveTop v8_giveShares g8_giveShares ih (g8_share_82 FU)) n
theorem eg8_share_25 (n : Nat) (p : PM) (v1 : Nat) (v2 : Int32) (v4 : Int32) (v5 : Int32) (v6 : Int32) : g8_share_25 (n + 1) p v1 v2 v4 v5 v6 = bg8_share_25 v8_giveTop g8_giveTop v8_giveShares g8_giveShares (g8_share_25 n) (g8_share_82 FU) p v1 v2 v4 v5 v6 := rfl
noncomputable def bv8_share (F209 : PM → Int32 → Int32 → Int32) (kv25 : PM → Nat → Int32 → Int32 → Int32 → Int32 → PM) (p : PM) (v1 : Nat) (v2 : Int32) (v3 : Int32) : PM :=
  let x1 : Int32 := (F209 p v3 (F209 p (cn 40) (cn 40)))
  kv25 p v1 v2 x1 v2 (cn 0)
noncomputable def v8_share (p : PM) (v1 : Nat) (v2 : Int32) (v3 : Int32) : PM := bv8_share v14_min_7cf53 (v8_share_25 FU) p v1 v2 v3
noncomputable def bg8_share (F209 : PM → Int32 → Int32 → Int32) (G209 : PM → Int32 → Int32 → Prop) (kg25 : PM → Nat → Int32 → Int32 → Int32 → Int32 → Prop) (p : PM) (v1 : Nat) (v2 : Int32) (v3 : Int32) : Prop :=
  (G209 p (cn 40) (cn 40)) ∧ (
  (G209 p v3 (F209 p (cn 40) (cn 40))) ∧ (
  let x1 : Int32 := (F209 p v3 (F209 p (cn 40) (cn 40)))
  kg25 p v1 v2 x1 v2 (cn 0)))
noncomputable def g8_share (p : PM) (v1 : Nat) (v2 : Int32) (v3 : Int32) : Prop := bg8_share v14_min_7cf53 g14_min_7cf53 (g8_share_25 FU) p v1 v2 v3
def R125 : List Row := [(0, .iload_n 3, 1, 0, (0, 0, 0, 0, 0, 0)), (1, .aload_n 0, 1, 0, (0, 0, 0, 0, 0, 0)), (2, .getfield 11, 3, 0, (8, 2, 23, 2, 2, 0)), (5, .arraylength, 1, 0, (20, 40, 0, 0, 0, 40)), (6, .aload_n 0, 1, 0, (0, 0, 0, 0, 0, 0)), (7, .getfield 17, 3, 0, (8, 3, 16, 2, 19, 0)), (10, .arraylength, 1, 0, (13, 40, 0, 0, 0, 40)), (11, .invokestatic 128, 3, 0, (0, 2, 0, 0, 0, 0)), (14, .invokestatic 128, 3, 0, (0, 2, 0, 0, 0, 0)), (17, .istore 4, 2, 0, (0, 0, 0, 0, 0, 0)), (19, .iload_n 2, 1, 0, (0, 0, 0, 0, 0, 0)), (20, .istore 5, 2, 0, (0, 0, 0, 0, 0, 0)), (22, .iconst 0, 1, 0, (0, 0, 0, 0, 0, 0)), (23, .istore 6, 2, 0, (0, 0, 0, 0, 0, 0)), (25, .iload 6, 2, 1, (0, 0, 0, 0, 0, 0)), (27, .iload 4, 2, 0, (0, 0, 0, 0, 0, 0)), (29, .if_icmp .ge 17, 3, 0, (0, 0, 0, 0, 0, 0)), (32, .aload_n 0, 1, 0, (0, 0, 0, 0, 0, 0)), (33, .getfield 17, 3, 0, (8, 3, 16, 2, 19, 0)), (36, .iload 6, 2, 0, (0, 0, 0, 0, 0, 0)), (38, .iconst 0, 1, 0, (0, 0, 0, 0, 0, 0)), (39, .iastore, 1, 0, (13, 40, 0, 0, 0, 0)), (40, .iinc 6 1, 3, 0, (0, 0, 0, 0, 0, 1)), (43, .goto (-18), 3, 0, (0, 0, 0, 0, 0, 0)), (46, .aload_n 1, 1, 0, (0, 0, 0, 0, 0, 0)), (47, .getfield 119, 3, 0, (1, 9, 0, 0, 0, 0)), (50, .iconst 1, 1, 0, (0, 0, 0, 0, 0, 1)), (51, .if_icmp .ne 28, 3, 0, (0, 0, 0, 0, 0, 0)), (54, .iload 5, 2, 0, (0, 0, 0, 0, 0, 0)), (56, .aload_n 0, 1, 0, (0, 0, 0, 0, 0, 0)), (57, .aload_n 1, 1, 0, (0, 0, 0, 0, 0, 0)), (58, .getfield 134, 3, 0, (1, 10, 0, 0, 0, 0)), (61, .iload_n 2, 1, 0, (0, 0, 0, 0, 0, 0)), (62, .iload 4, 2, 0, (0, 0, 0, 0, 0, 0)), (64, .invokevirtual 137, 3, 0, (1, 4, 0, 0, 1, 0)), (67, .isub, 1, 0, (0, 0, 0, 0, 0, 0)), (68, .istore 5, 2, 0, (0, 0, 0, 0, 0, 0)), (70, .aload_n 0, 1, 0, (0, 0, 0, 0, 0, 0)), (71, .iload 5, 2, 0, (0, 0, 0, 0, 0, 0)), (73, .iload 4, 2, 0, (0, 0, 0, 0, 0, 0)), (75, .invokevirtual 141, 3, 0, (2, 3, 0, 0, 1, 0)), (78, .return_, 1, 0, (0, 0, 0, 0, 0, 0)), (79, .iconst 0, 1, 0, (0, 0, 0, 0, 0, 0)), (80, .istore 6, 2, 0, (0, 0, 0, 0, 0, 0)), (82, .iload 6, 2, 2, (0, 0, 0, 0, 0, 0)), (84, .iload 4, 2, 0, (0, 0, 0, 0, 0, 0)), (86, .if_icmp .ge 43, 3, 0, (0, 0, 0, 0, 0, 0)), (89, .aload_n 0, 1, 0, (0, 0, 0, 0, 0, 0)), (90, .getfield 17, 3, 0, (8, 3, 16, 2, 19, 0)), (93, .iload 6, 2, 0, (0, 0, 0, 0, 0, 0)), (95, .iload 5, 2, 0, (0, 0, 0, 0, 0, 0)), (97, .aload_n 0, 1, 0, (0, 0, 0, 0, 0, 0)), (98, .getfield 11, 3, 0, (8, 2, 23, 2, 2, 0)), (101, .iload 6, 2, 0, (0, 0, 0, 0, 0, 0)), (103, .aaload, 1, 0, (20, 40, 0, 0, 0, 0)), (104, .getfield 122, 3, 0, (10, 11, 0, 0, 0, 0)), (107, .invokestatic 128, 3, 0, (0, 2, 0, 0, 0, 0)), (110, .iastore, 1, 0, (13, 40, 0, 0, 0, 0)), (111, .iload 5, 2, 0, (0, 0, 0, 0, 0, 0)), (113, .aload_n 0, 1, 0, (0, 0, 0, 0, 0, 0)), (114, .getfield 17, 3, 0, (8, 3, 16, 2, 19, 0)), (117, .iload 6, 2, 0, (0, 0, 0, 0, 0, 0)), (119, .iaload, 1, 0, (13, 40, 0, 0, 0, 0)), (120, .isub, 1, 0, (0, 0, 0, 0, 0, 0)), (121, .istore 5, 2, 0, (0, 0, 0, 0, 0, 0)), (123, .iinc 6 1, 3, 0, (0, 0, 0, 0, 0, 1)), (126, .goto (-44), 3, 0, (0, 0, 0, 0, 0, 0)), (129, .return_, 1, 0, (0, 0, 0, 0, 0, 0))]
set_option maxRecDepth 100000 in
theorem rk125 : R125.all (rok 0 125 0 [(209, [0, 0]), (126, [11, 0, 0, 0]), (127, [11, 0, 0])]) = true := by decide +kernel
set_option maxRecDepth 100000 in
theorem tab125 {F209 : PM → Int32 → Int32 → Int32} {G209 : PM → Int32 → Int32 → Prop} {F126 : PM → Int32 → Int32 → Int32 → Int32 × PM} {G126 : PM → Int32 → Int32 → Int32 → Prop} {F127 : PM → Int32 → Int32 → PM} {G127 : PM → Int32 → Int32 → Prop} : TabOK 0 125 0 [CC209 F209 G209, CC126 F126 G126, CC127 F127 G127] R125 := tab_ok (K := K125) rfl rfl (fun h => d125 h) rk125 (by decide +kernel)
set_option maxRecDepth 100000 in
theorem pc125 : cutpc [25, 82] R125 = true := by decide +kernel
set_option maxRecDepth 100000 in
theorem r8_share_82 (F209 : PM → Int32 → Int32 → Int32) (G209 : PM → Int32 → Int32 → Prop) (o209 : CalOK 0 (CC209 F209 G209)) (F126 : PM → Int32 → Int32 → Int32 → Int32 × PM) (G126 : PM → Int32 → Int32 → Int32 → Prop) (o126 : CalOK 0 (CC126 F126 G126)) (F127 : PM → Int32 → Int32 → PM) (G127 : PM → Int32 → Int32 → Prop) (o127 : CalOK 0 (CC127 F127 G127)) (kv82 : PM → Int32 → Int32 → Int32 → PM) (kg82 : PM → Int32 → Int32 → Int32 → Prop) (hk82 : ∀ (p : PM) (v4 : Int32) (v5 : Int32) (v6 : Int32) (d1 d2 d3 : ZV), Gr 0 p → kg82 p v4 v5 v6 → ZJ 0 125 82 [zR 8 1, d1, d2, d3, zI v4, zI v5, zI v6] [] p (hwV (kv82 p v4 v5 v6))) : ∀ (p : PM) (v4 : Int32) (v5 : Int32) (v6 : Int32) (d1 d2 d3 : ZV), Gr 0 p → bg8_share_82 F209 G209 kg82 p v4 v5 v6 → ZJ 0 125 82 [zR 8 1, d1, d2, d3, zI v4, zI v5, zI v6] [] p (hwV (bv8_share_82 F209 kv82 p v4 v5 v6)) := by
  intro p v4 v5 v6 d1 d2 d3 hg H
  exact rwV (n := 3000) (q := 82) (la := [zR 8 1, d1, d2, d3, zI v4, zI v5, zI v6]) (sa := []) (ks := [fun _ _ s => s, fun la sa s => kv82 s (ai la 4) (ai la 5) (ai la 6)]) (gs := [fun _ _ _ => False, fun la sa s => zsw (tc2 la [(108, 1), (2, 0), (2, 0), (2, 0), (0, 0), (0, 0), (0, 0)] && tc2 sa []) False (kg82 s (ai la 4) (ai la 5) (ai la 6))]) (fcons o209 (fcons o126 (fcons o127 (fnil)))) tab125 pc125 ⟨fun _ _ _ _ H => H.elim, fun la sa s hg H => zcut H fun H => hk82 s (ai la 4) (ai la 5) (ai la 6) (zld la 1) (zld la 2) (zld la 3) hg H, trivial⟩ hg H
theorem t8_share_82 : ∀ (n : Nat), ∀ (p : PM) (v4 : Int32) (v5 : Int32) (v6 : Int32) (d1 d2 d3 : ZV), Gr 0 p → g8_share_82 n p v4 v5 v6 → ZJ 0 125 82 [zR 8 1, d1, d2, d3, zI v4, zI v5, zI v6] [] p (hwV (v8_share_82 n p v4 v5 v6)) := by
  intro n
  induction n with
  | zero =>
    intro p v4 v5 v6 d1 d2 d3 hg H
    exact H.elim
  | succ n ih => exact r8_share_82 v14_min_7cf53 g14_min_7cf53 ok209 v8_giveTop g8_giveTop ok126 v8_giveShares g8_giveShares ok127 (v8_share_82 n) (g8_share_82 n) ih
set_option maxRecDepth 100000 in
theorem r8_share_25 (F209 : PM → Int32 → Int32 → Int32) (G209 : PM → Int32 → Int32 → Prop) (o209 : CalOK 0 (CC209 F209 G209)) (F126 : PM → Int32 → Int32 → Int32 → Int32 × PM) (G126 : PM → Int32 → Int32 → Int32 → Prop) (o126 : CalOK 0 (CC126 F126 G126)) (F127 : PM → Int32 → Int32 → PM) (G127 : PM → Int32 → Int32 → Prop) (o127 : CalOK 0 (CC127 F127 G127)) (kv25 : PM → Nat → Int32 → Int32 → Int32 → Int32 → PM) (kg25 : PM → Nat → Int32 → Int32 → Int32 → Int32 → Prop) (hk25 : ∀ (p : PM) (v1 : Nat) (v2 : Int32) (v4 : Int32) (v5 : Int32) (v6 : Int32) (d3 : ZV), Gr 0 p → kg25 p v1 v2 v4 v5 v6 → ZJ 0 125 25 [zR 8 1, zR 1 v1, zI v2, d3, zI v4, zI v5, zI v6] [] p (hwV (kv25 p v1 v2 v4 v5 v6))) (kv82 : PM → Int32 → Int32 → Int32 → PM) (kg82 : PM → Int32 → Int32 → Int32 → Prop) (hk82 : ∀ (p : PM) (v4 : Int32) (v5 : Int32) (v6 : Int32) (d1 d2 d3 : ZV), Gr 0 p → kg82 p v4 v5 v6 → ZJ 0 125 82 [zR 8 1, d1, d2, d3, zI v4, zI v5, zI v6] [] p (hwV (kv82 p v4 v5 v6))) : ∀ (p : PM) (v1 : Nat) (v2 : Int32) (v4 : Int32) (v5 : Int32) (v6 : Int32) (d3 : ZV), Gr 0 p → bg8_share_25 F126 G126 F127 G127 kg25 kg82 p v1 v2 v4 v5 v6 → ZJ 0 125 25 [zR 8 1, zR 1 v1, zI v2, d3, zI v4, zI v5, zI v6] [] p (hwV (bv8_share_25 F126 F127 kv25 kv82 p v1 v2 v4 v5 v6)) := by
  intro p v1 v2 v4 v5 v6 d3 hg H
  exact rwV (n := 3000) (q := 25) (la := [zR 8 1, zR 1 v1, zI v2, d3, zI v4, zI v5, zI v6]) (sa := []) (ks := [fun la sa s => kv25 s (ar la 1) (ai la 2) (ai la 4) (ai la 5) (ai la 6), fun la sa s => kv82 s (ai la 4) (ai la 5) (ai la 6)]) (gs := [fun la sa s => zsw (tc2 la [(108, 1), (5, 0), (0, 0), (2, 0), (0, 0), (0, 0), (0, 0)] && tc2 sa []) False (kg25 s (ar la 1) (ai la 2) (ai la 4) (ai la 5) (ai la 6)), fun la sa s => zsw (tc2 la [(108, 1), (2, 0), (2, 0), (2, 0), (0, 0), (0, 0), (0, 0)] && tc2 sa []) False (kg82 s (ai la 4) (ai la 5) (ai la 6))]) (fcons o209 (fcons o126 (fcons o127 (fnil)))) tab125 pc125 ⟨fun la sa s hg H => zcut H fun H => hk25 s (ar la 1) (ai la 2) (ai la 4) (ai la 5) (ai la 6) (zld la 3) hg H, fun la sa s hg H => zcut H fun H => hk82 s (ai la 4) (ai la 5) (ai la 6) (zld la 1) (zld la 2) (zld la 3) hg H, trivial⟩ hg H
theorem t8_share_25 : ∀ (n : Nat), ∀ (p : PM) (v1 : Nat) (v2 : Int32) (v4 : Int32) (v5 : Int32) (v6 : Int32) (d3 : ZV), Gr 0 p → g8_share_25 n p v1 v2 v4 v5 v6 → ZJ 0 125 25 [zR 8 1, zR 1 v1, zI v2, d3, zI v4, zI v5, zI v6] [] p (hwV (v8_share_25 n p v1 v2 v4 v5 v6)) := by
  intro n
  induction n with
  | zero =>
    intro p v1 v2 v4 v5 v6 d3 hg H
    exact H.elim
  | succ n ih => exact r8_share_25 v14_min_7cf53 g14_min_7cf53 ok209 v8_giveTop g8_giveTop ok126 v8_giveShares g8_giveShares ok127 (v8_share_25 n) (g8_share_25 n) ih (v8_share_82 FU) (g8_share_82 FU) (t8_share_82 FU)
set_option maxRecDepth 100000 in
theorem r8_share (F209 : PM → Int32 → Int32 → Int32) (G209 : PM → Int32 → Int32 → Prop) (o209 : CalOK 0 (CC209 F209 G209)) (F126 : PM → Int32 → Int32 → Int32 → Int32 × PM) (G126 : PM → Int32 → Int32 → Int32 → Prop) (o126 : CalOK 0 (CC126 F126 G126)) (F127 : PM → Int32 → Int32 → PM) (G127 : PM → Int32 → Int32 → Prop) (o127 : CalOK 0 (CC127 F127 G127)) (kv25 : PM → Nat → Int32 → Int32 → Int32 → Int32 → PM) (kg25 : PM → Nat → Int32 → Int32 → Int32 → Int32 → Prop) (hk25 : ∀ (p : PM) (v1 : Nat) (v2 : Int32) (v4 : Int32) (v5 : Int32) (v6 : Int32) (d3 : ZV), Gr 0 p → kg25 p v1 v2 v4 v5 v6 → ZJ 0 125 25 [zR 8 1, zR 1 v1, zI v2, d3, zI v4, zI v5, zI v6] [] p (hwV (kv25 p v1 v2 v4 v5 v6))) : ∀ (p : PM) (v1 : Nat) (v2 : Int32) (v3 : Int32), Gr 0 p → bg8_share F209 G209 kg25 p v1 v2 v3 → ZJ 0 125 0 [zR 8 1, zR 1 v1, zI v2, zI v3, zJ, zJ, zJ] [] p (hwV (bv8_share F209 kv25 p v1 v2 v3)) := by
  intro p v1 v2 v3  hg H
  exact rwV (n := 3000) (q := 0) (la := [zR 8 1, zR 1 v1, zI v2, zI v3, zJ, zJ, zJ]) (sa := []) (ks := [fun la sa s => kv25 s (ar la 1) (ai la 2) (ai la 4) (ai la 5) (ai la 6), fun _ _ s => s]) (gs := [fun la sa s => zsw (tc2 la [(108, 1), (5, 0), (0, 0), (2, 0), (0, 0), (0, 0), (0, 0)] && tc2 sa []) False (kg25 s (ar la 1) (ai la 2) (ai la 4) (ai la 5) (ai la 6)), fun _ _ _ => False]) (fcons o209 (fcons o126 (fcons o127 (fnil)))) tab125 pc125 ⟨fun la sa s hg H => zcut H fun H => hk25 s (ar la 1) (ai la 2) (ai la 4) (ai la 5) (ai la 6) (zld la 3) hg H, fun _ _ _ _ H => H.elim, trivial⟩ hg H
theorem t8_share : ∀ (p : PM) (v1 : Nat) (v2 : Int32) (v3 : Int32), Gr 0 p → g8_share p v1 v2 v3 → ZJ 0 125 0 [zR 8 1, zR 1 v1, zI v2, zI v3, zJ, zJ, zJ] [] p (hwV (v8_share p v1 v2 v3)) := r8_share v14_min_7cf53 g14_min_7cf53 ok209 v8_giveTop g8_giveTop ok126 v8_giveShares g8_giveShares ok127 (v8_share_25 FU) (g8_share_25 FU) (t8_share_25 FU)
def CC125 (F : PM → Nat → Int32 → Int32 → PM) (G : PM → Nat → Int32 → Int32 → Prop) : Cal := (125, [11, 4, 0, 0], 0, false, fun as p => (zJ, (F p (ar as 1) (ai as 2) (ai as 3))), fun as p => zsw (tc2 as [(108, 1), (5, 0), (0, 0), (0, 0)]) False (G p (ar as 1) (ai as 2) (ai as 3)))
set_option maxRecDepth 100000 in
theorem okr125 (F : PM → Nat → Int32 → Int32 → PM) (G : PM → Nat → Int32 → Int32 → Prop) (h : ∀ (p : PM) (v1 : Nat) (v2 : Int32) (v3 : Int32), Gr 0 p → G p v1 v2 v3 → ZJ 0 125 0 [zR 8 1, zR 1 v1, zI v2, zI v3, zJ, zJ, zJ] [] p (hwV (F p v1 v2 v3))) : CalOK 0 (CC125 F G) := cal_ok (m := 7) (by unfold mL; rw [mX_125]) (fun as p hg H => h p (ar as 1) (ai as 2) (ai as 3) hg H)
theorem ok125 : CalOK 0 (CC125 v8_share g8_share) := okr125 v8_share g8_share t8_share
noncomputable def bv8_strike (F89 : PM → Nat → Int32 → PM) (F105 : PM → Nat → Nat → Nat → Int32 → Int32 → PM) (F149 : PM → Nat → Int32 → PM) (p : PM) (v1 : Nat) (v2 : Nat) (v3 : Int32) (v4 : Int32) : PM :=
  if (p.1 10 v1 5) = 0 then (
    if (p.1 10 v1 5) = 0 then (
      let p1 : PM := F105 p (p.2.2 10 v1 4) (p.2.2 10 v2 3) (p.2.2 10 v1 3) v3 v4
      let p2 : PM := F149 p1 v1 v4
      let p3 : PM := F149 p2 v2 v4
      let p4 : PM := F89 p3 v2 v4
      let p5 : PM := F89 p4 v1 v4
      p5)
    else (
      let p6 : PM := F105 p (p.2.2 10 v1 4) (p.2.2 10 v2 3) (p.2.2 10 v2 3) v3 v4
      let p7 : PM := F149 p6 v1 v4
      let p8 : PM := F149 p7 v2 v4
      let p9 : PM := F89 p8 v2 v4
      let p10 : PM := F89 p9 v1 v4
      p10))
  else (
    if (p.1 10 v1 5) = 0 then (
      let p11 : PM := F105 p (p.2.2 10 v1 4) (p.2.2 10 v1 3) (p.2.2 10 v1 3) v3 v4
      let p12 : PM := F149 p11 v1 v4
      let p13 : PM := F149 p12 v2 v4
      let p14 : PM := F89 p13 v2 v4
      let p15 : PM := F89 p14 v1 v4
      p15)
    else (
      let p16 : PM := F105 p (p.2.2 10 v1 4) (p.2.2 10 v1 3) (p.2.2 10 v2 3) v3 v4
      let p17 : PM := F149 p16 v1 v4
      let p18 : PM := F149 p17 v2 v4
      let p19 : PM := F89 p18 v2 v4
      let p20 : PM := F89 p19 v1 v4
      p20))
noncomputable def v8_strike (p : PM) (v1 : Nat) (v2 : Nat) (v3 : Int32) (v4 : Int32) : PM := bv8_strike v6_guard v7_record v10_fall p v1 v2 v3 v4
noncomputable def bg8_strike (F89 : PM → Nat → Int32 → PM) (G89 : PM → Nat → Int32 → Prop) (F105 : PM → Nat → Nat → Nat → Int32 → Int32 → PM) (G105 : PM → Nat → Nat → Nat → Int32 → Int32 → Prop) (F149 : PM → Nat → Int32 → PM) (G149 : PM → Nat → Int32 → Prop) (p : PM) (v1 : Nat) (v2 : Nat) (v3 : Int32) (v4 : Int32) : Prop :=
  (¬ v1 = 0) ∧ (
  if (p.1 10 v1 5) = 0 then (
    (¬ v2 = 0) ∧ (
    (¬ v1 = 0) ∧ (
    if (p.1 10 v1 5) = 0 then (
      (¬ v1 = 0) ∧ (
      (¬ v1 = 0) ∧ (
      (G105 p (p.2.2 10 v1 4) (p.2.2 10 v2 3) (p.2.2 10 v1 3) v3 v4) ∧ (
      let p1 : PM := F105 p (p.2.2 10 v1 4) (p.2.2 10 v2 3) (p.2.2 10 v1 3) v3 v4
      (¬ v1 = 0) ∧ (
      (G149 p1 v1 v4) ∧ (
      let p2 : PM := F149 p1 v1 v4
      (¬ v2 = 0) ∧ (
      (G149 p2 v2 v4) ∧ (
      let p3 : PM := F149 p2 v2 v4
      (G89 p3 v2 v4) ∧ (
      let p4 : PM := F89 p3 v2 v4
      (G89 p4 v1 v4) ∧ (
      let p5 : PM := F89 p4 v1 v4
      True))))))))))
    else (
      (¬ v2 = 0) ∧ (
      (¬ v1 = 0) ∧ (
      (G105 p (p.2.2 10 v1 4) (p.2.2 10 v2 3) (p.2.2 10 v2 3) v3 v4) ∧ (
      let p6 : PM := F105 p (p.2.2 10 v1 4) (p.2.2 10 v2 3) (p.2.2 10 v2 3) v3 v4
      (¬ v1 = 0) ∧ (
      (G149 p6 v1 v4) ∧ (
      let p7 : PM := F149 p6 v1 v4
      (¬ v2 = 0) ∧ (
      (G149 p7 v2 v4) ∧ (
      let p8 : PM := F149 p7 v2 v4
      (G89 p8 v2 v4) ∧ (
      let p9 : PM := F89 p8 v2 v4
      (G89 p9 v1 v4) ∧ (
      let p10 : PM := F89 p9 v1 v4
      True)))))))))))))
  else (
    (¬ v1 = 0) ∧ (
    (¬ v1 = 0) ∧ (
    if (p.1 10 v1 5) = 0 then (
      (¬ v1 = 0) ∧ (
      (¬ v1 = 0) ∧ (
      (G105 p (p.2.2 10 v1 4) (p.2.2 10 v1 3) (p.2.2 10 v1 3) v3 v4) ∧ (
      let p11 : PM := F105 p (p.2.2 10 v1 4) (p.2.2 10 v1 3) (p.2.2 10 v1 3) v3 v4
      (¬ v1 = 0) ∧ (
      (G149 p11 v1 v4) ∧ (
      let p12 : PM := F149 p11 v1 v4
      (¬ v2 = 0) ∧ (
      (G149 p12 v2 v4) ∧ (
      let p13 : PM := F149 p12 v2 v4
      (G89 p13 v2 v4) ∧ (
      let p14 : PM := F89 p13 v2 v4
      (G89 p14 v1 v4) ∧ (
      let p15 : PM := F89 p14 v1 v4
      True))))))))))
    else (
      (¬ v2 = 0) ∧ (
      (¬ v1 = 0) ∧ (
      (G105 p (p.2.2 10 v1 4) (p.2.2 10 v1 3) (p.2.2 10 v2 3) v3 v4) ∧ (
      let p16 : PM := F105 p (p.2.2 10 v1 4) (p.2.2 10 v1 3) (p.2.2 10 v2 3) v3 v4
      (¬ v1 = 0) ∧ (
      (G149 p16 v1 v4) ∧ (
      let p17 : PM := F149 p16 v1 v4
      (¬ v2 = 0) ∧ (
      (G149 p17 v2 v4) ∧ (
      let p18 : PM := F149 p17 v2 v4
      (G89 p18 v2 v4) ∧ (
      let p19 : PM := F89 p18 v2 v4
      (G89 p19 v1 v4) ∧ (
      let p20 : PM := F89 p19 v1 v4
      True))))))))))))))
noncomputable def g8_strike (p : PM) (v1 : Nat) (v2 : Nat) (v3 : Int32) (v4 : Int32) : Prop := bg8_strike v6_guard g6_guard v7_record g7_record v10_fall g10_fall p v1 v2 v3 v4
def R128 : List Row := [(0, .aload_n 1, 1, 0, (0, 0, 0, 0, 0, 0)), (1, .getfield 38, 3, 0, (10, 5, 1, 0, 0, 0)), (4, .ifCond .eq 10, 3, 0, (0, 0, 0, 0, 0, 0)), (7, .aload_n 1, 1, 0, (0, 0, 0, 0, 0, 0)), (8, .getfield 46, 3, 0, (10, 3, 3, 0, 0, 0)), (11, .goto 7, 3, 0, (0, 0, 0, 0, 0, 0)), (14, .aload_n 2, 1, 0, (0, 0, 0, 0, 0, 0)), (15, .getfield 46, 3, 0, (10, 3, 3, 0, 0, 0)), (18, .astore 5, 2, 0, (0, 0, 0, 0, 0, 0)), (20, .aload_n 1, 1, 0, (0, 0, 0, 0, 0, 0)), (21, .getfield 38, 3, 0, (10, 5, 1, 0, 0, 0)), (24, .ifCond .eq 10, 3, 0, (0, 0, 0, 0, 0, 0)), (27, .aload_n 2, 1, 0, (0, 0, 0, 0, 0, 0)), (28, .getfield 46, 3, 0, (10, 3, 3, 0, 0, 0)), (31, .goto 7, 3, 0, (0, 0, 0, 0, 0, 0)), (34, .aload_n 1, 1, 0, (0, 0, 0, 0, 0, 0)), (35, .getfield 46, 3, 0, (10, 3, 3, 0, 0, 0)), (38, .astore 6, 2, 0, (0, 0, 0, 0, 0, 0)), (40, .aload_n 0, 1, 0, (0, 0, 0, 0, 0, 0)), (41, .getfield 25, 3, 0, (8, 1, 10, 2, 1, 0)), (44, .aload_n 1, 1, 0, (0, 0, 0, 0, 0, 0)), (45, .getfield 34, 3, 0, (10, 4, 4, 0, 0, 0)), (48, .aload 5, 2, 0, (0, 0, 0, 0, 0, 0)), (50, .aload 6, 2, 0, (0, 0, 0, 0, 0, 0)), (52, .iload_n 3, 1, 0, (0, 0, 0, 0, 0, 0)), (53, .iload 4, 2, 0, (0, 0, 0, 0, 0, 0)), (55, .invokevirtual 145, 3, 0, (0, 6, 0, 0, 1, 0)), (58, .aload_n 1, 1, 0, (0, 0, 0, 0, 0, 0)), (59, .iload 4, 2, 0, (0, 0, 0, 0, 0, 0)), (61, .invokevirtual 151, 3, 0, (1, 2, 0, 0, 2, 0)), (64, .aload_n 2, 1, 0, (0, 0, 0, 0, 0, 0)), (65, .iload 4, 2, 0, (0, 0, 0, 0, 0, 0)), (67, .invokevirtual 151, 3, 0, (1, 2, 0, 0, 2, 0)), (70, .aload_n 0, 1, 0, (0, 0, 0, 0, 0, 0)), (71, .getfield 21, 3, 0, (8, 0, 9, 2, 1, 0)), (74, .aload_n 2, 1, 0, (0, 0, 0, 0, 0, 0)), (75, .iload 4, 2, 0, (0, 0, 0, 0, 0, 0)), (77, .invokevirtual 155, 3, 0, (2, 3, 0, 0, 1, 0)), (80, .aload_n 0, 1, 0, (0, 0, 0, 0, 0, 0)), (81, .getfield 21, 3, 0, (8, 0, 9, 2, 1, 0)), (84, .aload_n 1, 1, 0, (0, 0, 0, 0, 0, 0)), (85, .iload 4, 2, 0, (0, 0, 0, 0, 0, 0)), (87, .invokevirtual 155, 3, 0, (2, 3, 0, 0, 1, 0)), (90, .return_, 1, 0, (0, 0, 0, 0, 0, 0))]
set_option maxRecDepth 100000 in
theorem rk128 : R128.all (rok 0 128 0 [(105, [10, 4, 3, 3, 0, 0]), (149, [13, 0]), (89, [9, 13, 0])]) = true := by decide +kernel
set_option maxRecDepth 100000 in
theorem tab128 {F105 : PM → Nat → Nat → Nat → Int32 → Int32 → PM} {G105 : PM → Nat → Nat → Nat → Int32 → Int32 → Prop} {F149 : PM → Nat → Int32 → PM} {G149 : PM → Nat → Int32 → Prop} {F89 : PM → Nat → Int32 → PM} {G89 : PM → Nat → Int32 → Prop} : TabOK 0 128 0 [CC105 F105 G105, CC149 F149 G149, CC89 F89 G89] R128 := tab_ok (K := K128) rfl rfl (fun h => d128 h) rk128 (by decide +kernel)
set_option maxRecDepth 100000 in
theorem pc128 : cutpc [] R128 = true := by decide +kernel
set_option maxRecDepth 100000 in
theorem r8_strike (F105 : PM → Nat → Nat → Nat → Int32 → Int32 → PM) (G105 : PM → Nat → Nat → Nat → Int32 → Int32 → Prop) (o105 : CalOK 0 (CC105 F105 G105)) (F149 : PM → Nat → Int32 → PM) (G149 : PM → Nat → Int32 → Prop) (o149 : CalOK 0 (CC149 F149 G149)) (F89 : PM → Nat → Int32 → PM) (G89 : PM → Nat → Int32 → Prop) (o89 : CalOK 0 (CC89 F89 G89)) : ∀ (p : PM) (v1 : Nat) (v2 : Nat) (v3 : Int32) (v4 : Int32), Gr 0 p → bg8_strike F89 G89 F105 G105 F149 G149 p v1 v2 v3 v4 → ZJ 0 128 0 [zR 8 1, zR 10 v1, zR 10 v2, zI v3, zI v4, zJ, zJ] [] p (hwV (bv8_strike F89 F105 F149 p v1 v2 v3 v4)) := by
  intro p v1 v2 v3 v4  hg H
  exact rwV (n := 3000) (q := 0) (la := [zR 8 1, zR 10 v1, zR 10 v2, zI v3, zI v4, zJ, zJ]) (sa := []) (ks := []) (gs := []) (fcons o105 (fcons o149 (fcons o89 (fnil)))) tab128 pc128 trivial hg H
theorem t8_strike : ∀ (p : PM) (v1 : Nat) (v2 : Nat) (v3 : Int32) (v4 : Int32), Gr 0 p → g8_strike p v1 v2 v3 v4 → ZJ 0 128 0 [zR 8 1, zR 10 v1, zR 10 v2, zI v3, zI v4, zJ, zJ] [] p (hwV (v8_strike p v1 v2 v3 v4)) := r8_strike v7_record g7_record ok105 v10_fall g10_fall ok149 v6_guard g6_guard ok89
def CC128 (F : PM → Nat → Nat → Int32 → Int32 → PM) (G : PM → Nat → Nat → Int32 → Int32 → Prop) : Cal := (128, [11, 13, 13, 0, 0], 0, false, fun as p => (zJ, (F p (ar as 1) (ar as 2) (ai as 3) (ai as 4))), fun as p => zsw (tc2 as [(108, 1), (14, 0), (14, 0), (0, 0), (0, 0)]) False (G p (ar as 1) (ar as 2) (ai as 3) (ai as 4)))
set_option maxRecDepth 100000 in
theorem okr128 (F : PM → Nat → Nat → Int32 → Int32 → PM) (G : PM → Nat → Nat → Int32 → Int32 → Prop) (h : ∀ (p : PM) (v1 : Nat) (v2 : Nat) (v3 : Int32) (v4 : Int32), Gr 0 p → G p v1 v2 v3 v4 → ZJ 0 128 0 [zR 8 1, zR 10 v1, zR 10 v2, zI v3, zI v4, zJ, zJ] [] p (hwV (F p v1 v2 v3 v4))) : CalOK 0 (CC128 F G) := cal_ok (m := 7) (by unfold mL; rw [mX_128]) (fun as p hg H => h p (ar as 1) (ar as 2) (ai as 3) (ai as 4) hg H)
theorem ok128 : CalOK 0 (CC128 v8_strike g8_strike) := okr128 v8_strike g8_strike t8_strike
noncomputable def bv8_settle (F77 : PM → Nat → PM) (p : PM) (v1 : Nat) : PM :=
  if (p.1 10 v1 2) = 0 then (
    p)
  else (
    if (p.1 10 v1 6) = (cn (-100000)) then (
      let p1 : PM := pI p 10 v1 2 (cn 0)
      p1)
    else (
      if (p.1 10 v1 8) = (cn (-100000)) then (
        let p3 : PM := pI p 10 v1 2 (cn 0)
        p3)
      else (
        let p2 : PM := F77 p v1
        p2)))
noncomputable def v8_settle (p : PM) (v1 : Nat) : PM := bv8_settle v6_stand p v1
noncomputable def bg8_settle (F77 : PM → Nat → PM) (G77 : PM → Nat → Prop) (p : PM) (v1 : Nat) : Prop :=
  (¬ v1 = 0) ∧ (
  if (p.1 10 v1 2) = 0 then (
    True)
  else (
    (¬ v1 = 0) ∧ (
    if (p.1 10 v1 6) = (cn (-100000)) then (
      (¬ v1 = 0) ∧ (
      let p1 : PM := pI p 10 v1 2 (cn 0)
      True))
    else (
      (¬ v1 = 0) ∧ (
      if (p.1 10 v1 8) = (cn (-100000)) then (
        (¬ v1 = 0) ∧ (
        let p3 : PM := pI p 10 v1 2 (cn 0)
        True))
      else (
        (G77 p v1) ∧ (
        let p2 : PM := F77 p v1
        True)))))))
noncomputable def g8_settle (p : PM) (v1 : Nat) : Prop := bg8_settle v6_stand g6_stand p v1
def R122 : List Row := [(0, .aload_n 1, 1, 0, (0, 0, 0, 0, 0, 0)), (1, .getfield 72, 3, 0, (10, 2, 0, 0, 0, 0)), (4, .ifCond .ne 4, 3, 0, (0, 0, 0, 0, 0, 0)), (7, .return_, 1, 0, (0, 0, 0, 0, 0, 0)), (8, .aload_n 1, 1, 0, (0, 0, 0, 0, 0, 0)), (9, .getfield 110, 3, 0, (10, 6, 0, 0, 0, 0)), (12, .ldc 79, 2, 0, (0, 0, 0, 0, 0, -100000)), (14, .if_icmp .eq 12, 3, 0, (0, 0, 0, 0, 0, 0)), (17, .aload_n 1, 1, 0, (0, 0, 0, 0, 0, 0)), (18, .getfield 113, 3, 0, (10, 8, 0, 0, 0, 0)), (21, .ldc 79, 2, 0, (0, 0, 0, 0, 0, -100000)), (23, .if_icmp .ne 11, 3, 0, (0, 0, 0, 0, 0, 0)), (26, .aload_n 1, 1, 0, (0, 0, 0, 0, 0, 0)), (27, .iconst 0, 1, 0, (0, 0, 0, 0, 0, 0)), (28, .putfield 72, 3, 0, (10, 2, 0, 0, 0, 0)), (31, .goto 11, 3, 0, (0, 0, 0, 0, 0, 0)), (34, .aload_n 0, 1, 0, (0, 0, 0, 0, 0, 0)), (35, .getfield 21, 3, 0, (8, 0, 9, 2, 1, 0)), (38, .aload_n 1, 1, 0, (0, 0, 0, 0, 0, 0)), (39, .invokevirtual 116, 3, 0, (0, 2, 0, 0, 1, 0)), (42, .return_, 1, 0, (0, 0, 0, 0, 0, 0))]
set_option maxRecDepth 100000 in
theorem rk122 : R122.all (rok 0 122 0 [(77, [9, 13])]) = true := by decide +kernel
set_option maxRecDepth 100000 in
theorem tab122 {F77 : PM → Nat → PM} {G77 : PM → Nat → Prop} : TabOK 0 122 0 [CC77 F77 G77] R122 := tab_ok (K := K122) rfl rfl (fun h => d122 h) rk122 (by decide +kernel)
set_option maxRecDepth 100000 in
theorem pc122 : cutpc [] R122 = true := by decide +kernel
set_option maxRecDepth 100000 in
theorem r8_settle (F77 : PM → Nat → PM) (G77 : PM → Nat → Prop) (o77 : CalOK 0 (CC77 F77 G77)) : ∀ (p : PM) (v1 : Nat), Gr 0 p → bg8_settle F77 G77 p v1 → ZJ 0 122 0 [zR 8 1, zR 10 v1] [] p (hwV (bv8_settle F77 p v1)) := by
  intro p v1  hg H
  exact rwV (n := 3000) (q := 0) (la := [zR 8 1, zR 10 v1]) (sa := []) (ks := []) (gs := []) (fcons o77 (fnil)) tab122 pc122 trivial hg H
theorem t8_settle : ∀ (p : PM) (v1 : Nat), Gr 0 p → g8_settle p v1 → ZJ 0 122 0 [zR 8 1, zR 10 v1] [] p (hwV (v8_settle p v1)) := r8_settle v6_stand g6_stand ok77
def CC122 (F : PM → Nat → PM) (G : PM → Nat → Prop) : Cal := (122, [11, 13], 0, false, fun as p => (zJ, (F p (ar as 1))), fun as p => zsw (tc2 as [(108, 1), (14, 0)]) False (G p (ar as 1)))
set_option maxRecDepth 100000 in
theorem okr122 (F : PM → Nat → PM) (G : PM → Nat → Prop) (h : ∀ (p : PM) (v1 : Nat), Gr 0 p → G p v1 → ZJ 0 122 0 [zR 8 1, zR 10 v1] [] p (hwV (F p v1))) : CalOK 0 (CC122 F G) := cal_ok (m := 2) (by unfold mL; rw [mX_122]) (fun as p hg H => h p (ar as 1) hg H)
theorem ok122 : CalOK 0 (CC122 v8_settle g8_settle) := okr122 v8_settle g8_settle t8_settle
noncomputable def bv8_match_141 (F79 : PM → Nat → PM) (F128 : PM → Nat → Nat → Int32 → Int32 → PM) (kv7 : PM → Nat → Nat → Int32 → PM) (kv141 : PM → Nat → Nat → Int32 → Int32 → Int32 → Int32 → PM) (p : PM) (v1 : Nat) (v2 : Nat) (v3 : Int32) (v4 : Int32) (v5 : Int32) (v6 : Int32) : PM :=
  if v6 < v5 then (
    if v6 < (cn 40) then (
      if v6 < (cn 40) then (
        let x1 : Nat := (p.2.2 20 2 (v6).toNatClampNeg)
        let x2 : Int32 := (p.1 13 19 (v6).toNatClampNeg)
        if 0 < x2 then (
          if (p.1 10 x1 2) = 0 then (
            kv141 p v1 v2 v3 v4 v5 (v6 + (cn 1)))
          else (
            if (p.1 10 v1 2) = 0 then (
              kv141 p v1 v2 v3 v4 v5 (v6 + (cn 1)))
            else (
              let p3 : PM := F128 p v1 x1 v4 x2
              let p4 : PM := F79 p3 x1
              kv141 p4 v1 v2 v3 v4 v5 (v6 + (cn 1)))))
        else (
          kv141 p v1 v2 v3 v4 v5 (v6 + (cn 1))))
      else (
        kv7 p v1 v2 (v3 + (cn 1))))
    else (
      kv7 p v1 v2 (v3 + (cn 1))))
  else (
    kv7 p v1 v2 (v3 + (cn 1)))
noncomputable def v8_match_141 (kv7 : PM → Nat → Nat → Int32 → PM) (n : Nat) : PM → Nat → Nat → Int32 → Int32 → Int32 → Int32 → PM := Nat.rec (motive := fun _ => PM → Nat → Nat → Int32 → Int32 → Int32 → Int32 → PM) (fun p _ _ _ _ _ _ => p) (fun _ ih => bv8_match_141 v6_showAnew v8_strike kv7 ih) n
theorem ev8_match_141 (kv7 : PM → Nat → Nat → Int32 → PM) (n : Nat) (p : PM) (v1 : Nat) (v2 : Nat) (v3 : Int32) (v4 : Int32) (v5 : Int32) (v6 : Int32) : v8_match_141 kv7 (n + 1) p v1 v2 v3 v4 v5 v6 = bv8_match_141 v6_showAnew v8_strike kv7 (v8_match_141 kv7 n) p v1 v2 v3 v4 v5 v6 := rfl
noncomputable def bg8_match_141 (F79 : PM → Nat → PM) (G79 : PM → Nat → Prop) (F128 : PM → Nat → Nat → Int32 → Int32 → PM) (G128 : PM → Nat → Nat → Int32 → Int32 → Prop) (kg7 : PM → Nat → Nat → Int32 → Prop) (kg141 : PM → Nat → Nat → Int32 → Int32 → Int32 → Int32 → Prop) (p : PM) (v1 : Nat) (v2 : Nat) (v3 : Int32) (v4 : Int32) (v5 : Int32) (v6 : Int32) : Prop :=
  if v6 < v5 then (
    if v6 < (cn 40) then (
      if v6 < (cn 40) then (
        (inb v6 40) ∧ (
        let x1 : Nat := (p.2.2 20 2 (v6).toNatClampNeg)
        (inb v6 40) ∧ (
        let x2 : Int32 := (p.1 13 19 (v6).toNatClampNeg)
        if 0 < x2 then (
          (¬ x1 = 0) ∧ (
          if (p.1 10 x1 2) = 0 then (
            kg141 p v1 v2 v3 v4 v5 (v6 + (cn 1)))
          else (
            (¬ v1 = 0) ∧ (
            if (p.1 10 v1 2) = 0 then (
              kg141 p v1 v2 v3 v4 v5 (v6 + (cn 1)))
            else (
              (G128 p v1 x1 v4 x2) ∧ (
              let p3 : PM := F128 p v1 x1 v4 x2
              (G79 p3 x1) ∧ (
              let p4 : PM := F79 p3 x1
              kg141 p4 v1 v2 v3 v4 v5 (v6 + (cn 1)))))))))
        else (
          kg141 p v1 v2 v3 v4 v5 (v6 + (cn 1))))))
      else (
        kg7 p v1 v2 (v3 + (cn 1))))
    else (
      kg7 p v1 v2 (v3 + (cn 1))))
  else (
    kg7 p v1 v2 (v3 + (cn 1)))
noncomputable def g8_match_141 (kg7 : PM → Nat → Nat → Int32 → Prop) (n : Nat) : PM → Nat → Nat → Int32 → Int32 → Int32 → Int32 → Prop := Nat.rec (motive := fun _ => PM → Nat → Nat → Int32 → Int32 → Int32 → Int32 → Prop) (fun _ _ _ _ _ _ _ => False) (fun _ ih => bg8_match_141 v6_showAnew g6_showAnew v8_strike g8_strike kg7 ih) n
theorem eg8_match_141 (kg7 : PM → Nat → Nat → Int32 → Prop) (n : Nat) (p : PM) (v1 : Nat) (v2 : Nat) (v3 : Int32) (v4 : Int32) (v5 : Int32) (v6 : Int32) : g8_match_141 kg7 (n + 1) p v1 v2 v3 v4 v5 v6 = bg8_match_141 v6_showAnew g6_showAnew v8_strike g8_strike kg7 (g8_match_141 kg7 n) p v1 v2 v3 v4 v5 v6 := rfl
noncomputable def bv8_match_37 (F13 : PM → Nat → Int32 → Int32) (F80 : PM → Nat → Int32 → Int32 → Int32) (F93 : PM → Nat → Int32 → Int32 → Int32 × PM) (F122 : PM → Nat → PM) (F123 : PM → Nat → Int32 → Int32 × PM) (F124 : PM → Nat → Int32 → Int32 × PM) (F125 : PM → Nat → Int32 → Int32 → PM) (F143 : PM → Nat → Int32 → Int32) (kv7 : PM → Nat → Nat → Int32 → PM) (kv141 : PM → Nat → Nat → Int32 → Int32 → Int32 → Int32 → PM) (p : PM) (v1 : Nat) (v2 : Nat) (v3 : Int32) (s0 : Int32) (s1 : Nat) : PM :=
  let x1 : Int32 := (F80 p s1 s0 (cn 1))
  if x1 = (cn (-100000)) then (
    let p2 : PM := F122 p v1
    p2)
  else (
    if (F143 p v1 x1) = 0 then (
      let p11 : PM := F122 p v1
      p11)
    else (
      if (F13 p v2 x1) = 0 then (
        let r3 : Int32 × PM := F123 p v1 x1
        if (r3.2.1 1 v2 11) = 0 then (
          let p4 : PM := F125 r3.2 v2 (r3.2.1 10 v1 9) r3.1
          kv141 p4 v1 v2 v3 x1 r3.1 (cn 0))
        else (
          let r5 : Int32 × PM := F124 r3.2 v1 r3.1
          if r5.1 = 0 then (
            let p6 : PM := F125 r5.2 v2 (r5.2.1 10 v1 9) r3.1
            kv141 p6 v1 v2 v3 x1 r3.1 (cn 0))
          else (
            if (r5.2.1 1 v2 11) = (cn 1) then (
              let p7 : PM := pI r5.2 10 v1 2 (cn 0)
              let p8 : PM := F122 p7 v1
              p8)
            else (
              kv7 r5.2 v1 v2 (v3 + (cn 1))))))
      else (
        let r9 : Int32 × PM := F93 p v2 (cn 5) (cn 0)
        let p10 : PM := F122 r9.2 v1
        p10)))
noncomputable def v8_match_37 (kv7 : PM → Nat → Nat → Int32 → PM) (p : PM) (v1 : Nat) (v2 : Nat) (v3 : Int32) (s0 : Int32) (s1 : Nat) : PM := bv8_match_37 v1_isBeyondBand v6_bestPrice v6_beginAuction v8_settle v8_gather v8_meetsOwn v8_share v10_allows kv7 (v8_match_141 kv7 FU) p v1 v2 v3 s0 s1
noncomputable def bg8_match_37 (F13 : PM → Nat → Int32 → Int32) (G13 : PM → Nat → Int32 → Prop) (F80 : PM → Nat → Int32 → Int32 → Int32) (G80 : PM → Nat → Int32 → Int32 → Prop) (F93 : PM → Nat → Int32 → Int32 → Int32 × PM) (G93 : PM → Nat → Int32 → Int32 → Prop) (F122 : PM → Nat → PM) (G122 : PM → Nat → Prop) (F123 : PM → Nat → Int32 → Int32 × PM) (G123 : PM → Nat → Int32 → Prop) (F124 : PM → Nat → Int32 → Int32 × PM) (G124 : PM → Nat → Int32 → Prop) (F125 : PM → Nat → Int32 → Int32 → PM) (G125 : PM → Nat → Int32 → Int32 → Prop) (F143 : PM → Nat → Int32 → Int32) (G143 : PM → Nat → Int32 → Prop) (kg7 : PM → Nat → Nat → Int32 → Prop) (kg141 : PM → Nat → Nat → Int32 → Int32 → Int32 → Int32 → Prop) (p : PM) (v1 : Nat) (v2 : Nat) (v3 : Int32) (s0 : Int32) (s1 : Nat) : Prop :=
  (G80 p s1 s0 (cn 1)) ∧ (
  let x1 : Int32 := (F80 p s1 s0 (cn 1))
  if x1 = (cn (-100000)) then (
    (G122 p v1) ∧ (
    let p2 : PM := F122 p v1
    True))
  else (
    (¬ v1 = 0) ∧ (
    (G143 p v1 x1) ∧ (
    if (F143 p v1 x1) = 0 then (
      (G122 p v1) ∧ (
      let p11 : PM := F122 p v1
      True))
    else (
      (¬ v2 = 0) ∧ (
      (G13 p v2 x1) ∧ (
      if (F13 p v2 x1) = 0 then (
        (G123 p v1 x1) ∧ (
        let r3 : Int32 × PM := F123 p v1 x1
        (¬ v2 = 0) ∧ (
        if (r3.2.1 1 v2 11) = 0 then (
          (¬ v1 = 0) ∧ (
          (G125 r3.2 v2 (r3.2.1 10 v1 9) r3.1) ∧ (
          let p4 : PM := F125 r3.2 v2 (r3.2.1 10 v1 9) r3.1
          kg141 p4 v1 v2 v3 x1 r3.1 (cn 0))))
        else (
          (G124 r3.2 v1 r3.1) ∧ (
          let r5 : Int32 × PM := F124 r3.2 v1 r3.1
          if r5.1 = 0 then (
            (¬ v1 = 0) ∧ (
            (G125 r5.2 v2 (r5.2.1 10 v1 9) r3.1) ∧ (
            let p6 : PM := F125 r5.2 v2 (r5.2.1 10 v1 9) r3.1
            kg141 p6 v1 v2 v3 x1 r3.1 (cn 0))))
          else (
            (¬ v2 = 0) ∧ (
            if (r5.2.1 1 v2 11) = (cn 1) then (
              (¬ v1 = 0) ∧ (
              let p7 : PM := pI r5.2 10 v1 2 (cn 0)
              (G122 p7 v1) ∧ (
              let p8 : PM := F122 p7 v1
              True)))
            else (
              kg7 r5.2 v1 v2 (v3 + (cn 1))))))))))
      else (
        (G93 p v2 (cn 5) (cn 0)) ∧ (
        let r9 : Int32 × PM := F93 p v2 (cn 5) (cn 0)
        (G122 r9.2 v1) ∧ (
        let p10 : PM := F122 r9.2 v1
        True))))))))))
noncomputable def g8_match_37 (kg7 : PM → Nat → Nat → Int32 → Prop) (p : PM) (v1 : Nat) (v2 : Nat) (v3 : Int32) (s0 : Int32) (s1 : Nat) : Prop := bg8_match_37 v1_isBeyondBand g1_isBeyondBand v6_bestPrice g6_bestPrice v6_beginAuction g6_beginAuction v8_settle g8_settle v8_gather g8_gather v8_meetsOwn g8_meetsOwn v8_share g8_share v10_allows g10_allows kg7 (g8_match_141 kg7 FU) p v1 v2 v3 s0 s1
noncomputable def bv8_match_7 (F122 : PM → Nat → PM) (kv37 : PM → Nat → Nat → Int32 → Int32 → Nat → PM) (p : PM) (v1 : Nat) (v2 : Nat) (v3 : Int32) : PM :=
  if v3 < (cn 1000000) then (
    if (p.1 10 v1 2) = 0 then (
      let p2 : PM := F122 p v1
      p2)
    else (
      if (p.1 10 v1 5) = 0 then (
        kv37 p v1 v2 v3 (cn 1) v2)
      else (
        kv37 p v1 v2 v3 (cn 0) v2)))
  else (
    let p1 : PM := F122 p v1
    p1)
noncomputable def v8_match_7 (n : Nat) : PM → Nat → Nat → Int32 → PM := Nat.rec (motive := fun _ => PM → Nat → Nat → Int32 → PM) (fun p _ _ _ => p) (fun _ ih => bv8_match_7 v8_settle (v8_match_37 ih)) n
theorem ev8_match_7 (n : Nat) (p : PM) (v1 : Nat) (v2 : Nat) (v3 : Int32) : v8_match_7 (n + 1) p v1 v2 v3 = bv8_match_7 v8_settle (v8_match_37 (v8_match_7 n)) p v1 v2 v3 := rfl
noncomputable def bg8_match_7 (F122 : PM → Nat → PM) (G122 : PM → Nat → Prop) (kg37 : PM → Nat → Nat → Int32 → Int32 → Nat → Prop) (p : PM) (v1 : Nat) (v2 : Nat) (v3 : Int32) : Prop :=
  if v3 < (cn 1000000) then (
    (¬ v1 = 0) ∧ (
    if (p.1 10 v1 2) = 0 then (
      (G122 p v1) ∧ (
      let p2 : PM := F122 p v1
      True))
    else (
      (¬ v1 = 0) ∧ (
      if (p.1 10 v1 5) = 0 then (
        kg37 p v1 v2 v3 (cn 1) v2)
      else (
        kg37 p v1 v2 v3 (cn 0) v2)))))
  else (
    (G122 p v1) ∧ (
    let p1 : PM := F122 p v1
    True))
noncomputable def g8_match_7 (n : Nat) : PM → Nat → Nat → Int32 → Prop := Nat.rec (motive := fun _ => PM → Nat → Nat → Int32 → Prop) (fun _ _ _ _ => False) (fun _ ih => bg8_match_7 v8_settle g8_settle (g8_match_37 ih)) n
theorem eg8_match_7 (n : Nat) (p : PM) (v1 : Nat) (v2 : Nat) (v3 : Int32) : g8_match_7 (n + 1) p v1 v2 v3 = bg8_match_7 v8_settle g8_settle (g8_match_37 (g8_match_7 n)) p v1 v2 v3 := rfl
noncomputable def bv8_match (kv7 : PM → Nat → Nat → Int32 → PM) (p : PM) (v1 : Nat) : PM :=
  kv7 p v1 (p.2.2 10 v1 4) (cn 0)
noncomputable def v8_match (p : PM) (v1 : Nat) : PM := bv8_match (v8_match_7 FU) p v1
noncomputable def bg8_match (kg7 : PM → Nat → Nat → Int32 → Prop) (p : PM) (v1 : Nat) : Prop :=
  (¬ v1 = 0) ∧ (
  kg7 p v1 (p.2.2 10 v1 4) (cn 0))
noncomputable def g8_match (p : PM) (v1 : Nat) : Prop := bg8_match (g8_match_7 FU) p v1
def R121 : List Row := [(0, .aload_n 1, 1, 0, (0, 0, 0, 0, 0, 0)), (1, .getfield 34, 3, 0, (10, 4, 4, 0, 0, 0)), (4, .astore_n 2, 1, 0, (0, 0, 0, 0, 0, 0)), (5, .iconst 0, 1, 0, (0, 0, 0, 0, 0, 0)), (6, .istore_n 3, 1, 0, (0, 0, 0, 0, 0, 0)), (7, .iload_n 3, 1, 1, (0, 0, 0, 0, 0, 0)), (8, .ldc 71, 2, 0, (0, 0, 0, 0, 0, 1000000)), (10, .if_icmp .ge 228, 3, 0, (0, 0, 0, 0, 0, 0)), (13, .aload_n 1, 1, 0, (0, 0, 0, 0, 0, 0)), (14, .getfield 72, 3, 0, (10, 2, 0, 0, 0, 0)), (17, .ifCond .eq 221, 3, 0, (0, 0, 0, 0, 0, 0)), (20, .aload_n 0, 1, 0, (0, 0, 0, 0, 0, 0)), (21, .getfield 21, 3, 0, (8, 0, 9, 2, 1, 0)), (24, .aload_n 2, 1, 0, (0, 0, 0, 0, 0, 0)), (25, .aload_n 1, 1, 0, (0, 0, 0, 0, 0, 0)), (26, .getfield 38, 3, 0, (10, 5, 1, 0, 0, 0)), (29, .ifCond .ne 7, 3, 0, (0, 0, 0, 0, 0, 0)), (32, .iconst 1, 1, 0, (0, 0, 0, 0, 0, 1)), (33, .goto 4, 3, 0, (0, 0, 0, 0, 0, 0)), (36, .iconst 0, 1, 0, (0, 0, 0, 0, 0, 0)), (37, .iconst 1, 1, 2, (0, 0, 0, 0, 0, 1)), (38, .invokevirtual 75, 3, 0, (1, 4, 0, 0, 1, 0)), (41, .istore 4, 2, 0, (0, 0, 0, 0, 0, 0)), (43, .iload 4, 2, 0, (0, 0, 0, 0, 0, 0)), (45, .ldc 79, 2, 0, (0, 0, 0, 0, 0, -100000)), (47, .if_icmp .eq 191, 3, 0, (0, 0, 0, 0, 0, 0)), (50, .aload_n 1, 1, 0, (0, 0, 0, 0, 0, 0)), (51, .iload 4, 2, 0, (0, 0, 0, 0, 0, 0)), (53, .invokevirtual 59, 3, 0, (2, 2, 0, 0, 2, 0)), (56, .ifCond .ne 6, 3, 0, (0, 0, 0, 0, 0, 0)), (59, .goto 179, 3, 0, (0, 0, 0, 0, 0, 0)), (62, .aload_n 2, 1, 0, (0, 0, 0, 0, 0, 0)), (63, .iload 4, 2, 0, (0, 0, 0, 0, 0, 0)), (65, .invokevirtual 63, 3, 0, (3, 2, 0, 0, 2, 0)), (68, .ifCond .eq 17, 3, 0, (0, 0, 0, 0, 0, 0)), (71, .aload_n 0, 1, 0, (0, 0, 0, 0, 0, 0)), (72, .getfield 21, 3, 0, (8, 0, 9, 2, 1, 0)), (75, .aload_n 2, 1, 0, (0, 0, 0, 0, 0, 0)), (76, .iconst 5, 1, 0, (0, 0, 0, 0, 0, 5)), (77, .iconst 0, 1, 0, (0, 0, 0, 0, 0, 0)), (78, .invokevirtual 80, 3, 0, (7, 4, 0, 0, 1, 0)), (81, .pop, 1, 0, (0, 0, 0, 0, 0, 0)), (82, .goto 156, 3, 0, (0, 0, 0, 0, 0, 0)), (85, .aload_n 0, 1, 0, (0, 0, 0, 0, 0, 0)), (86, .aload_n 1, 1, 0, (0, 0, 0, 0, 0, 0)), (87, .iload 4, 2, 0, (0, 0, 0, 0, 0, 0)), (89, .invokevirtual 84, 3, 0, (4, 3, 0, 0, 1, 0)), (92, .istore 5, 2, 0, (0, 0, 0, 0, 0, 0)), (94, .aload_n 2, 1, 0, (0, 0, 0, 0, 0, 0)), (95, .getfield 88, 3, 0, (1, 11, 0, 0, 0, 0)), (98, .ifCond .eq 29, 3, 0, (0, 0, 0, 0, 0, 0)), (101, .aload_n 0, 1, 0, (0, 0, 0, 0, 0, 0)), (102, .aload_n 1, 1, 0, (0, 0, 0, 0, 0, 0)), (103, .iload 5, 2, 0, (0, 0, 0, 0, 0, 0)), (105, .invokevirtual 91, 3, 0, (6, 3, 0, 0, 1, 0)), (108, .ifCond .eq 19, 3, 0, (0, 0, 0, 0, 0, 0)), (111, .aload_n 2, 1, 0, (0, 0, 0, 0, 0, 0)), (112, .getfield 88, 3, 0, (1, 11, 0, 0, 0, 0)), (115, .iconst 1, 1, 0, (0, 0, 0, 0, 0, 1)), (116, .if_icmp .ne 116, 3, 0, (0, 0, 0, 0, 0, 0)), (119, .aload_n 1, 1, 0, (0, 0, 0, 0, 0, 0)), (120, .iconst 0, 1, 0, (0, 0, 0, 0, 0, 0)), (121, .putfield 72, 3, 0, (10, 2, 0, 0, 0, 0)), (124, .goto 114, 3, 0, (0, 0, 0, 0, 0, 0)), (127, .aload_n 0, 1, 0, (0, 0, 0, 0, 0, 0)), (128, .aload_n 2, 1, 0, (0, 0, 0, 0, 0, 0)), (129, .aload_n 1, 1, 0, (0, 0, 0, 0, 0, 0)), (130, .getfield 68, 3, 0, (10, 9, 0, 0, 0, 0)), (133, .iload 5, 2, 0, (0, 0, 0, 0, 0, 0)), (135, .invokevirtual 95, 3, 0, (5, 4, 0, 0, 1, 0)), (138, .iconst 0, 1, 0, (0, 0, 0, 0, 0, 0)), (139, .istore 6, 2, 0, (0, 0, 0, 0, 0, 0)), (141, .iload 6, 2, 3, (0, 0, 0, 0, 0, 0)), (143, .iload 5, 2, 0, (0, 0, 0, 0, 0, 0)), (145, .if_icmp .ge 87, 3, 0, (0, 0, 0, 0, 0, 0)), (148, .iload 6, 2, 0, (0, 0, 0, 0, 0, 0)), (150, .aload_n 0, 1, 0, (0, 0, 0, 0, 0, 0)), (151, .getfield 11, 3, 0, (8, 2, 23, 2, 2, 0)), (154, .arraylength, 1, 0, (20, 40, 0, 0, 0, 40)), (155, .if_icmp .ge 77, 3, 0, (0, 0, 0, 0, 0, 0)), (158, .iload 6, 2, 0, (0, 0, 0, 0, 0, 0)), (160, .aload_n 0, 1, 0, (0, 0, 0, 0, 0, 0)), (161, .getfield 17, 3, 0, (8, 3, 16, 2, 19, 0)), (164, .arraylength, 1, 0, (13, 40, 0, 0, 0, 40)), (165, .if_icmp .ge 67, 3, 0, (0, 0, 0, 0, 0, 0)), (168, .aload_n 0, 1, 0, (0, 0, 0, 0, 0, 0)), (169, .getfield 11, 3, 0, (8, 2, 23, 2, 2, 0)), (172, .iload 6, 2, 0, (0, 0, 0, 0, 0, 0)), (174, .aaload, 1, 0, (20, 40, 0, 0, 0, 0)), (175, .astore 7, 2, 0, (0, 0, 0, 0, 0, 0)), (177, .aload_n 0, 1, 0, (0, 0, 0, 0, 0, 0)), (178, .getfield 17, 3, 0, (8, 3, 16, 2, 19, 0)), (181, .iload 6, 2, 0, (0, 0, 0, 0, 0, 0)), (183, .iaload, 1, 0, (13, 40, 0, 0, 0, 0)), (184, .istore 8, 2, 0, (0, 0, 0, 0, 0, 0)), (186, .iload 8, 2, 0, (0, 0, 0, 0, 0, 0)), (188, .ifCond .le 38, 3, 0, (0, 0, 0, 0, 0, 0)), (191, .aload 7, 2, 0, (0, 0, 0, 0, 0, 0)), (193, .getfield 72, 3, 0, (10, 2, 0, 0, 0, 0)), (196, .ifCond .eq 30, 3, 0, (0, 0, 0, 0, 0, 0)), (199, .aload_n 1, 1, 0, (0, 0, 0, 0, 0, 0)), (200, .getfield 72, 3, 0, (10, 2, 0, 0, 0, 0)), (203, .ifCond .eq 23, 3, 0, (0, 0, 0, 0, 0, 0)), (206, .aload_n 0, 1, 0, (0, 0, 0, 0, 0, 0)), (207, .aload_n 1, 1, 0, (0, 0, 0, 0, 0, 0)), (208, .aload 7, 2, 0, (0, 0, 0, 0, 0, 0)), (210, .iload 4, 2, 0, (0, 0, 0, 0, 0, 0)), (212, .iload 8, 2, 0, (0, 0, 0, 0, 0, 0)), (214, .invokevirtual 99, 3, 0, (8, 5, 0, 0, 1, 0)), (217, .aload_n 0, 1, 0, (0, 0, 0, 0, 0, 0)), (218, .getfield 21, 3, 0, (8, 0, 9, 2, 1, 0)), (221, .aload 7, 2, 0, (0, 0, 0, 0, 0, 0)), (223, .invokevirtual 103, 3, 0, (9, 2, 0, 0, 1, 0)), (226, .iinc 6 1, 3, 0, (0, 0, 0, 0, 0, 1)), (229, .goto (-88), 3, 0, (0, 0, 0, 0, 0, 0)), (232, .iinc 3 1, 3, 0, (0, 0, 0, 0, 0, 1)), (235, .goto (-228), 3, 0, (0, 0, 0, 0, 0, 0)), (238, .aload_n 0, 1, 0, (0, 0, 0, 0, 0, 0)), (239, .aload_n 1, 1, 0, (0, 0, 0, 0, 0, 0)), (240, .invokevirtual 107, 3, 0, (0, 2, 0, 0, 1, 0)), (243, .return_, 1, 0, (0, 0, 0, 0, 0, 0))]
set_option maxRecDepth 100000 in
theorem rk121 : R121.all (rok 0 121 0 [(122, [11, 13]), (80, [9, 4, 0, 0]), (143, [13, 0]), (13, [4, 0]), (123, [11, 13, 0]), (125, [11, 4, 0, 0]), (124, [11, 13, 0]), (93, [9, 4, 0, 0]), (128, [11, 13, 13, 0, 0]), (79, [9, 13])]) = true := by decide +kernel
set_option maxRecDepth 100000 in
theorem tab121 {F122 : PM → Nat → PM} {G122 : PM → Nat → Prop} {F80 : PM → Nat → Int32 → Int32 → Int32} {G80 : PM → Nat → Int32 → Int32 → Prop} {F143 : PM → Nat → Int32 → Int32} {G143 : PM → Nat → Int32 → Prop} {F13 : PM → Nat → Int32 → Int32} {G13 : PM → Nat → Int32 → Prop} {F123 : PM → Nat → Int32 → Int32 × PM} {G123 : PM → Nat → Int32 → Prop} {F125 : PM → Nat → Int32 → Int32 → PM} {G125 : PM → Nat → Int32 → Int32 → Prop} {F124 : PM → Nat → Int32 → Int32 × PM} {G124 : PM → Nat → Int32 → Prop} {F93 : PM → Nat → Int32 → Int32 → Int32 × PM} {G93 : PM → Nat → Int32 → Int32 → Prop} {F128 : PM → Nat → Nat → Int32 → Int32 → PM} {G128 : PM → Nat → Nat → Int32 → Int32 → Prop} {F79 : PM → Nat → PM} {G79 : PM → Nat → Prop} : TabOK 0 121 0 [CC122 F122 G122, CC80 F80 G80, CC143 F143 G143, CC13 F13 G13, CC123 F123 G123, CC125 F125 G125, CC124 F124 G124, CC93 F93 G93, CC128 F128 G128, CC79 F79 G79] R121 := tab_ok (K := K121) rfl rfl (fun h => d121 h) rk121 (by decide +kernel)
set_option maxRecDepth 100000 in
theorem pc121 : cutpc [7, 37, 141] R121 = true := by decide +kernel
set_option maxRecDepth 100000 in
theorem r8_match_141 (F122 : PM → Nat → PM) (G122 : PM → Nat → Prop) (o122 : CalOK 0 (CC122 F122 G122)) (F80 : PM → Nat → Int32 → Int32 → Int32) (G80 : PM → Nat → Int32 → Int32 → Prop) (o80 : CalOK 0 (CC80 F80 G80)) (F143 : PM → Nat → Int32 → Int32) (G143 : PM → Nat → Int32 → Prop) (o143 : CalOK 0 (CC143 F143 G143)) (F13 : PM → Nat → Int32 → Int32) (G13 : PM → Nat → Int32 → Prop) (o13 : CalOK 0 (CC13 F13 G13)) (F123 : PM → Nat → Int32 → Int32 × PM) (G123 : PM → Nat → Int32 → Prop) (o123 : CalOK 0 (CC123 F123 G123)) (F125 : PM → Nat → Int32 → Int32 → PM) (G125 : PM → Nat → Int32 → Int32 → Prop) (o125 : CalOK 0 (CC125 F125 G125)) (F124 : PM → Nat → Int32 → Int32 × PM) (G124 : PM → Nat → Int32 → Prop) (o124 : CalOK 0 (CC124 F124 G124)) (F93 : PM → Nat → Int32 → Int32 → Int32 × PM) (G93 : PM → Nat → Int32 → Int32 → Prop) (o93 : CalOK 0 (CC93 F93 G93)) (F128 : PM → Nat → Nat → Int32 → Int32 → PM) (G128 : PM → Nat → Nat → Int32 → Int32 → Prop) (o128 : CalOK 0 (CC128 F128 G128)) (F79 : PM → Nat → PM) (G79 : PM → Nat → Prop) (o79 : CalOK 0 (CC79 F79 G79)) (kv7 : PM → Nat → Nat → Int32 → PM) (kg7 : PM → Nat → Nat → Int32 → Prop) (hk7 : ∀ (p : PM) (v1 : Nat) (v2 : Nat) (v3 : Int32) (d4 d5 d6 d7 d8 : ZV), Gr 0 p → kg7 p v1 v2 v3 → ZJ 0 121 7 [zR 8 1, zR 10 v1, zR 1 v2, zI v3, d4, d5, d6, d7, d8] [] p (hwV (kv7 p v1 v2 v3))) (kv141 : PM → Nat → Nat → Int32 → Int32 → Int32 → Int32 → PM) (kg141 : PM → Nat → Nat → Int32 → Int32 → Int32 → Int32 → Prop) (hk141 : ∀ (p : PM) (v1 : Nat) (v2 : Nat) (v3 : Int32) (v4 : Int32) (v5 : Int32) (v6 : Int32) (d7 d8 : ZV), Gr 0 p → kg141 p v1 v2 v3 v4 v5 v6 → ZJ 0 121 141 [zR 8 1, zR 10 v1, zR 1 v2, zI v3, zI v4, zI v5, zI v6, d7, d8] [] p (hwV (kv141 p v1 v2 v3 v4 v5 v6))) : ∀ (p : PM) (v1 : Nat) (v2 : Nat) (v3 : Int32) (v4 : Int32) (v5 : Int32) (v6 : Int32) (d7 d8 : ZV), Gr 0 p → bg8_match_141 F79 G79 F128 G128 kg7 kg141 p v1 v2 v3 v4 v5 v6 → ZJ 0 121 141 [zR 8 1, zR 10 v1, zR 1 v2, zI v3, zI v4, zI v5, zI v6, d7, d8] [] p (hwV (bv8_match_141 F79 F128 kv7 kv141 p v1 v2 v3 v4 v5 v6)) := by
  intro p v1 v2 v3 v4 v5 v6 d7 d8 hg H
  exact rwV (n := 3000) (q := 141) (la := [zR 8 1, zR 10 v1, zR 1 v2, zI v3, zI v4, zI v5, zI v6, d7, d8]) (sa := []) (ks := [fun la sa s => kv7 s (ar la 1) (ar la 2) (ai la 3), fun _ _ s => s, fun la sa s => kv141 s (ar la 1) (ar la 2) (ai la 3) (ai la 4) (ai la 5) (ai la 6)]) (gs := [fun la sa s => zsw (tc2 la [(108, 1), (14, 0), (5, 0), (0, 0), (2, 0), (2, 0), (2, 0), (2, 0), (2, 0)] && tc2 sa []) False (kg7 s (ar la 1) (ar la 2) (ai la 3)), fun _ _ _ => False, fun la sa s => zsw (tc2 la [(108, 1), (14, 0), (5, 0), (0, 0), (0, 0), (0, 0), (0, 0), (2, 0), (2, 0)] && tc2 sa []) False (kg141 s (ar la 1) (ar la 2) (ai la 3) (ai la 4) (ai la 5) (ai la 6))]) (fcons o122 (fcons o80 (fcons o143 (fcons o13 (fcons o123 (fcons o125 (fcons o124 (fcons o93 (fcons o128 (fcons o79 (fnil))))))))))) tab121 pc121 ⟨fun la sa s hg H => zcut H fun H => hk7 s (ar la 1) (ar la 2) (ai la 3) (zld la 4) (zld la 5) (zld la 6) (zld la 7) (zld la 8) hg H, fun _ _ _ _ H => H.elim, fun la sa s hg H => zcut H fun H => hk141 s (ar la 1) (ar la 2) (ai la 3) (ai la 4) (ai la 5) (ai la 6) (zld la 7) (zld la 8) hg H, trivial⟩ hg H
theorem t8_match_141 (kv7 : PM → Nat → Nat → Int32 → PM) (kg7 : PM → Nat → Nat → Int32 → Prop) (hk7 : ∀ (p : PM) (v1 : Nat) (v2 : Nat) (v3 : Int32) (d4 d5 d6 d7 d8 : ZV), Gr 0 p → kg7 p v1 v2 v3 → ZJ 0 121 7 [zR 8 1, zR 10 v1, zR 1 v2, zI v3, d4, d5, d6, d7, d8] [] p (hwV (kv7 p v1 v2 v3))) : ∀ (n : Nat), ∀ (p : PM) (v1 : Nat) (v2 : Nat) (v3 : Int32) (v4 : Int32) (v5 : Int32) (v6 : Int32) (d7 d8 : ZV), Gr 0 p → g8_match_141 kg7 n p v1 v2 v3 v4 v5 v6 → ZJ 0 121 141 [zR 8 1, zR 10 v1, zR 1 v2, zI v3, zI v4, zI v5, zI v6, d7, d8] [] p (hwV (v8_match_141 kv7 n p v1 v2 v3 v4 v5 v6)) := by
  intro n
  induction n with
  | zero =>
    intro p v1 v2 v3 v4 v5 v6 d7 d8 hg H
    exact H.elim
  | succ n ih => exact r8_match_141 v8_settle g8_settle ok122 v6_bestPrice g6_bestPrice ok80 v10_allows g10_allows ok143 v1_isBeyondBand g1_isBeyondBand ok13 v8_gather g8_gather ok123 v8_share g8_share ok125 v8_meetsOwn g8_meetsOwn ok124 v6_beginAuction g6_beginAuction ok93 v8_strike g8_strike ok128 v6_showAnew g6_showAnew ok79 kv7 kg7 hk7 (v8_match_141 kv7 n) (g8_match_141 kg7 n) ih
set_option maxRecDepth 100000 in
theorem r8_match_37 (F122 : PM → Nat → PM) (G122 : PM → Nat → Prop) (o122 : CalOK 0 (CC122 F122 G122)) (F80 : PM → Nat → Int32 → Int32 → Int32) (G80 : PM → Nat → Int32 → Int32 → Prop) (o80 : CalOK 0 (CC80 F80 G80)) (F143 : PM → Nat → Int32 → Int32) (G143 : PM → Nat → Int32 → Prop) (o143 : CalOK 0 (CC143 F143 G143)) (F13 : PM → Nat → Int32 → Int32) (G13 : PM → Nat → Int32 → Prop) (o13 : CalOK 0 (CC13 F13 G13)) (F123 : PM → Nat → Int32 → Int32 × PM) (G123 : PM → Nat → Int32 → Prop) (o123 : CalOK 0 (CC123 F123 G123)) (F125 : PM → Nat → Int32 → Int32 → PM) (G125 : PM → Nat → Int32 → Int32 → Prop) (o125 : CalOK 0 (CC125 F125 G125)) (F124 : PM → Nat → Int32 → Int32 × PM) (G124 : PM → Nat → Int32 → Prop) (o124 : CalOK 0 (CC124 F124 G124)) (F93 : PM → Nat → Int32 → Int32 → Int32 × PM) (G93 : PM → Nat → Int32 → Int32 → Prop) (o93 : CalOK 0 (CC93 F93 G93)) (F128 : PM → Nat → Nat → Int32 → Int32 → PM) (G128 : PM → Nat → Nat → Int32 → Int32 → Prop) (o128 : CalOK 0 (CC128 F128 G128)) (F79 : PM → Nat → PM) (G79 : PM → Nat → Prop) (o79 : CalOK 0 (CC79 F79 G79)) (kv7 : PM → Nat → Nat → Int32 → PM) (kg7 : PM → Nat → Nat → Int32 → Prop) (hk7 : ∀ (p : PM) (v1 : Nat) (v2 : Nat) (v3 : Int32) (d4 d5 d6 d7 d8 : ZV), Gr 0 p → kg7 p v1 v2 v3 → ZJ 0 121 7 [zR 8 1, zR 10 v1, zR 1 v2, zI v3, d4, d5, d6, d7, d8] [] p (hwV (kv7 p v1 v2 v3))) (kv141 : PM → Nat → Nat → Int32 → Int32 → Int32 → Int32 → PM) (kg141 : PM → Nat → Nat → Int32 → Int32 → Int32 → Int32 → Prop) (hk141 : ∀ (p : PM) (v1 : Nat) (v2 : Nat) (v3 : Int32) (v4 : Int32) (v5 : Int32) (v6 : Int32) (d7 d8 : ZV), Gr 0 p → kg141 p v1 v2 v3 v4 v5 v6 → ZJ 0 121 141 [zR 8 1, zR 10 v1, zR 1 v2, zI v3, zI v4, zI v5, zI v6, d7, d8] [] p (hwV (kv141 p v1 v2 v3 v4 v5 v6))) : ∀ (p : PM) (v1 : Nat) (v2 : Nat) (v3 : Int32) (s0 : Int32) (s1 : Nat) (d4 d5 d6 d7 d8 : ZV), Gr 0 p → bg8_match_37 F13 G13 F80 G80 F93 G93 F122 G122 F123 G123 F124 G124 F125 G125 F143 G143 kg7 kg141 p v1 v2 v3 s0 s1 → ZJ 0 121 37 [zR 8 1, zR 10 v1, zR 1 v2, zI v3, d4, d5, d6, d7, d8] [zI s0, zR 1 s1, zR 6 1] p (hwV (bv8_match_37 F13 F80 F93 F122 F123 F124 F125 F143 kv7 kv141 p v1 v2 v3 s0 s1)) := by
  intro p v1 v2 v3 s0 s1 d4 d5 d6 d7 d8 hg H
  exact rwV (n := 3000) (q := 37) (la := [zR 8 1, zR 10 v1, zR 1 v2, zI v3, d4, d5, d6, d7, d8]) (sa := [zI s0, zR 1 s1, zR 6 1]) (ks := [fun la sa s => kv7 s (ar la 1) (ar la 2) (ai la 3), fun _ _ s => s, fun la sa s => kv141 s (ar la 1) (ar la 2) (ai la 3) (ai la 4) (ai la 5) (ai la 6)]) (gs := [fun la sa s => zsw (tc2 la [(108, 1), (14, 0), (5, 0), (0, 0), (2, 0), (2, 0), (2, 0), (2, 0), (2, 0)] && tc2 sa []) False (kg7 s (ar la 1) (ar la 2) (ai la 3)), fun _ _ _ => False, fun la sa s => zsw (tc2 la [(108, 1), (14, 0), (5, 0), (0, 0), (0, 0), (0, 0), (0, 0), (2, 0), (2, 0)] && tc2 sa []) False (kg141 s (ar la 1) (ar la 2) (ai la 3) (ai la 4) (ai la 5) (ai la 6))]) (fcons o122 (fcons o80 (fcons o143 (fcons o13 (fcons o123 (fcons o125 (fcons o124 (fcons o93 (fcons o128 (fcons o79 (fnil))))))))))) tab121 pc121 ⟨fun la sa s hg H => zcut H fun H => hk7 s (ar la 1) (ar la 2) (ai la 3) (zld la 4) (zld la 5) (zld la 6) (zld la 7) (zld la 8) hg H, fun _ _ _ _ H => H.elim, fun la sa s hg H => zcut H fun H => hk141 s (ar la 1) (ar la 2) (ai la 3) (ai la 4) (ai la 5) (ai la 6) (zld la 7) (zld la 8) hg H, trivial⟩ hg H
theorem t8_match_37 (kv7 : PM → Nat → Nat → Int32 → PM) (kg7 : PM → Nat → Nat → Int32 → Prop) (hk7 : ∀ (p : PM) (v1 : Nat) (v2 : Nat) (v3 : Int32) (d4 d5 d6 d7 d8 : ZV), Gr 0 p → kg7 p v1 v2 v3 → ZJ 0 121 7 [zR 8 1, zR 10 v1, zR 1 v2, zI v3, d4, d5, d6, d7, d8] [] p (hwV (kv7 p v1 v2 v3))) : ∀ (p : PM) (v1 : Nat) (v2 : Nat) (v3 : Int32) (s0 : Int32) (s1 : Nat) (d4 d5 d6 d7 d8 : ZV), Gr 0 p → g8_match_37 kg7 p v1 v2 v3 s0 s1 → ZJ 0 121 37 [zR 8 1, zR 10 v1, zR 1 v2, zI v3, d4, d5, d6, d7, d8] [zI s0, zR 1 s1, zR 6 1] p (hwV (v8_match_37 kv7 p v1 v2 v3 s0 s1)) := r8_match_37 v8_settle g8_settle ok122 v6_bestPrice g6_bestPrice ok80 v10_allows g10_allows ok143 v1_isBeyondBand g1_isBeyondBand ok13 v8_gather g8_gather ok123 v8_share g8_share ok125 v8_meetsOwn g8_meetsOwn ok124 v6_beginAuction g6_beginAuction ok93 v8_strike g8_strike ok128 v6_showAnew g6_showAnew ok79 kv7 kg7 hk7 (v8_match_141 kv7 FU) (g8_match_141 kg7 FU) (t8_match_141 kv7 kg7 hk7 FU)
set_option maxRecDepth 100000 in
theorem r8_match_7 (F122 : PM → Nat → PM) (G122 : PM → Nat → Prop) (o122 : CalOK 0 (CC122 F122 G122)) (F80 : PM → Nat → Int32 → Int32 → Int32) (G80 : PM → Nat → Int32 → Int32 → Prop) (o80 : CalOK 0 (CC80 F80 G80)) (F143 : PM → Nat → Int32 → Int32) (G143 : PM → Nat → Int32 → Prop) (o143 : CalOK 0 (CC143 F143 G143)) (F13 : PM → Nat → Int32 → Int32) (G13 : PM → Nat → Int32 → Prop) (o13 : CalOK 0 (CC13 F13 G13)) (F123 : PM → Nat → Int32 → Int32 × PM) (G123 : PM → Nat → Int32 → Prop) (o123 : CalOK 0 (CC123 F123 G123)) (F125 : PM → Nat → Int32 → Int32 → PM) (G125 : PM → Nat → Int32 → Int32 → Prop) (o125 : CalOK 0 (CC125 F125 G125)) (F124 : PM → Nat → Int32 → Int32 × PM) (G124 : PM → Nat → Int32 → Prop) (o124 : CalOK 0 (CC124 F124 G124)) (F93 : PM → Nat → Int32 → Int32 → Int32 × PM) (G93 : PM → Nat → Int32 → Int32 → Prop) (o93 : CalOK 0 (CC93 F93 G93)) (F128 : PM → Nat → Nat → Int32 → Int32 → PM) (G128 : PM → Nat → Nat → Int32 → Int32 → Prop) (o128 : CalOK 0 (CC128 F128 G128)) (F79 : PM → Nat → PM) (G79 : PM → Nat → Prop) (o79 : CalOK 0 (CC79 F79 G79)) (kv37 : PM → Nat → Nat → Int32 → Int32 → Nat → PM) (kg37 : PM → Nat → Nat → Int32 → Int32 → Nat → Prop) (hk37 : ∀ (p : PM) (v1 : Nat) (v2 : Nat) (v3 : Int32) (s0 : Int32) (s1 : Nat) (d4 d5 d6 d7 d8 : ZV), Gr 0 p → kg37 p v1 v2 v3 s0 s1 → ZJ 0 121 37 [zR 8 1, zR 10 v1, zR 1 v2, zI v3, d4, d5, d6, d7, d8] [zI s0, zR 1 s1, zR 6 1] p (hwV (kv37 p v1 v2 v3 s0 s1))) : ∀ (p : PM) (v1 : Nat) (v2 : Nat) (v3 : Int32) (d4 d5 d6 d7 d8 : ZV), Gr 0 p → bg8_match_7 F122 G122 kg37 p v1 v2 v3 → ZJ 0 121 7 [zR 8 1, zR 10 v1, zR 1 v2, zI v3, d4, d5, d6, d7, d8] [] p (hwV (bv8_match_7 F122 kv37 p v1 v2 v3)) := by
  intro p v1 v2 v3 d4 d5 d6 d7 d8 hg H
  exact rwV (n := 3000) (q := 7) (la := [zR 8 1, zR 10 v1, zR 1 v2, zI v3, d4, d5, d6, d7, d8]) (sa := []) (ks := [fun _ _ s => s, fun la sa s => kv37 s (ar la 1) (ar la 2) (ai la 3) (ai sa 0) (ar sa 1), fun _ _ s => s]) (gs := [fun _ _ _ => False, fun la sa s => zsw (tc2 la [(108, 1), (14, 0), (5, 0), (0, 0), (2, 0), (2, 0), (2, 0), (2, 0), (2, 0)] && tc2 sa [(0, 0), (5, 0), (106, 1)]) False (kg37 s (ar la 1) (ar la 2) (ai la 3) (ai sa 0) (ar sa 1)), fun _ _ _ => False]) (fcons o122 (fcons o80 (fcons o143 (fcons o13 (fcons o123 (fcons o125 (fcons o124 (fcons o93 (fcons o128 (fcons o79 (fnil))))))))))) tab121 pc121 ⟨fun _ _ _ _ H => H.elim, fun la sa s hg H => zcut H fun H => hk37 s (ar la 1) (ar la 2) (ai la 3) (ai sa 0) (ar sa 1) (zld la 4) (zld la 5) (zld la 6) (zld la 7) (zld la 8) hg H, fun _ _ _ _ H => H.elim, trivial⟩ hg H
theorem t8_match_7 : ∀ (n : Nat), ∀ (p : PM) (v1 : Nat) (v2 : Nat) (v3 : Int32) (d4 d5 d6 d7 d8 : ZV), Gr 0 p → g8_match_7 n p v1 v2 v3 → ZJ 0 121 7 [zR 8 1, zR 10 v1, zR 1 v2, zI v3, d4, d5, d6, d7, d8] [] p (hwV (v8_match_7 n p v1 v2 v3)) := by
  intro n
  induction n with
  | zero =>
    intro p v1 v2 v3 d4 d5 d6 d7 d8 hg H
    exact H.elim
  | succ n ih => exact r8_match_7 v8_settle g8_settle ok122 v6_bestPrice g6_bestPrice ok80 v10_allows g10_allows ok143 v1_isBeyondBand g1_isBeyondBand ok13 v8_gather g8_gather ok123 v8_share g8_share ok125 v8_meetsOwn g8_meetsOwn ok124 v6_beginAuction g6_beginAuction ok93 v8_strike g8_strike ok128 v6_showAnew g6_showAnew ok79 (v8_match_37 (v8_match_7 n)) (g8_match_37 (g8_match_7 n)) (t8_match_37 (v8_match_7 n) (g8_match_7 n) ih)
set_option maxRecDepth 100000 in
theorem r8_match (F122 : PM → Nat → PM) (G122 : PM → Nat → Prop) (o122 : CalOK 0 (CC122 F122 G122)) (F80 : PM → Nat → Int32 → Int32 → Int32) (G80 : PM → Nat → Int32 → Int32 → Prop) (o80 : CalOK 0 (CC80 F80 G80)) (F143 : PM → Nat → Int32 → Int32) (G143 : PM → Nat → Int32 → Prop) (o143 : CalOK 0 (CC143 F143 G143)) (F13 : PM → Nat → Int32 → Int32) (G13 : PM → Nat → Int32 → Prop) (o13 : CalOK 0 (CC13 F13 G13)) (F123 : PM → Nat → Int32 → Int32 × PM) (G123 : PM → Nat → Int32 → Prop) (o123 : CalOK 0 (CC123 F123 G123)) (F125 : PM → Nat → Int32 → Int32 → PM) (G125 : PM → Nat → Int32 → Int32 → Prop) (o125 : CalOK 0 (CC125 F125 G125)) (F124 : PM → Nat → Int32 → Int32 × PM) (G124 : PM → Nat → Int32 → Prop) (o124 : CalOK 0 (CC124 F124 G124)) (F93 : PM → Nat → Int32 → Int32 → Int32 × PM) (G93 : PM → Nat → Int32 → Int32 → Prop) (o93 : CalOK 0 (CC93 F93 G93)) (F128 : PM → Nat → Nat → Int32 → Int32 → PM) (G128 : PM → Nat → Nat → Int32 → Int32 → Prop) (o128 : CalOK 0 (CC128 F128 G128)) (F79 : PM → Nat → PM) (G79 : PM → Nat → Prop) (o79 : CalOK 0 (CC79 F79 G79)) (kv7 : PM → Nat → Nat → Int32 → PM) (kg7 : PM → Nat → Nat → Int32 → Prop) (hk7 : ∀ (p : PM) (v1 : Nat) (v2 : Nat) (v3 : Int32) (d4 d5 d6 d7 d8 : ZV), Gr 0 p → kg7 p v1 v2 v3 → ZJ 0 121 7 [zR 8 1, zR 10 v1, zR 1 v2, zI v3, d4, d5, d6, d7, d8] [] p (hwV (kv7 p v1 v2 v3))) : ∀ (p : PM) (v1 : Nat), Gr 0 p → bg8_match kg7 p v1 → ZJ 0 121 0 [zR 8 1, zR 10 v1, zJ, zJ, zJ, zJ, zJ, zJ, zJ] [] p (hwV (bv8_match kv7 p v1)) := by
  intro p v1  hg H
  exact rwV (n := 3000) (q := 0) (la := [zR 8 1, zR 10 v1, zJ, zJ, zJ, zJ, zJ, zJ, zJ]) (sa := []) (ks := [fun la sa s => kv7 s (ar la 1) (ar la 2) (ai la 3), fun _ _ s => s, fun _ _ s => s]) (gs := [fun la sa s => zsw (tc2 la [(108, 1), (14, 0), (5, 0), (0, 0), (2, 0), (2, 0), (2, 0), (2, 0), (2, 0)] && tc2 sa []) False (kg7 s (ar la 1) (ar la 2) (ai la 3)), fun _ _ _ => False, fun _ _ _ => False]) (fcons o122 (fcons o80 (fcons o143 (fcons o13 (fcons o123 (fcons o125 (fcons o124 (fcons o93 (fcons o128 (fcons o79 (fnil))))))))))) tab121 pc121 ⟨fun la sa s hg H => zcut H fun H => hk7 s (ar la 1) (ar la 2) (ai la 3) (zld la 4) (zld la 5) (zld la 6) (zld la 7) (zld la 8) hg H, fun _ _ _ _ H => H.elim, fun _ _ _ _ H => H.elim, trivial⟩ hg H
theorem t8_match : ∀ (p : PM) (v1 : Nat), Gr 0 p → g8_match p v1 → ZJ 0 121 0 [zR 8 1, zR 10 v1, zJ, zJ, zJ, zJ, zJ, zJ, zJ] [] p (hwV (v8_match p v1)) := r8_match v8_settle g8_settle ok122 v6_bestPrice g6_bestPrice ok80 v10_allows g10_allows ok143 v1_isBeyondBand g1_isBeyondBand ok13 v8_gather g8_gather ok123 v8_share g8_share ok125 v8_meetsOwn g8_meetsOwn ok124 v6_beginAuction g6_beginAuction ok93 v8_strike g8_strike ok128 v6_showAnew g6_showAnew ok79 (v8_match_7 FU) (g8_match_7 FU) (t8_match_7 FU)
def CC121 (F : PM → Nat → PM) (G : PM → Nat → Prop) : Cal := (121, [11, 13], 0, false, fun as p => (zJ, (F p (ar as 1))), fun as p => zsw (tc2 as [(108, 1), (14, 0)]) False (G p (ar as 1)))
set_option maxRecDepth 100000 in
theorem okr121 (F : PM → Nat → PM) (G : PM → Nat → Prop) (h : ∀ (p : PM) (v1 : Nat), Gr 0 p → G p v1 → ZJ 0 121 0 [zR 8 1, zR 10 v1, zJ, zJ, zJ, zJ, zJ, zJ, zJ] [] p (hwV (F p v1))) : CalOK 0 (CC121 F G) := cal_ok (m := 9) (by unfold mL; rw [mX_121]) (fun as p hg H => h p (ar as 1) hg H)
theorem ok121 : CalOK 0 (CC121 v8_match g8_match) := okr121 v8_match g8_match t8_match
noncomputable def bv5_place (F77 : PM → Nat → PM) (F121 : PM → Nat → PM) (p : PM) (v1 : Nat) : PM :=
  if (p.1 1 (p.2.2 10 v1 4) 5) = 0 then (
    let p1 : PM := F121 p v1
    p1)
  else (
    let p2 : PM := F77 p v1
    p2)
noncomputable def v5_place (p : PM) (v1 : Nat) : PM := bv5_place v6_stand v8_match p v1
noncomputable def bg5_place (F77 : PM → Nat → PM) (G77 : PM → Nat → Prop) (F121 : PM → Nat → PM) (G121 : PM → Nat → Prop) (p : PM) (v1 : Nat) : Prop :=
  (¬ v1 = 0) ∧ (
  (¬ (p.2.2 10 v1 4) = 0) ∧ (
  if (p.1 1 (p.2.2 10 v1 4) 5) = 0 then (
    (G121 p v1) ∧ (
    let p1 : PM := F121 p v1
    True))
  else (
    (G77 p v1) ∧ (
    let p2 : PM := F77 p v1
    True))))
noncomputable def g5_place (p : PM) (v1 : Nat) : Prop := bg5_place v6_stand g6_stand v8_match g8_match p v1
def R64 : List Row := [(0, .aload_n 1, 1, 0, (0, 0, 0, 0, 0, 0)), (1, .getfield 144, 3, 0, (10, 4, 4, 0, 0, 0)), (4, .getfield 148, 3, 0, (1, 5, 1, 0, 0, 0)), (7, .ifCond .eq 14, 3, 0, (0, 0, 0, 0, 0, 0)), (10, .aload_n 0, 1, 0, (0, 0, 0, 0, 0, 0)), (11, .getfield 34, 3, 0, (5, 0, 9, 2, 1, 0)), (14, .aload_n 1, 1, 0, (0, 0, 0, 0, 0, 0)), (15, .invokevirtual 151, 3, 0, (1, 2, 0, 0, 1, 0)), (18, .goto 11, 3, 0, (0, 0, 0, 0, 0, 0)), (21, .aload_n 0, 1, 0, (0, 0, 0, 0, 0, 0)), (22, .getfield 43, 3, 0, (5, 2, 11, 2, 1, 0)), (25, .aload_n 1, 1, 0, (0, 0, 0, 0, 0, 0)), (26, .invokevirtual 154, 3, 0, (0, 2, 0, 0, 1, 0)), (29, .return_, 1, 0, (0, 0, 0, 0, 0, 0))]
set_option maxRecDepth 100000 in
theorem rk64 : R64.all (rok 0 64 0 [(121, [11, 13]), (77, [9, 13])]) = true := by decide +kernel
set_option maxRecDepth 100000 in
theorem tab64 {F121 : PM → Nat → PM} {G121 : PM → Nat → Prop} {F77 : PM → Nat → PM} {G77 : PM → Nat → Prop} : TabOK 0 64 0 [CC121 F121 G121, CC77 F77 G77] R64 := tab_ok (K := K64) rfl rfl (fun h => d64 h) rk64 (by decide +kernel)
set_option maxRecDepth 100000 in
theorem pc64 : cutpc [] R64 = true := by decide +kernel
set_option maxRecDepth 100000 in
theorem r5_place (F121 : PM → Nat → PM) (G121 : PM → Nat → Prop) (o121 : CalOK 0 (CC121 F121 G121)) (F77 : PM → Nat → PM) (G77 : PM → Nat → Prop) (o77 : CalOK 0 (CC77 F77 G77)) : ∀ (p : PM) (v1 : Nat), Gr 0 p → bg5_place F77 G77 F121 G121 p v1 → ZJ 0 64 0 [zR 5 1, zR 10 v1] [] p (hwV (bv5_place F77 F121 p v1)) := by
  intro p v1  hg H
  exact rwV (n := 3000) (q := 0) (la := [zR 5 1, zR 10 v1]) (sa := []) (ks := []) (gs := []) (fcons o121 (fcons o77 (fnil))) tab64 pc64 trivial hg H
theorem t5_place : ∀ (p : PM) (v1 : Nat), Gr 0 p → g5_place p v1 → ZJ 0 64 0 [zR 5 1, zR 10 v1] [] p (hwV (v5_place p v1)) := r5_place v8_match g8_match ok121 v6_stand g6_stand ok77
def CC64 (F : PM → Nat → PM) (G : PM → Nat → Prop) : Cal := (64, [8, 13], 0, false, fun as p => (zJ, (F p (ar as 1))), fun as p => zsw (tc2 as [(105, 1), (14, 0)]) False (G p (ar as 1)))
set_option maxRecDepth 100000 in
theorem okr64 (F : PM → Nat → PM) (G : PM → Nat → Prop) (h : ∀ (p : PM) (v1 : Nat), Gr 0 p → G p v1 → ZJ 0 64 0 [zR 5 1, zR 10 v1] [] p (hwV (F p v1))) : CalOK 0 (CC64 F G) := cal_ok (m := 2) (by unfold mL; rw [mX_64]) (fun as p hg H => h p (ar as 1) hg H)
theorem ok64 : CalOK 0 (CC64 v5_place g5_place) := okr64 v5_place g5_place t5_place
noncomputable def bv5_tellLimit (F64 : PM → Nat → PM) (F73 : PM → Int32 → Nat) (F76 : PM → Nat → Nat → Int32 → Int32 → Int32 → Nat × PM) (F104 : PM → Int32 → Nat) (F120 : PM → Nat → Int64) (p : PM) (v1 : Int32) (v2 : Int32) (v3 : Int32) (v4 : Int32) (v5 : Int32) (v6 : Int32) : Int32 × PM :=
  if v6 = (cn (-100000)) then (
    let r5 : Nat × PM := F76 p (F104 p v1) (F73 p v2) v3 v4 (cn (-100000))
    if r5.1 = 0 then (
      ((cn (-100000)), r5.2))
    else (
      if 0 < v5 then (
        if (lg_cmp (F120 r5.2 r5.1) (v5).toInt64) < 0 then (
          let p8 : PM := pI r5.2 10 r5.1 2 (cn 0)
          ((p8.1 10 r5.1 0), p8))
        else (
          let p7 : PM := F64 r5.2 r5.1
          ((p7.1 10 r5.1 0), p7)))
      else (
        let p6 : PM := F64 r5.2 r5.1
        ((p6.1 10 r5.1 0), p6))))
  else (
    let r1 : Nat × PM := F76 p (F104 p v1) (F73 p v2) v3 v4 ((p.1 6 1 3) + v6)
    if r1.1 = 0 then (
      ((cn (-100000)), r1.2))
    else (
      if 0 < v5 then (
        if (lg_cmp (F120 r1.2 r1.1) (v5).toInt64) < 0 then (
          let p4 : PM := pI r1.2 10 r1.1 2 (cn 0)
          ((p4.1 10 r1.1 0), p4))
        else (
          let p3 : PM := F64 r1.2 r1.1
          ((p3.1 10 r1.1 0), p3)))
      else (
        let p2 : PM := F64 r1.2 r1.1
        ((p2.1 10 r1.1 0), p2))))
noncomputable def v5_tellLimit (p : PM) (v1 : Int32) (v2 : Int32) (v3 : Int32) (v4 : Int32) (v5 : Int32) (v6 : Int32) : Int32 × PM := bv5_tellLimit v5_place v6_bookAt v6_draw v7_accountAt v8_reachable p v1 v2 v3 v4 v5 v6
noncomputable def bg5_tellLimit (F64 : PM → Nat → PM) (G64 : PM → Nat → Prop) (F73 : PM → Int32 → Nat) (G73 : PM → Int32 → Prop) (F76 : PM → Nat → Nat → Int32 → Int32 → Int32 → Nat × PM) (G76 : PM → Nat → Nat → Int32 → Int32 → Int32 → Prop) (F104 : PM → Int32 → Nat) (G104 : PM → Int32 → Prop) (F120 : PM → Nat → Int64) (G120 : PM → Nat → Prop) (p : PM) (v1 : Int32) (v2 : Int32) (v3 : Int32) (v4 : Int32) (v5 : Int32) (v6 : Int32) : Prop :=
  if v6 = (cn (-100000)) then (
    (G104 p v1) ∧ (
    (G73 p v2) ∧ (
    (G76 p (F104 p v1) (F73 p v2) v3 v4 (cn (-100000))) ∧ (
    let r5 : Nat × PM := F76 p (F104 p v1) (F73 p v2) v3 v4 (cn (-100000))
    if r5.1 = 0 then (
      True)
    else (
      if 0 < v5 then (
        (G120 r5.2 r5.1) ∧ (
        if (lg_cmp (F120 r5.2 r5.1) (v5).toInt64) < 0 then (
          (¬ r5.1 = 0) ∧ (
          let p8 : PM := pI r5.2 10 r5.1 2 (cn 0)
          (¬ r5.1 = 0) ∧ (
          True)))
        else (
          (G64 r5.2 r5.1) ∧ (
          let p7 : PM := F64 r5.2 r5.1
          (¬ r5.1 = 0) ∧ (
          True)))))
      else (
        (G64 r5.2 r5.1) ∧ (
        let p6 : PM := F64 r5.2 r5.1
        (¬ r5.1 = 0) ∧ (
        True))))))))
  else (
    (G104 p v1) ∧ (
    (G73 p v2) ∧ (
    (G76 p (F104 p v1) (F73 p v2) v3 v4 ((p.1 6 1 3) + v6)) ∧ (
    let r1 : Nat × PM := F76 p (F104 p v1) (F73 p v2) v3 v4 ((p.1 6 1 3) + v6)
    if r1.1 = 0 then (
      True)
    else (
      if 0 < v5 then (
        (G120 r1.2 r1.1) ∧ (
        if (lg_cmp (F120 r1.2 r1.1) (v5).toInt64) < 0 then (
          (¬ r1.1 = 0) ∧ (
          let p4 : PM := pI r1.2 10 r1.1 2 (cn 0)
          (¬ r1.1 = 0) ∧ (
          True)))
        else (
          (G64 r1.2 r1.1) ∧ (
          let p3 : PM := F64 r1.2 r1.1
          (¬ r1.1 = 0) ∧ (
          True)))))
      else (
        (G64 r1.2 r1.1) ∧ (
        let p2 : PM := F64 r1.2 r1.1
        (¬ r1.1 = 0) ∧ (
        True))))))))
noncomputable def g5_tellLimit (p : PM) (v1 : Int32) (v2 : Int32) (v3 : Int32) (v4 : Int32) (v5 : Int32) (v6 : Int32) : Prop := bg5_tellLimit v5_place g5_place v6_bookAt g6_bookAt v6_draw g6_draw v7_accountAt g7_accountAt v8_reachable g8_reachable p v1 v2 v3 v4 v5 v6
def R58 : List Row := [(0, .iload 6, 2, 0, (0, 0, 0, 0, 0, 0)), (2, .ldc 95, 2, 0, (0, 0, 0, 0, 0, -100000)), (4, .if_icmp .ne 8, 3, 0, (0, 0, 0, 0, 0, 0)), (7, .ldc 95, 2, 0, (0, 0, 0, 0, 0, -100000)), (9, .goto 13, 3, 0, (0, 0, 0, 0, 0, 0)), (12, .aload_n 0, 1, 0, (0, 0, 0, 0, 0, 0)), (13, .getfield 34, 3, 0, (5, 0, 9, 2, 1, 0)), (16, .getfield 96, 3, 0, (6, 3, 0, 1, 0, 0)), (19, .iload 6, 2, 0, (0, 0, 0, 0, 0, 0)), (21, .iadd, 1, 0, (0, 0, 0, 0, 0, 0)), (22, .istore 7, 2, 0, (0, 0, 0, 0, 0, 0)), (24, .aload_n 0, 1, 0, (0, 0, 0, 0, 0, 0)), (25, .getfield 34, 3, 0, (5, 0, 9, 2, 1, 0)), (28, .aload_n 0, 1, 0, (0, 0, 0, 0, 0, 0)), (29, .getfield 19, 3, 0, (5, 1, 10, 2, 1, 0)), (32, .iload_n 1, 1, 0, (0, 0, 0, 0, 0, 0)), (33, .invokevirtual 27, 3, 0, (0, 2, 0, 0, 1, 0)), (36, .aload_n 0, 1, 0, (0, 0, 0, 0, 0, 0)), (37, .getfield 34, 3, 0, (5, 0, 9, 2, 1, 0)), (40, .iload_n 2, 1, 0, (0, 0, 0, 0, 0, 0)), (41, .invokevirtual 87, 3, 0, (1, 2, 0, 0, 1, 0)), (44, .iload_n 3, 1, 0, (0, 0, 0, 0, 0, 0)), (45, .iload 4, 2, 0, (0, 0, 0, 0, 0, 0)), (47, .iload 7, 2, 0, (0, 0, 0, 0, 0, 0)), (49, .invokevirtual 99, 3, 0, (2, 6, 0, 0, 1, 0)), (52, .astore 8, 2, 0, (0, 0, 0, 0, 0, 0)), (54, .aload 8, 2, 0, (0, 0, 0, 0, 0, 0)), (56, .ifnonnull 6, 3, 0, (0, 0, 0, 0, 0, 0)), (59, .ldc 95, 2, 0, (0, 0, 0, 0, 0, -100000)), (61, .ireturn, 1, 0, (0, 0, 0, 0, 0, 0)), (62, .iload 5, 2, 0, (0, 0, 0, 0, 0, 0)), (64, .ifCond .le 28, 3, 0, (0, 0, 0, 0, 0, 0)), (67, .aload_n 0, 1, 0, (0, 0, 0, 0, 0, 0)), (68, .getfield 43, 3, 0, (5, 2, 11, 2, 1, 0)), (71, .aload 8, 2, 0, (0, 0, 0, 0, 0, 0)), (73, .invokevirtual 103, 3, 0, (4, 2, 0, 0, 1, 0)), (76, .iload 5, 2, 0, (0, 0, 0, 0, 0, 0)), (78, .i2l, 1, 0, (0, 0, 0, 0, 0, 0)), (79, .lcmp, 1, 0, (0, 0, 0, 0, 0, 0)), (80, .ifCond .ge 12, 3, 0, (0, 0, 0, 0, 0, 0)), (83, .aload 8, 2, 0, (0, 0, 0, 0, 0, 0)), (85, .iconst 0, 1, 0, (0, 0, 0, 0, 0, 0)), (86, .putfield 107, 3, 0, (10, 2, 0, 0, 0, 0)), (89, .goto 9, 3, 0, (0, 0, 0, 0, 0, 0)), (92, .aload_n 0, 1, 0, (0, 0, 0, 0, 0, 0)), (93, .aload 8, 2, 0, (0, 0, 0, 0, 0, 0)), (95, .invokevirtual 112, 3, 0, (3, 2, 0, 0, 1, 0)), (98, .aload 8, 2, 0, (0, 0, 0, 0, 0, 0)), (100, .getfield 116, 3, 0, (10, 0, 0, 0, 0, 0)), (103, .ireturn, 1, 0, (0, 0, 0, 0, 0, 0))]
set_option maxRecDepth 100000 in
theorem rk58 : R58.all (rok 0 58 1 [(104, [10, 0]), (73, [9, 0]), (76, [9, 3, 4, 0, 0, 0]), (64, [8, 13]), (120, [11, 13])]) = true := by decide +kernel
set_option maxRecDepth 100000 in
theorem tab58 {F104 : PM → Int32 → Nat} {G104 : PM → Int32 → Prop} {F73 : PM → Int32 → Nat} {G73 : PM → Int32 → Prop} {F76 : PM → Nat → Nat → Int32 → Int32 → Int32 → Nat × PM} {G76 : PM → Nat → Nat → Int32 → Int32 → Int32 → Prop} {F64 : PM → Nat → PM} {G64 : PM → Nat → Prop} {F120 : PM → Nat → Int64} {G120 : PM → Nat → Prop} : TabOK 0 58 1 [CC104 F104 G104, CC73 F73 G73, CC76 F76 G76, CC64 F64 G64, CC120 F120 G120] R58 := tab_ok (K := K58) rfl rfl (fun h => d58 h) rk58 (by decide +kernel)
set_option maxRecDepth 100000 in
theorem pc58 : cutpc [] R58 = true := by decide +kernel
set_option maxRecDepth 100000 in
theorem r5_tellLimit (F104 : PM → Int32 → Nat) (G104 : PM → Int32 → Prop) (o104 : CalOK 0 (CC104 F104 G104)) (F73 : PM → Int32 → Nat) (G73 : PM → Int32 → Prop) (o73 : CalOK 0 (CC73 F73 G73)) (F76 : PM → Nat → Nat → Int32 → Int32 → Int32 → Nat × PM) (G76 : PM → Nat → Nat → Int32 → Int32 → Int32 → Prop) (o76 : CalOK 0 (CC76 F76 G76)) (F64 : PM → Nat → PM) (G64 : PM → Nat → Prop) (o64 : CalOK 0 (CC64 F64 G64)) (F120 : PM → Nat → Int64) (G120 : PM → Nat → Prop) (o120 : CalOK 0 (CC120 F120 G120)) : ∀ (p : PM) (v1 : Int32) (v2 : Int32) (v3 : Int32) (v4 : Int32) (v5 : Int32) (v6 : Int32), Gr 0 p → bg5_tellLimit F64 G64 F73 G73 F76 G76 F104 G104 F120 G120 p v1 v2 v3 v4 v5 v6 → ZJ 0 58 0 [zR 5 1, zI v1, zI v2, zI v3, zI v4, zI v5, zI v6, zJ, zJ] [] p (hwI (bv5_tellLimit F64 F73 F76 F104 F120 p v1 v2 v3 v4 v5 v6)) := by
  intro p v1 v2 v3 v4 v5 v6  hg H
  exact rwI (n := 3000) (q := 0) (la := [zR 5 1, zI v1, zI v2, zI v3, zI v4, zI v5, zI v6, zJ, zJ]) (sa := []) (ks := []) (gs := []) (fcons o104 (fcons o73 (fcons o76 (fcons o64 (fcons o120 (fnil)))))) tab58 pc58 trivial hg H
theorem t5_tellLimit : ∀ (p : PM) (v1 : Int32) (v2 : Int32) (v3 : Int32) (v4 : Int32) (v5 : Int32) (v6 : Int32), Gr 0 p → g5_tellLimit p v1 v2 v3 v4 v5 v6 → ZJ 0 58 0 [zR 5 1, zI v1, zI v2, zI v3, zI v4, zI v5, zI v6, zJ, zJ] [] p (hwI (v5_tellLimit p v1 v2 v3 v4 v5 v6)) := r5_tellLimit v7_accountAt g7_accountAt ok104 v6_bookAt g6_bookAt ok73 v6_draw g6_draw ok76 v5_place g5_place ok64 v8_reachable g8_reachable ok120
def CC58 (F : PM → Int32 → Int32 → Int32 → Int32 → Int32 → Int32 → Int32 × PM) (G : PM → Int32 → Int32 → Int32 → Int32 → Int32 → Int32 → Prop) : Cal := (58, [8, 0, 0, 0, 0, 0, 0], 1, false, fun as p => (zI (F p (ai as 1) (ai as 2) (ai as 3) (ai as 4) (ai as 5) (ai as 6)).1, (F p (ai as 1) (ai as 2) (ai as 3) (ai as 4) (ai as 5) (ai as 6)).2), fun as p => zsw (tc2 as [(105, 1), (0, 0), (0, 0), (0, 0), (0, 0), (0, 0), (0, 0)]) False (G p (ai as 1) (ai as 2) (ai as 3) (ai as 4) (ai as 5) (ai as 6)))
set_option maxRecDepth 100000 in
theorem okr58 (F : PM → Int32 → Int32 → Int32 → Int32 → Int32 → Int32 → Int32 × PM) (G : PM → Int32 → Int32 → Int32 → Int32 → Int32 → Int32 → Prop) (h : ∀ (p : PM) (v1 : Int32) (v2 : Int32) (v3 : Int32) (v4 : Int32) (v5 : Int32) (v6 : Int32), Gr 0 p → G p v1 v2 v3 v4 v5 v6 → ZJ 0 58 0 [zR 5 1, zI v1, zI v2, zI v3, zI v4, zI v5, zI v6, zJ, zJ] [] p (hwI (F p v1 v2 v3 v4 v5 v6))) : CalOK 0 (CC58 F G) := cal_ok (m := 9) (by unfold mL; rw [mX_58]) (fun as p hg H => h p (ai as 1) (ai as 2) (ai as 3) (ai as 4) (ai as 5) (ai as 6) hg H)
theorem ok58 : CalOK 0 (CC58 v5_tellLimit g5_tellLimit) := okr58 v5_tellLimit g5_tellLimit t5_tellLimit
noncomputable def bv5_tellMarket (F64 : PM → Nat → PM) (F73 : PM → Int32 → Nat) (F76 : PM → Nat → Nat → Int32 → Int32 → Int32 → Nat × PM) (F104 : PM → Int32 → Nat) (p : PM) (v1 : Int32) (v2 : Int32) (v3 : Int32) : Int32 × PM :=
  let r1 : Nat × PM := F76 p (F104 p v1) (F73 p v2) (cn (-100000)) v3 (p.1 6 1 3)
  if r1.1 = 0 then (
    ((cn (-100000)), r1.2))
  else (
    let p2 : PM := F64 r1.2 r1.1
    ((p2.1 10 r1.1 0), p2))
noncomputable def v5_tellMarket (p : PM) (v1 : Int32) (v2 : Int32) (v3 : Int32) : Int32 × PM := bv5_tellMarket v5_place v6_bookAt v6_draw v7_accountAt p v1 v2 v3
noncomputable def bg5_tellMarket (F64 : PM → Nat → PM) (G64 : PM → Nat → Prop) (F73 : PM → Int32 → Nat) (G73 : PM → Int32 → Prop) (F76 : PM → Nat → Nat → Int32 → Int32 → Int32 → Nat × PM) (G76 : PM → Nat → Nat → Int32 → Int32 → Int32 → Prop) (F104 : PM → Int32 → Nat) (G104 : PM → Int32 → Prop) (p : PM) (v1 : Int32) (v2 : Int32) (v3 : Int32) : Prop :=
  (G104 p v1) ∧ (
  (G73 p v2) ∧ (
  (G76 p (F104 p v1) (F73 p v2) (cn (-100000)) v3 (p.1 6 1 3)) ∧ (
  let r1 : Nat × PM := F76 p (F104 p v1) (F73 p v2) (cn (-100000)) v3 (p.1 6 1 3)
  if r1.1 = 0 then (
    True)
  else (
    (G64 r1.2 r1.1) ∧ (
    let p2 : PM := F64 r1.2 r1.1
    (¬ r1.1 = 0) ∧ (
    True))))))
noncomputable def g5_tellMarket (p : PM) (v1 : Int32) (v2 : Int32) (v3 : Int32) : Prop := bg5_tellMarket v5_place g5_place v6_bookAt g6_bookAt v6_draw g6_draw v7_accountAt g7_accountAt p v1 v2 v3
def R59 : List Row := [(0, .aload_n 0, 1, 0, (0, 0, 0, 0, 0, 0)), (1, .getfield 34, 3, 0, (5, 0, 9, 2, 1, 0)), (4, .aload_n 0, 1, 0, (0, 0, 0, 0, 0, 0)), (5, .getfield 19, 3, 0, (5, 1, 10, 2, 1, 0)), (8, .iload_n 1, 1, 0, (0, 0, 0, 0, 0, 0)), (9, .invokevirtual 27, 3, 0, (0, 2, 0, 0, 1, 0)), (12, .aload_n 0, 1, 0, (0, 0, 0, 0, 0, 0)), (13, .getfield 34, 3, 0, (5, 0, 9, 2, 1, 0)), (16, .iload_n 2, 1, 0, (0, 0, 0, 0, 0, 0)), (17, .invokevirtual 87, 3, 0, (1, 2, 0, 0, 1, 0)), (20, .ldc 95, 2, 0, (0, 0, 0, 0, 0, -100000)), (22, .iload_n 3, 1, 0, (0, 0, 0, 0, 0, 0)), (23, .aload_n 0, 1, 0, (0, 0, 0, 0, 0, 0)), (24, .getfield 34, 3, 0, (5, 0, 9, 2, 1, 0)), (27, .getfield 96, 3, 0, (6, 3, 0, 1, 0, 0)), (30, .invokevirtual 99, 3, 0, (2, 6, 0, 0, 1, 0)), (33, .astore 4, 2, 0, (0, 0, 0, 0, 0, 0)), (35, .aload 4, 2, 0, (0, 0, 0, 0, 0, 0)), (37, .ifnonnull 6, 3, 0, (0, 0, 0, 0, 0, 0)), (40, .ldc 95, 2, 0, (0, 0, 0, 0, 0, -100000)), (42, .ireturn, 1, 0, (0, 0, 0, 0, 0, 0)), (43, .aload_n 0, 1, 0, (0, 0, 0, 0, 0, 0)), (44, .aload 4, 2, 0, (0, 0, 0, 0, 0, 0)), (46, .invokevirtual 112, 3, 0, (3, 2, 0, 0, 1, 0)), (49, .aload 4, 2, 0, (0, 0, 0, 0, 0, 0)), (51, .getfield 116, 3, 0, (10, 0, 0, 0, 0, 0)), (54, .ireturn, 1, 0, (0, 0, 0, 0, 0, 0))]
set_option maxRecDepth 100000 in
theorem rk59 : R59.all (rok 0 59 1 [(104, [10, 0]), (73, [9, 0]), (76, [9, 3, 4, 0, 0, 0]), (64, [8, 13])]) = true := by decide +kernel
set_option maxRecDepth 100000 in
theorem tab59 {F104 : PM → Int32 → Nat} {G104 : PM → Int32 → Prop} {F73 : PM → Int32 → Nat} {G73 : PM → Int32 → Prop} {F76 : PM → Nat → Nat → Int32 → Int32 → Int32 → Nat × PM} {G76 : PM → Nat → Nat → Int32 → Int32 → Int32 → Prop} {F64 : PM → Nat → PM} {G64 : PM → Nat → Prop} : TabOK 0 59 1 [CC104 F104 G104, CC73 F73 G73, CC76 F76 G76, CC64 F64 G64] R59 := tab_ok (K := K59) rfl rfl (fun h => d59 h) rk59 (by decide +kernel)
set_option maxRecDepth 100000 in
theorem pc59 : cutpc [] R59 = true := by decide +kernel
set_option maxRecDepth 100000 in
theorem r5_tellMarket (F104 : PM → Int32 → Nat) (G104 : PM → Int32 → Prop) (o104 : CalOK 0 (CC104 F104 G104)) (F73 : PM → Int32 → Nat) (G73 : PM → Int32 → Prop) (o73 : CalOK 0 (CC73 F73 G73)) (F76 : PM → Nat → Nat → Int32 → Int32 → Int32 → Nat × PM) (G76 : PM → Nat → Nat → Int32 → Int32 → Int32 → Prop) (o76 : CalOK 0 (CC76 F76 G76)) (F64 : PM → Nat → PM) (G64 : PM → Nat → Prop) (o64 : CalOK 0 (CC64 F64 G64)) : ∀ (p : PM) (v1 : Int32) (v2 : Int32) (v3 : Int32), Gr 0 p → bg5_tellMarket F64 G64 F73 G73 F76 G76 F104 G104 p v1 v2 v3 → ZJ 0 59 0 [zR 5 1, zI v1, zI v2, zI v3, zJ] [] p (hwI (bv5_tellMarket F64 F73 F76 F104 p v1 v2 v3)) := by
  intro p v1 v2 v3  hg H
  exact rwI (n := 3000) (q := 0) (la := [zR 5 1, zI v1, zI v2, zI v3, zJ]) (sa := []) (ks := []) (gs := []) (fcons o104 (fcons o73 (fcons o76 (fcons o64 (fnil))))) tab59 pc59 trivial hg H
theorem t5_tellMarket : ∀ (p : PM) (v1 : Int32) (v2 : Int32) (v3 : Int32), Gr 0 p → g5_tellMarket p v1 v2 v3 → ZJ 0 59 0 [zR 5 1, zI v1, zI v2, zI v3, zJ] [] p (hwI (v5_tellMarket p v1 v2 v3)) := r5_tellMarket v7_accountAt g7_accountAt ok104 v6_bookAt g6_bookAt ok73 v6_draw g6_draw ok76 v5_place g5_place ok64
def CC59 (F : PM → Int32 → Int32 → Int32 → Int32 × PM) (G : PM → Int32 → Int32 → Int32 → Prop) : Cal := (59, [8, 0, 0, 0], 1, false, fun as p => (zI (F p (ai as 1) (ai as 2) (ai as 3)).1, (F p (ai as 1) (ai as 2) (ai as 3)).2), fun as p => zsw (tc2 as [(105, 1), (0, 0), (0, 0), (0, 0)]) False (G p (ai as 1) (ai as 2) (ai as 3)))
set_option maxRecDepth 100000 in
theorem okr59 (F : PM → Int32 → Int32 → Int32 → Int32 × PM) (G : PM → Int32 → Int32 → Int32 → Prop) (h : ∀ (p : PM) (v1 : Int32) (v2 : Int32) (v3 : Int32), Gr 0 p → G p v1 v2 v3 → ZJ 0 59 0 [zR 5 1, zI v1, zI v2, zI v3, zJ] [] p (hwI (F p v1 v2 v3))) : CalOK 0 (CC59 F G) := cal_ok (m := 5) (by unfold mL; rw [mX_59]) (fun as p hg H => h p (ai as 1) (ai as 2) (ai as 3) hg H)
theorem ok59 : CalOK 0 (CC59 v5_tellMarket g5_tellMarket) := okr59 v5_tellMarket g5_tellMarket t5_tellMarket
noncomputable def bv5_tellIceberg (F64 : PM → Nat → PM) (F73 : PM → Int32 → Nat) (F76 : PM → Nat → Nat → Int32 → Int32 → Int32 → Nat × PM) (F104 : PM → Int32 → Nat) (p : PM) (v1 : Int32) (v2 : Int32) (v3 : Int32) (v4 : Int32) (v5 : Int32) : Int32 × PM :=
  let r1 : Nat × PM := F76 p (F104 p v1) (F73 p v2) v3 v4 (p.1 6 1 3)
  if r1.1 = 0 then (
    ((cn (-100000)), r1.2))
  else (
    let p2 : PM := pI r1.2 10 r1.1 10 v5
    let p3 : PM := F64 p2 r1.1
    ((p3.1 10 r1.1 0), p3))
noncomputable def v5_tellIceberg (p : PM) (v1 : Int32) (v2 : Int32) (v3 : Int32) (v4 : Int32) (v5 : Int32) : Int32 × PM := bv5_tellIceberg v5_place v6_bookAt v6_draw v7_accountAt p v1 v2 v3 v4 v5
noncomputable def bg5_tellIceberg (F64 : PM → Nat → PM) (G64 : PM → Nat → Prop) (F73 : PM → Int32 → Nat) (G73 : PM → Int32 → Prop) (F76 : PM → Nat → Nat → Int32 → Int32 → Int32 → Nat × PM) (G76 : PM → Nat → Nat → Int32 → Int32 → Int32 → Prop) (F104 : PM → Int32 → Nat) (G104 : PM → Int32 → Prop) (p : PM) (v1 : Int32) (v2 : Int32) (v3 : Int32) (v4 : Int32) (v5 : Int32) : Prop :=
  (G104 p v1) ∧ (
  (G73 p v2) ∧ (
  (G76 p (F104 p v1) (F73 p v2) v3 v4 (p.1 6 1 3)) ∧ (
  let r1 : Nat × PM := F76 p (F104 p v1) (F73 p v2) v3 v4 (p.1 6 1 3)
  if r1.1 = 0 then (
    True)
  else (
    (¬ r1.1 = 0) ∧ (
    let p2 : PM := pI r1.2 10 r1.1 10 v5
    (G64 p2 r1.1) ∧ (
    let p3 : PM := F64 p2 r1.1
    (¬ r1.1 = 0) ∧ (
    True)))))))
noncomputable def g5_tellIceberg (p : PM) (v1 : Int32) (v2 : Int32) (v3 : Int32) (v4 : Int32) (v5 : Int32) : Prop := bg5_tellIceberg v5_place g5_place v6_bookAt g6_bookAt v6_draw g6_draw v7_accountAt g7_accountAt p v1 v2 v3 v4 v5
def R60 : List Row := [(0, .aload_n 0, 1, 0, (0, 0, 0, 0, 0, 0)), (1, .getfield 34, 3, 0, (5, 0, 9, 2, 1, 0)), (4, .aload_n 0, 1, 0, (0, 0, 0, 0, 0, 0)), (5, .getfield 19, 3, 0, (5, 1, 10, 2, 1, 0)), (8, .iload_n 1, 1, 0, (0, 0, 0, 0, 0, 0)), (9, .invokevirtual 27, 3, 0, (0, 2, 0, 0, 1, 0)), (12, .aload_n 0, 1, 0, (0, 0, 0, 0, 0, 0)), (13, .getfield 34, 3, 0, (5, 0, 9, 2, 1, 0)), (16, .iload_n 2, 1, 0, (0, 0, 0, 0, 0, 0)), (17, .invokevirtual 87, 3, 0, (1, 2, 0, 0, 1, 0)), (20, .iload_n 3, 1, 0, (0, 0, 0, 0, 0, 0)), (21, .iload 4, 2, 0, (0, 0, 0, 0, 0, 0)), (23, .aload_n 0, 1, 0, (0, 0, 0, 0, 0, 0)), (24, .getfield 34, 3, 0, (5, 0, 9, 2, 1, 0)), (27, .getfield 96, 3, 0, (6, 3, 0, 1, 0, 0)), (30, .invokevirtual 99, 3, 0, (2, 6, 0, 0, 1, 0)), (33, .astore 6, 2, 0, (0, 0, 0, 0, 0, 0)), (35, .aload 6, 2, 0, (0, 0, 0, 0, 0, 0)), (37, .ifnonnull 6, 3, 0, (0, 0, 0, 0, 0, 0)), (40, .ldc 95, 2, 0, (0, 0, 0, 0, 0, -100000)), (42, .ireturn, 1, 0, (0, 0, 0, 0, 0, 0)), (43, .aload 6, 2, 0, (0, 0, 0, 0, 0, 0)), (45, .iload 5, 2, 0, (0, 0, 0, 0, 0, 0)), (47, .putfield 119, 3, 0, (10, 10, 0, 0, 0, 0)), (50, .aload_n 0, 1, 0, (0, 0, 0, 0, 0, 0)), (51, .aload 6, 2, 0, (0, 0, 0, 0, 0, 0)), (53, .invokevirtual 112, 3, 0, (3, 2, 0, 0, 1, 0)), (56, .aload 6, 2, 0, (0, 0, 0, 0, 0, 0)), (58, .getfield 116, 3, 0, (10, 0, 0, 0, 0, 0)), (61, .ireturn, 1, 0, (0, 0, 0, 0, 0, 0))]
set_option maxRecDepth 100000 in
theorem rk60 : R60.all (rok 0 60 1 [(104, [10, 0]), (73, [9, 0]), (76, [9, 3, 4, 0, 0, 0]), (64, [8, 13])]) = true := by decide +kernel
set_option maxRecDepth 100000 in
theorem tab60 {F104 : PM → Int32 → Nat} {G104 : PM → Int32 → Prop} {F73 : PM → Int32 → Nat} {G73 : PM → Int32 → Prop} {F76 : PM → Nat → Nat → Int32 → Int32 → Int32 → Nat × PM} {G76 : PM → Nat → Nat → Int32 → Int32 → Int32 → Prop} {F64 : PM → Nat → PM} {G64 : PM → Nat → Prop} : TabOK 0 60 1 [CC104 F104 G104, CC73 F73 G73, CC76 F76 G76, CC64 F64 G64] R60 := tab_ok (K := K60) rfl rfl (fun h => d60 h) rk60 (by decide +kernel)
set_option maxRecDepth 100000 in
theorem pc60 : cutpc [] R60 = true := by decide +kernel
set_option maxRecDepth 100000 in
theorem r5_tellIceberg (F104 : PM → Int32 → Nat) (G104 : PM → Int32 → Prop) (o104 : CalOK 0 (CC104 F104 G104)) (F73 : PM → Int32 → Nat) (G73 : PM → Int32 → Prop) (o73 : CalOK 0 (CC73 F73 G73)) (F76 : PM → Nat → Nat → Int32 → Int32 → Int32 → Nat × PM) (G76 : PM → Nat → Nat → Int32 → Int32 → Int32 → Prop) (o76 : CalOK 0 (CC76 F76 G76)) (F64 : PM → Nat → PM) (G64 : PM → Nat → Prop) (o64 : CalOK 0 (CC64 F64 G64)) : ∀ (p : PM) (v1 : Int32) (v2 : Int32) (v3 : Int32) (v4 : Int32) (v5 : Int32), Gr 0 p → bg5_tellIceberg F64 G64 F73 G73 F76 G76 F104 G104 p v1 v2 v3 v4 v5 → ZJ 0 60 0 [zR 5 1, zI v1, zI v2, zI v3, zI v4, zI v5, zJ] [] p (hwI (bv5_tellIceberg F64 F73 F76 F104 p v1 v2 v3 v4 v5)) := by
  intro p v1 v2 v3 v4 v5  hg H
  exact rwI (n := 3000) (q := 0) (la := [zR 5 1, zI v1, zI v2, zI v3, zI v4, zI v5, zJ]) (sa := []) (ks := []) (gs := []) (fcons o104 (fcons o73 (fcons o76 (fcons o64 (fnil))))) tab60 pc60 trivial hg H
theorem t5_tellIceberg : ∀ (p : PM) (v1 : Int32) (v2 : Int32) (v3 : Int32) (v4 : Int32) (v5 : Int32), Gr 0 p → g5_tellIceberg p v1 v2 v3 v4 v5 → ZJ 0 60 0 [zR 5 1, zI v1, zI v2, zI v3, zI v4, zI v5, zJ] [] p (hwI (v5_tellIceberg p v1 v2 v3 v4 v5)) := r5_tellIceberg v7_accountAt g7_accountAt ok104 v6_bookAt g6_bookAt ok73 v6_draw g6_draw ok76 v5_place g5_place ok64
def CC60 (F : PM → Int32 → Int32 → Int32 → Int32 → Int32 → Int32 × PM) (G : PM → Int32 → Int32 → Int32 → Int32 → Int32 → Prop) : Cal := (60, [8, 0, 0, 0, 0, 0], 1, false, fun as p => (zI (F p (ai as 1) (ai as 2) (ai as 3) (ai as 4) (ai as 5)).1, (F p (ai as 1) (ai as 2) (ai as 3) (ai as 4) (ai as 5)).2), fun as p => zsw (tc2 as [(105, 1), (0, 0), (0, 0), (0, 0), (0, 0), (0, 0)]) False (G p (ai as 1) (ai as 2) (ai as 3) (ai as 4) (ai as 5)))
set_option maxRecDepth 100000 in
theorem okr60 (F : PM → Int32 → Int32 → Int32 → Int32 → Int32 → Int32 × PM) (G : PM → Int32 → Int32 → Int32 → Int32 → Int32 → Prop) (h : ∀ (p : PM) (v1 : Int32) (v2 : Int32) (v3 : Int32) (v4 : Int32) (v5 : Int32), Gr 0 p → G p v1 v2 v3 v4 v5 → ZJ 0 60 0 [zR 5 1, zI v1, zI v2, zI v3, zI v4, zI v5, zJ] [] p (hwI (F p v1 v2 v3 v4 v5))) : CalOK 0 (CC60 F G) := cal_ok (m := 7) (by unfold mL; rw [mX_60]) (fun as p hg H => h p (ai as 1) (ai as 2) (ai as 3) (ai as 4) (ai as 5) hg H)
theorem ok60 : CalOK 0 (CC60 v5_tellIceberg g5_tellIceberg) := okr60 v5_tellIceberg g5_tellIceberg t5_tellIceberg
noncomputable def bv5_tellPeg (F73 : PM → Int32 → Nat) (F76 : PM → Nat → Nat → Int32 → Int32 → Int32 → Nat × PM) (F104 : PM → Int32 → Nat) (p : PM) (v1 : Int32) (v2 : Int32) (v3 : Int32) (v4 : Int32) (v5 : Int32) : Int32 × PM :=
  let r1 : Nat × PM := F76 p (F104 p v1) (F73 p v2) v3 v4 (p.1 6 1 3)
  if r1.1 = 0 then (
    ((cn (-100000)), r1.2))
  else (
    let p2 : PM := pI r1.2 10 r1.1 1 (cn 1)
    let p3 : PM := pI p2 10 r1.1 13 v5
    ((p3.1 10 r1.1 0), p3))
noncomputable def v5_tellPeg (p : PM) (v1 : Int32) (v2 : Int32) (v3 : Int32) (v4 : Int32) (v5 : Int32) : Int32 × PM := bv5_tellPeg v6_bookAt v6_draw v7_accountAt p v1 v2 v3 v4 v5
noncomputable def bg5_tellPeg (F73 : PM → Int32 → Nat) (G73 : PM → Int32 → Prop) (F76 : PM → Nat → Nat → Int32 → Int32 → Int32 → Nat × PM) (G76 : PM → Nat → Nat → Int32 → Int32 → Int32 → Prop) (F104 : PM → Int32 → Nat) (G104 : PM → Int32 → Prop) (p : PM) (v1 : Int32) (v2 : Int32) (v3 : Int32) (v4 : Int32) (v5 : Int32) : Prop :=
  (G104 p v1) ∧ (
  (G73 p v2) ∧ (
  (G76 p (F104 p v1) (F73 p v2) v3 v4 (p.1 6 1 3)) ∧ (
  let r1 : Nat × PM := F76 p (F104 p v1) (F73 p v2) v3 v4 (p.1 6 1 3)
  if r1.1 = 0 then (
    True)
  else (
    (¬ r1.1 = 0) ∧ (
    let p2 : PM := pI r1.2 10 r1.1 1 (cn 1)
    (¬ r1.1 = 0) ∧ (
    let p3 : PM := pI p2 10 r1.1 13 v5
    (¬ r1.1 = 0) ∧ (
    True)))))))
noncomputable def g5_tellPeg (p : PM) (v1 : Int32) (v2 : Int32) (v3 : Int32) (v4 : Int32) (v5 : Int32) : Prop := bg5_tellPeg v6_bookAt g6_bookAt v6_draw g6_draw v7_accountAt g7_accountAt p v1 v2 v3 v4 v5
def R61 : List Row := [(0, .aload_n 0, 1, 0, (0, 0, 0, 0, 0, 0)), (1, .getfield 34, 3, 0, (5, 0, 9, 2, 1, 0)), (4, .aload_n 0, 1, 0, (0, 0, 0, 0, 0, 0)), (5, .getfield 19, 3, 0, (5, 1, 10, 2, 1, 0)), (8, .iload_n 1, 1, 0, (0, 0, 0, 0, 0, 0)), (9, .invokevirtual 27, 3, 0, (0, 2, 0, 0, 1, 0)), (12, .aload_n 0, 1, 0, (0, 0, 0, 0, 0, 0)), (13, .getfield 34, 3, 0, (5, 0, 9, 2, 1, 0)), (16, .iload_n 2, 1, 0, (0, 0, 0, 0, 0, 0)), (17, .invokevirtual 87, 3, 0, (1, 2, 0, 0, 1, 0)), (20, .iload_n 3, 1, 0, (0, 0, 0, 0, 0, 0)), (21, .iload 4, 2, 0, (0, 0, 0, 0, 0, 0)), (23, .aload_n 0, 1, 0, (0, 0, 0, 0, 0, 0)), (24, .getfield 34, 3, 0, (5, 0, 9, 2, 1, 0)), (27, .getfield 96, 3, 0, (6, 3, 0, 1, 0, 0)), (30, .invokevirtual 99, 3, 0, (2, 6, 0, 0, 1, 0)), (33, .astore 6, 2, 0, (0, 0, 0, 0, 0, 0)), (35, .aload 6, 2, 0, (0, 0, 0, 0, 0, 0)), (37, .ifnonnull 6, 3, 0, (0, 0, 0, 0, 0, 0)), (40, .ldc 95, 2, 0, (0, 0, 0, 0, 0, -100000)), (42, .ireturn, 1, 0, (0, 0, 0, 0, 0, 0)), (43, .aload 6, 2, 0, (0, 0, 0, 0, 0, 0)), (45, .iconst 1, 1, 0, (0, 0, 0, 0, 0, 1)), (46, .putfield 122, 3, 0, (10, 1, 0, 0, 0, 0)), (49, .aload 6, 2, 0, (0, 0, 0, 0, 0, 0)), (51, .iload 5, 2, 0, (0, 0, 0, 0, 0, 0)), (53, .putfield 125, 3, 0, (10, 13, 0, 0, 0, 0)), (56, .aload 6, 2, 0, (0, 0, 0, 0, 0, 0)), (58, .getfield 116, 3, 0, (10, 0, 0, 0, 0, 0)), (61, .ireturn, 1, 0, (0, 0, 0, 0, 0, 0))]
set_option maxRecDepth 100000 in
theorem rk61 : R61.all (rok 0 61 1 [(104, [10, 0]), (73, [9, 0]), (76, [9, 3, 4, 0, 0, 0])]) = true := by decide +kernel
set_option maxRecDepth 100000 in
theorem tab61 {F104 : PM → Int32 → Nat} {G104 : PM → Int32 → Prop} {F73 : PM → Int32 → Nat} {G73 : PM → Int32 → Prop} {F76 : PM → Nat → Nat → Int32 → Int32 → Int32 → Nat × PM} {G76 : PM → Nat → Nat → Int32 → Int32 → Int32 → Prop} : TabOK 0 61 1 [CC104 F104 G104, CC73 F73 G73, CC76 F76 G76] R61 := tab_ok (K := K61) rfl rfl (fun h => d61 h) rk61 (by decide +kernel)
set_option maxRecDepth 100000 in
theorem pc61 : cutpc [] R61 = true := by decide +kernel
set_option maxRecDepth 100000 in
theorem r5_tellPeg (F104 : PM → Int32 → Nat) (G104 : PM → Int32 → Prop) (o104 : CalOK 0 (CC104 F104 G104)) (F73 : PM → Int32 → Nat) (G73 : PM → Int32 → Prop) (o73 : CalOK 0 (CC73 F73 G73)) (F76 : PM → Nat → Nat → Int32 → Int32 → Int32 → Nat × PM) (G76 : PM → Nat → Nat → Int32 → Int32 → Int32 → Prop) (o76 : CalOK 0 (CC76 F76 G76)) : ∀ (p : PM) (v1 : Int32) (v2 : Int32) (v3 : Int32) (v4 : Int32) (v5 : Int32), Gr 0 p → bg5_tellPeg F73 G73 F76 G76 F104 G104 p v1 v2 v3 v4 v5 → ZJ 0 61 0 [zR 5 1, zI v1, zI v2, zI v3, zI v4, zI v5, zJ] [] p (hwI (bv5_tellPeg F73 F76 F104 p v1 v2 v3 v4 v5)) := by
  intro p v1 v2 v3 v4 v5  hg H
  exact rwI (n := 3000) (q := 0) (la := [zR 5 1, zI v1, zI v2, zI v3, zI v4, zI v5, zJ]) (sa := []) (ks := []) (gs := []) (fcons o104 (fcons o73 (fcons o76 (fnil)))) tab61 pc61 trivial hg H
theorem t5_tellPeg : ∀ (p : PM) (v1 : Int32) (v2 : Int32) (v3 : Int32) (v4 : Int32) (v5 : Int32), Gr 0 p → g5_tellPeg p v1 v2 v3 v4 v5 → ZJ 0 61 0 [zR 5 1, zI v1, zI v2, zI v3, zI v4, zI v5, zJ] [] p (hwI (v5_tellPeg p v1 v2 v3 v4 v5)) := r5_tellPeg v7_accountAt g7_accountAt ok104 v6_bookAt g6_bookAt ok73 v6_draw g6_draw ok76
def CC61 (F : PM → Int32 → Int32 → Int32 → Int32 → Int32 → Int32 × PM) (G : PM → Int32 → Int32 → Int32 → Int32 → Int32 → Prop) : Cal := (61, [8, 0, 0, 0, 0, 0], 1, false, fun as p => (zI (F p (ai as 1) (ai as 2) (ai as 3) (ai as 4) (ai as 5)).1, (F p (ai as 1) (ai as 2) (ai as 3) (ai as 4) (ai as 5)).2), fun as p => zsw (tc2 as [(105, 1), (0, 0), (0, 0), (0, 0), (0, 0), (0, 0)]) False (G p (ai as 1) (ai as 2) (ai as 3) (ai as 4) (ai as 5)))
set_option maxRecDepth 100000 in
theorem okr61 (F : PM → Int32 → Int32 → Int32 → Int32 → Int32 → Int32 × PM) (G : PM → Int32 → Int32 → Int32 → Int32 → Int32 → Prop) (h : ∀ (p : PM) (v1 : Int32) (v2 : Int32) (v3 : Int32) (v4 : Int32) (v5 : Int32), Gr 0 p → G p v1 v2 v3 v4 v5 → ZJ 0 61 0 [zR 5 1, zI v1, zI v2, zI v3, zI v4, zI v5, zJ] [] p (hwI (F p v1 v2 v3 v4 v5))) : CalOK 0 (CC61 F G) := cal_ok (m := 7) (by unfold mL; rw [mX_61]) (fun as p hg H => h p (ai as 1) (ai as 2) (ai as 3) (ai as 4) (ai as 5) hg H)
theorem ok61 : CalOK 0 (CC61 v5_tellPeg g5_tellPeg) := okr61 v5_tellPeg g5_tellPeg t5_tellPeg
noncomputable def bv5_tellStop (F73 : PM → Int32 → Nat) (F76 : PM → Nat → Nat → Int32 → Int32 → Int32 → Nat × PM) (F104 : PM → Int32 → Nat) (p : PM) (v1 : Int32) (v2 : Int32) (v3 : Int32) (v4 : Int32) (v5 : Int32) : Int32 × PM :=
  if v4 = 0 then (
    let r4 : Nat × PM := F76 p (F104 p v1) (F73 p v2) (cn (-100000)) v5 (p.1 6 1 3)
    if r4.1 = 0 then (
      ((cn (-100000)), r4.2))
    else (
      let p5 : PM := pI r4.2 10 r4.1 1 (cn 2)
      let p6 : PM := pI p5 10 r4.1 14 v3
      ((p6.1 10 r4.1 0), p6)))
  else (
    let r1 : Nat × PM := F76 p (F104 p v1) (F73 p v2) v4 v5 (p.1 6 1 3)
    if r1.1 = 0 then (
      ((cn (-100000)), r1.2))
    else (
      let p2 : PM := pI r1.2 10 r1.1 1 (cn 2)
      let p3 : PM := pI p2 10 r1.1 14 v3
      ((p3.1 10 r1.1 0), p3)))
noncomputable def v5_tellStop (p : PM) (v1 : Int32) (v2 : Int32) (v3 : Int32) (v4 : Int32) (v5 : Int32) : Int32 × PM := bv5_tellStop v6_bookAt v6_draw v7_accountAt p v1 v2 v3 v4 v5
noncomputable def bg5_tellStop (F73 : PM → Int32 → Nat) (G73 : PM → Int32 → Prop) (F76 : PM → Nat → Nat → Int32 → Int32 → Int32 → Nat × PM) (G76 : PM → Nat → Nat → Int32 → Int32 → Int32 → Prop) (F104 : PM → Int32 → Nat) (G104 : PM → Int32 → Prop) (p : PM) (v1 : Int32) (v2 : Int32) (v3 : Int32) (v4 : Int32) (v5 : Int32) : Prop :=
  if v4 = 0 then (
    (G104 p v1) ∧ (
    (G73 p v2) ∧ (
    (G76 p (F104 p v1) (F73 p v2) (cn (-100000)) v5 (p.1 6 1 3)) ∧ (
    let r4 : Nat × PM := F76 p (F104 p v1) (F73 p v2) (cn (-100000)) v5 (p.1 6 1 3)
    if r4.1 = 0 then (
      True)
    else (
      (¬ r4.1 = 0) ∧ (
      let p5 : PM := pI r4.2 10 r4.1 1 (cn 2)
      (¬ r4.1 = 0) ∧ (
      let p6 : PM := pI p5 10 r4.1 14 v3
      (¬ r4.1 = 0) ∧ (
      True))))))))
  else (
    (G104 p v1) ∧ (
    (G73 p v2) ∧ (
    (G76 p (F104 p v1) (F73 p v2) v4 v5 (p.1 6 1 3)) ∧ (
    let r1 : Nat × PM := F76 p (F104 p v1) (F73 p v2) v4 v5 (p.1 6 1 3)
    if r1.1 = 0 then (
      True)
    else (
      (¬ r1.1 = 0) ∧ (
      let p2 : PM := pI r1.2 10 r1.1 1 (cn 2)
      (¬ r1.1 = 0) ∧ (
      let p3 : PM := pI p2 10 r1.1 14 v3
      (¬ r1.1 = 0) ∧ (
      True))))))))
noncomputable def g5_tellStop (p : PM) (v1 : Int32) (v2 : Int32) (v3 : Int32) (v4 : Int32) (v5 : Int32) : Prop := bg5_tellStop v6_bookAt g6_bookAt v6_draw g6_draw v7_accountAt g7_accountAt p v1 v2 v3 v4 v5
def R62 : List Row := [(0, .iload 4, 2, 0, (0, 0, 0, 0, 0, 0)), (2, .ifCond .ne 8, 3, 0, (0, 0, 0, 0, 0, 0)), (5, .ldc 95, 2, 0, (0, 0, 0, 0, 0, -100000)), (7, .goto 5, 3, 0, (0, 0, 0, 0, 0, 0)), (10, .iload 4, 2, 0, (0, 0, 0, 0, 0, 0)), (12, .istore 6, 2, 0, (0, 0, 0, 0, 0, 0)), (14, .aload_n 0, 1, 0, (0, 0, 0, 0, 0, 0)), (15, .getfield 34, 3, 0, (5, 0, 9, 2, 1, 0)), (18, .aload_n 0, 1, 0, (0, 0, 0, 0, 0, 0)), (19, .getfield 19, 3, 0, (5, 1, 10, 2, 1, 0)), (22, .iload_n 1, 1, 0, (0, 0, 0, 0, 0, 0)), (23, .invokevirtual 27, 3, 0, (0, 2, 0, 0, 1, 0)), (26, .aload_n 0, 1, 0, (0, 0, 0, 0, 0, 0)), (27, .getfield 34, 3, 0, (5, 0, 9, 2, 1, 0)), (30, .iload_n 2, 1, 0, (0, 0, 0, 0, 0, 0)), (31, .invokevirtual 87, 3, 0, (1, 2, 0, 0, 1, 0)), (34, .iload 6, 2, 0, (0, 0, 0, 0, 0, 0)), (36, .iload 5, 2, 0, (0, 0, 0, 0, 0, 0)), (38, .aload_n 0, 1, 0, (0, 0, 0, 0, 0, 0)), (39, .getfield 34, 3, 0, (5, 0, 9, 2, 1, 0)), (42, .getfield 96, 3, 0, (6, 3, 0, 1, 0, 0)), (45, .invokevirtual 99, 3, 0, (2, 6, 0, 0, 1, 0)), (48, .astore 7, 2, 0, (0, 0, 0, 0, 0, 0)), (50, .aload 7, 2, 0, (0, 0, 0, 0, 0, 0)), (52, .ifnonnull 6, 3, 0, (0, 0, 0, 0, 0, 0)), (55, .ldc 95, 2, 0, (0, 0, 0, 0, 0, -100000)), (57, .ireturn, 1, 0, (0, 0, 0, 0, 0, 0)), (58, .aload 7, 2, 0, (0, 0, 0, 0, 0, 0)), (60, .iconst 2, 1, 0, (0, 0, 0, 0, 0, 2)), (61, .putfield 122, 3, 0, (10, 1, 0, 0, 0, 0)), (64, .aload 7, 2, 0, (0, 0, 0, 0, 0, 0)), (66, .iload_n 3, 1, 0, (0, 0, 0, 0, 0, 0)), (67, .putfield 128, 3, 0, (10, 14, 0, 0, 0, 0)), (70, .aload 7, 2, 0, (0, 0, 0, 0, 0, 0)), (72, .getfield 116, 3, 0, (10, 0, 0, 0, 0, 0)), (75, .ireturn, 1, 0, (0, 0, 0, 0, 0, 0))]
set_option maxRecDepth 100000 in
theorem rk62 : R62.all (rok 0 62 1 [(104, [10, 0]), (73, [9, 0]), (76, [9, 3, 4, 0, 0, 0])]) = true := by decide +kernel
set_option maxRecDepth 100000 in
theorem tab62 {F104 : PM → Int32 → Nat} {G104 : PM → Int32 → Prop} {F73 : PM → Int32 → Nat} {G73 : PM → Int32 → Prop} {F76 : PM → Nat → Nat → Int32 → Int32 → Int32 → Nat × PM} {G76 : PM → Nat → Nat → Int32 → Int32 → Int32 → Prop} : TabOK 0 62 1 [CC104 F104 G104, CC73 F73 G73, CC76 F76 G76] R62 := tab_ok (K := K62) rfl rfl (fun h => d62 h) rk62 (by decide +kernel)
set_option maxRecDepth 100000 in
theorem pc62 : cutpc [] R62 = true := by decide +kernel
set_option maxRecDepth 100000 in
theorem r5_tellStop (F104 : PM → Int32 → Nat) (G104 : PM → Int32 → Prop) (o104 : CalOK 0 (CC104 F104 G104)) (F73 : PM → Int32 → Nat) (G73 : PM → Int32 → Prop) (o73 : CalOK 0 (CC73 F73 G73)) (F76 : PM → Nat → Nat → Int32 → Int32 → Int32 → Nat × PM) (G76 : PM → Nat → Nat → Int32 → Int32 → Int32 → Prop) (o76 : CalOK 0 (CC76 F76 G76)) : ∀ (p : PM) (v1 : Int32) (v2 : Int32) (v3 : Int32) (v4 : Int32) (v5 : Int32), Gr 0 p → bg5_tellStop F73 G73 F76 G76 F104 G104 p v1 v2 v3 v4 v5 → ZJ 0 62 0 [zR 5 1, zI v1, zI v2, zI v3, zI v4, zI v5, zJ, zJ] [] p (hwI (bv5_tellStop F73 F76 F104 p v1 v2 v3 v4 v5)) := by
  intro p v1 v2 v3 v4 v5  hg H
  exact rwI (n := 3000) (q := 0) (la := [zR 5 1, zI v1, zI v2, zI v3, zI v4, zI v5, zJ, zJ]) (sa := []) (ks := []) (gs := []) (fcons o104 (fcons o73 (fcons o76 (fnil)))) tab62 pc62 trivial hg H
theorem t5_tellStop : ∀ (p : PM) (v1 : Int32) (v2 : Int32) (v3 : Int32) (v4 : Int32) (v5 : Int32), Gr 0 p → g5_tellStop p v1 v2 v3 v4 v5 → ZJ 0 62 0 [zR 5 1, zI v1, zI v2, zI v3, zI v4, zI v5, zJ, zJ] [] p (hwI (v5_tellStop p v1 v2 v3 v4 v5)) := r5_tellStop v7_accountAt g7_accountAt ok104 v6_bookAt g6_bookAt ok73 v6_draw g6_draw ok76
def CC62 (F : PM → Int32 → Int32 → Int32 → Int32 → Int32 → Int32 × PM) (G : PM → Int32 → Int32 → Int32 → Int32 → Int32 → Prop) : Cal := (62, [8, 0, 0, 0, 0, 0], 1, false, fun as p => (zI (F p (ai as 1) (ai as 2) (ai as 3) (ai as 4) (ai as 5)).1, (F p (ai as 1) (ai as 2) (ai as 3) (ai as 4) (ai as 5)).2), fun as p => zsw (tc2 as [(105, 1), (0, 0), (0, 0), (0, 0), (0, 0), (0, 0)]) False (G p (ai as 1) (ai as 2) (ai as 3) (ai as 4) (ai as 5)))
set_option maxRecDepth 100000 in
theorem okr62 (F : PM → Int32 → Int32 → Int32 → Int32 → Int32 → Int32 × PM) (G : PM → Int32 → Int32 → Int32 → Int32 → Int32 → Prop) (h : ∀ (p : PM) (v1 : Int32) (v2 : Int32) (v3 : Int32) (v4 : Int32) (v5 : Int32), Gr 0 p → G p v1 v2 v3 v4 v5 → ZJ 0 62 0 [zR 5 1, zI v1, zI v2, zI v3, zI v4, zI v5, zJ, zJ] [] p (hwI (F p v1 v2 v3 v4 v5))) : CalOK 0 (CC62 F G) := cal_ok (m := 8) (by unfold mL; rw [mX_62]) (fun as p hg H => h p (ai as 1) (ai as 2) (ai as 3) (ai as 4) (ai as 5) hg H)
theorem ok62 : CalOK 0 (CC62 v5_tellStop g5_tellStop) := okr62 v5_tellStop g5_tellStop t5_tellStop
noncomputable def bv6_withdrawQuote_12 (kv12 : PM → Nat → Nat → Int32 → PM) (p : PM) (v1 : Nat) (v2 : Nat) (v5 : Int32) : PM :=
  if v5 < (cn 40) then (
    if (p.1 10 ((v5).toNatClampNeg + 1) 1) = (cn 3) then (
      if (p.2.2 10 ((v5).toNatClampNeg + 1) 3) = v1 then (
        if (p.2.2 10 ((v5).toNatClampNeg + 1) 4) = v2 then (
          let p1 : PM := pI p 10 ((v5).toNatClampNeg + 1) 2 (cn 0)
          kv12 p1 v1 v2 (v5 + (cn 1)))
        else (
          kv12 p v1 v2 (v5 + (cn 1))))
      else (
        kv12 p v1 v2 (v5 + (cn 1))))
    else (
      kv12 p v1 v2 (v5 + (cn 1))))
  else (
    p)
noncomputable def v6_withdrawQuote_12 (n : Nat) : PM → Nat → Nat → Int32 → PM := Nat.rec (motive := fun _ => PM → Nat → Nat → Int32 → PM) (fun p _ _ _ => p) (fun _ ih => bv6_withdrawQuote_12 ih) n
theorem ev6_withdrawQuote_12 (n : Nat) (p : PM) (v1 : Nat) (v2 : Nat) (v5 : Int32) : v6_withdrawQuote_12 (n + 1) p v1 v2 v5 = bv6_withdrawQuote_12 (v6_withdrawQuote_12 n) p v1 v2 v5 := rfl
noncomputable def bg6_withdrawQuote_12 (kg12 : PM → Nat → Nat → Int32 → Prop) (p : PM) (v1 : Nat) (v2 : Nat) (v5 : Int32) : Prop :=
  if v5 < (cn 40) then (
    (inb v5 40) ∧ (
    if (p.1 10 ((v5).toNatClampNeg + 1) 1) = (cn 3) then (
      if (p.2.2 10 ((v5).toNatClampNeg + 1) 3) = v1 then (
        if (p.2.2 10 ((v5).toNatClampNeg + 1) 4) = v2 then (
          let p1 : PM := pI p 10 ((v5).toNatClampNeg + 1) 2 (cn 0)
          kg12 p1 v1 v2 (v5 + (cn 1)))
        else (
          kg12 p v1 v2 (v5 + (cn 1))))
      else (
        kg12 p v1 v2 (v5 + (cn 1))))
    else (
      kg12 p v1 v2 (v5 + (cn 1)))))
  else (
    True)
noncomputable def g6_withdrawQuote_12 (n : Nat) : PM → Nat → Nat → Int32 → Prop := Nat.rec (motive := fun _ => PM → Nat → Nat → Int32 → Prop) (fun _ _ _ _ => False) (fun _ ih => bg6_withdrawQuote_12 ih) n
theorem eg6_withdrawQuote_12 (n : Nat) (p : PM) (v1 : Nat) (v2 : Nat) (v5 : Int32) : g6_withdrawQuote_12 (n + 1) p v1 v2 v5 = bg6_withdrawQuote_12 (g6_withdrawQuote_12 n) p v1 v2 v5 := rfl
noncomputable def bv6_withdrawQuote (kv12 : PM → Nat → Nat → Int32 → PM) (p : PM) (v1 : Nat) (v2 : Nat) : PM :=
  kv12 p v1 v2 (cn 0)
noncomputable def v6_withdrawQuote (p : PM) (v1 : Nat) (v2 : Nat) : PM := bv6_withdrawQuote (v6_withdrawQuote_12 FU) p v1 v2
noncomputable def bg6_withdrawQuote (kg12 : PM → Nat → Nat → Int32 → Prop) (p : PM) (v1 : Nat) (v2 : Nat) : Prop :=
  kg12 p v1 v2 (cn 0)
noncomputable def g6_withdrawQuote (p : PM) (v1 : Nat) (v2 : Nat) : Prop := bg6_withdrawQuote (g6_withdrawQuote_12 FU) p v1 v2
def R86 : List Row := [(0, .aload_n 0, 1, 0, (0, 0, 0, 0, 0, 0)), (1, .getfield 11, 3, 0, (6, 1, 23, 2, 1, 0)), (4, .astore_n 3, 1, 0, (0, 0, 0, 0, 0, 0)), (5, .aload_n 3, 1, 0, (0, 0, 0, 0, 0, 0)), (6, .arraylength, 1, 0, (20, 40, 0, 0, 0, 40)), (7, .istore 4, 2, 0, (0, 0, 0, 0, 0, 0)), (9, .iconst 0, 1, 0, (0, 0, 0, 0, 0, 0)), (10, .istore 5, 2, 0, (0, 0, 0, 0, 0, 0)), (12, .iload 5, 2, 1, (0, 0, 0, 0, 0, 0)), (14, .iload 4, 2, 0, (0, 0, 0, 0, 0, 0)), (16, .if_icmp .ge 48, 3, 0, (0, 0, 0, 0, 0, 0)), (19, .aload_n 3, 1, 0, (0, 0, 0, 0, 0, 0)), (20, .iload 5, 2, 0, (0, 0, 0, 0, 0, 0)), (22, .aaload, 1, 0, (20, 40, 0, 1, 1, 0)), (23, .astore 6, 2, 0, (0, 0, 0, 0, 0, 0)), (25, .aload 6, 2, 0, (0, 0, 0, 0, 0, 0)), (27, .getfield 76, 3, 0, (10, 1, 0, 1, 0, 0)), (30, .iconst 3, 1, 0, (0, 0, 0, 0, 0, 3)), (31, .if_icmp .ne 27, 3, 0, (0, 0, 0, 0, 0, 0)), (34, .aload 6, 2, 0, (0, 0, 0, 0, 0, 0)), (36, .getfield 115, 3, 0, (10, 3, 3, 1, 0, 0)), (39, .aload_n 1, 1, 0, (0, 0, 0, 0, 0, 0)), (40, .if_acmp .ne 18, 3, 0, (0, 0, 0, 0, 0, 0)), (43, .aload 6, 2, 0, (0, 0, 0, 0, 0, 0)), (45, .getfield 130, 3, 0, (10, 4, 4, 1, 0, 0)), (48, .aload_n 2, 1, 0, (0, 0, 0, 0, 0, 0)), (49, .if_acmp .ne 9, 3, 0, (0, 0, 0, 0, 0, 0)), (52, .aload 6, 2, 0, (0, 0, 0, 0, 0, 0)), (54, .iconst 0, 1, 0, (0, 0, 0, 0, 0, 0)), (55, .putfield 29, 3, 0, (10, 2, 0, 1, 0, 0)), (58, .iinc 5 1, 3, 0, (0, 0, 0, 0, 0, 1)), (61, .goto (-49), 3, 0, (0, 0, 0, 0, 0, 0)), (64, .return_, 1, 0, (0, 0, 0, 0, 0, 0))]
set_option maxRecDepth 100000 in
theorem rk86 : R86.all (rok 0 86 0 []) = true := by decide +kernel
set_option maxRecDepth 100000 in
theorem tab86 : TabOK 0 86 0 [] R86 := tab_ok (K := K86) rfl rfl (fun h => d86 h) rk86 (by decide +kernel)
set_option maxRecDepth 100000 in
theorem pc86 : cutpc [12] R86 = true := by decide +kernel
set_option maxRecDepth 100000 in
theorem r6_withdrawQuote_12 (kv12 : PM → Nat → Nat → Int32 → PM) (kg12 : PM → Nat → Nat → Int32 → Prop) (hk12 : ∀ (p : PM) (v1 : Nat) (v2 : Nat) (v5 : Int32) (d0 d6 : ZV), Gr 0 p → kg12 p v1 v2 v5 → ZJ 0 86 12 [d0, zR 0 v1, zR 1 v2, zR 20 1, zC 40, zI v5, d6] [] p (hwV (kv12 p v1 v2 v5))) : ∀ (p : PM) (v1 : Nat) (v2 : Nat) (v5 : Int32) (d0 d6 : ZV), Gr 0 p → bg6_withdrawQuote_12 kg12 p v1 v2 v5 → ZJ 0 86 12 [d0, zR 0 v1, zR 1 v2, zR 20 1, zC 40, zI v5, d6] [] p (hwV (bv6_withdrawQuote_12 kv12 p v1 v2 v5)) := by
  intro p v1 v2 v5 d0 d6 hg H
  exact rwV (n := 3000) (q := 12) (la := [d0, zR 0 v1, zR 1 v2, zR 20 1, zC 40, zI v5, d6]) (sa := []) (ks := [fun la sa s => kv12 s (ar la 1) (ar la 2) (ai la 5)]) (gs := [fun la sa s => zsw (tc2 la [(2, 0), (4, 0), (5, 0), (120, 1), (3, 40), (0, 0), (2, 0)] && tc2 sa []) False (kg12 s (ar la 1) (ar la 2) (ai la 5))]) (fnil) tab86 pc86 ⟨fun la sa s hg H => zcut H fun H => hk12 s (ar la 1) (ar la 2) (ai la 5) (zld la 0) (zld la 6) hg H, trivial⟩ hg H
theorem t6_withdrawQuote_12 : ∀ (n : Nat), ∀ (p : PM) (v1 : Nat) (v2 : Nat) (v5 : Int32) (d0 d6 : ZV), Gr 0 p → g6_withdrawQuote_12 n p v1 v2 v5 → ZJ 0 86 12 [d0, zR 0 v1, zR 1 v2, zR 20 1, zC 40, zI v5, d6] [] p (hwV (v6_withdrawQuote_12 n p v1 v2 v5)) := by
  intro n
  induction n with
  | zero =>
    intro p v1 v2 v5 d0 d6 hg H
    exact H.elim
  | succ n ih => exact r6_withdrawQuote_12 (v6_withdrawQuote_12 n) (g6_withdrawQuote_12 n) ih
set_option maxRecDepth 100000 in
theorem r6_withdrawQuote (kv12 : PM → Nat → Nat → Int32 → PM) (kg12 : PM → Nat → Nat → Int32 → Prop) (hk12 : ∀ (p : PM) (v1 : Nat) (v2 : Nat) (v5 : Int32) (d0 d6 : ZV), Gr 0 p → kg12 p v1 v2 v5 → ZJ 0 86 12 [d0, zR 0 v1, zR 1 v2, zR 20 1, zC 40, zI v5, d6] [] p (hwV (kv12 p v1 v2 v5))) : ∀ (p : PM) (v1 : Nat) (v2 : Nat), Gr 0 p → bg6_withdrawQuote kg12 p v1 v2 → ZJ 0 86 0 [zR 6 1, zR 0 v1, zR 1 v2, zJ, zJ, zJ, zJ] [] p (hwV (bv6_withdrawQuote kv12 p v1 v2)) := by
  intro p v1 v2  hg H
  exact rwV (n := 3000) (q := 0) (la := [zR 6 1, zR 0 v1, zR 1 v2, zJ, zJ, zJ, zJ]) (sa := []) (ks := [fun la sa s => kv12 s (ar la 1) (ar la 2) (ai la 5)]) (gs := [fun la sa s => zsw (tc2 la [(2, 0), (4, 0), (5, 0), (120, 1), (3, 40), (0, 0), (2, 0)] && tc2 sa []) False (kg12 s (ar la 1) (ar la 2) (ai la 5))]) (fnil) tab86 pc86 ⟨fun la sa s hg H => zcut H fun H => hk12 s (ar la 1) (ar la 2) (ai la 5) (zld la 0) (zld la 6) hg H, trivial⟩ hg H
theorem t6_withdrawQuote : ∀ (p : PM) (v1 : Nat) (v2 : Nat), Gr 0 p → g6_withdrawQuote p v1 v2 → ZJ 0 86 0 [zR 6 1, zR 0 v1, zR 1 v2, zJ, zJ, zJ, zJ] [] p (hwV (v6_withdrawQuote p v1 v2)) := r6_withdrawQuote (v6_withdrawQuote_12 FU) (g6_withdrawQuote_12 FU) (t6_withdrawQuote_12 FU)
def CC86 (F : PM → Nat → Nat → PM) (G : PM → Nat → Nat → Prop) : Cal := (86, [9, 3, 4], 0, false, fun as p => (zJ, (F p (ar as 1) (ar as 2))), fun as p => zsw (tc2 as [(106, 1), (4, 0), (5, 0)]) False (G p (ar as 1) (ar as 2)))
set_option maxRecDepth 100000 in
theorem okr86 (F : PM → Nat → Nat → PM) (G : PM → Nat → Nat → Prop) (h : ∀ (p : PM) (v1 : Nat) (v2 : Nat), Gr 0 p → G p v1 v2 → ZJ 0 86 0 [zR 6 1, zR 0 v1, zR 1 v2, zJ, zJ, zJ, zJ] [] p (hwV (F p v1 v2))) : CalOK 0 (CC86 F G) := cal_ok (m := 7) (by unfold mL; rw [mX_86]) (fun as p hg H => h p (ar as 1) (ar as 2) hg H)
theorem ok86 : CalOK 0 (CC86 v6_withdrawQuote g6_withdrawQuote) := okr86 v6_withdrawQuote g6_withdrawQuote t6_withdrawQuote
noncomputable def bv5_tellQuote (F64 : PM → Nat → PM) (F73 : PM → Int32 → Nat) (F76 : PM → Nat → Nat → Int32 → Int32 → Int32 → Nat × PM) (F86 : PM → Nat → Nat → PM) (F104 : PM → Int32 → Nat) (p : PM) (v1 : Int32) (v2 : Int32) (v3 : Int32) (v4 : Int32) (v5 : Int32) : Int32 × PM :=
  let p1 : PM := F86 p (F104 p v1) (F73 p v2)
  let p2 : PM := pI p1 0 (F104 p v1) 6 (cn 0)
  let p3 : PM := pI p2 0 (F104 p v1) 7 (cn 0)
  let r4 : Nat × PM := F76 p3 (F104 p v1) (F73 p3 v2) v3 v5 (p3.1 6 1 3)
  if r4.1 = 0 then (
    if (r4.2.1 0 (F104 p v1) 7) = 0 then (
      let r5 : Nat × PM := F76 r4.2 (F104 p v1) (F73 r4.2 v2) v4 (-v5) (r4.2.1 6 1 3)
      if r5.1 = 0 then (
        ((p3.1 6 1 4), r5.2))
      else (
        let p6 : PM := pI r5.2 10 r5.1 1 (cn 3)
        let p7 : PM := F64 p6 r5.1
        ((p3.1 6 1 4), p7)))
    else (
      let p8 : PM := pI r4.2 6 1 4 ((r4.2.1 6 1 4) + (cn 1))
      ((p3.1 6 1 4), p8)))
  else (
    let p9 : PM := pI r4.2 10 r4.1 1 (cn 3)
    let p10 : PM := F64 p9 r4.1
    if (p10.1 0 (F104 p v1) 7) = 0 then (
      let r11 : Nat × PM := F76 p10 (F104 p v1) (F73 p10 v2) v4 (-v5) (p10.1 6 1 3)
      if r11.1 = 0 then (
        ((p3.1 6 1 4), r11.2))
      else (
        let p12 : PM := pI r11.2 10 r11.1 1 (cn 3)
        let p13 : PM := F64 p12 r11.1
        ((p3.1 6 1 4), p13)))
    else (
      let p14 : PM := pI p10 6 1 4 ((p10.1 6 1 4) + (cn 1))
      ((p3.1 6 1 4), p14)))
noncomputable def v5_tellQuote (p : PM) (v1 : Int32) (v2 : Int32) (v3 : Int32) (v4 : Int32) (v5 : Int32) : Int32 × PM := bv5_tellQuote v5_place v6_bookAt v6_draw v6_withdrawQuote v7_accountAt p v1 v2 v3 v4 v5
noncomputable def bg5_tellQuote (F64 : PM → Nat → PM) (G64 : PM → Nat → Prop) (F73 : PM → Int32 → Nat) (G73 : PM → Int32 → Prop) (F76 : PM → Nat → Nat → Int32 → Int32 → Int32 → Nat × PM) (G76 : PM → Nat → Nat → Int32 → Int32 → Int32 → Prop) (F86 : PM → Nat → Nat → PM) (G86 : PM → Nat → Nat → Prop) (F104 : PM → Int32 → Nat) (G104 : PM → Int32 → Prop) (p : PM) (v1 : Int32) (v2 : Int32) (v3 : Int32) (v4 : Int32) (v5 : Int32) : Prop :=
  (G104 p v1) ∧ (
  (G73 p v2) ∧ (
  (G86 p (F104 p v1) (F73 p v2)) ∧ (
  let p1 : PM := F86 p (F104 p v1) (F73 p v2)
  (¬ (F104 p v1) = 0) ∧ (
  let p2 : PM := pI p1 0 (F104 p v1) 6 (cn 0)
  (¬ (F104 p v1) = 0) ∧ (
  let p3 : PM := pI p2 0 (F104 p v1) 7 (cn 0)
  (G73 p3 v2) ∧ (
  (G76 p3 (F104 p v1) (F73 p3 v2) v3 v5 (p3.1 6 1 3)) ∧ (
  let r4 : Nat × PM := F76 p3 (F104 p v1) (F73 p3 v2) v3 v5 (p3.1 6 1 3)
  if r4.1 = 0 then (
    (¬ (F104 p v1) = 0) ∧ (
    if (r4.2.1 0 (F104 p v1) 7) = 0 then (
      (G73 r4.2 v2) ∧ (
      (G76 r4.2 (F104 p v1) (F73 r4.2 v2) v4 (-v5) (r4.2.1 6 1 3)) ∧ (
      let r5 : Nat × PM := F76 r4.2 (F104 p v1) (F73 r4.2 v2) v4 (-v5) (r4.2.1 6 1 3)
      if r5.1 = 0 then (
        True)
      else (
        (¬ r5.1 = 0) ∧ (
        let p6 : PM := pI r5.2 10 r5.1 1 (cn 3)
        (G64 p6 r5.1) ∧ (
        let p7 : PM := F64 p6 r5.1
        True))))))
    else (
      let p8 : PM := pI r4.2 6 1 4 ((r4.2.1 6 1 4) + (cn 1))
      True)))
  else (
    (¬ r4.1 = 0) ∧ (
    let p9 : PM := pI r4.2 10 r4.1 1 (cn 3)
    (G64 p9 r4.1) ∧ (
    let p10 : PM := F64 p9 r4.1
    (¬ (F104 p v1) = 0) ∧ (
    if (p10.1 0 (F104 p v1) 7) = 0 then (
      (G73 p10 v2) ∧ (
      (G76 p10 (F104 p v1) (F73 p10 v2) v4 (-v5) (p10.1 6 1 3)) ∧ (
      let r11 : Nat × PM := F76 p10 (F104 p v1) (F73 p10 v2) v4 (-v5) (p10.1 6 1 3)
      if r11.1 = 0 then (
        True)
      else (
        (¬ r11.1 = 0) ∧ (
        let p12 : PM := pI r11.2 10 r11.1 1 (cn 3)
        (G64 p12 r11.1) ∧ (
        let p13 : PM := F64 p12 r11.1
        True))))))
    else (
      let p14 : PM := pI p10 6 1 4 ((p10.1 6 1 4) + (cn 1))
      True))))))))))))
noncomputable def g5_tellQuote (p : PM) (v1 : Int32) (v2 : Int32) (v3 : Int32) (v4 : Int32) (v5 : Int32) : Prop := bg5_tellQuote v5_place g5_place v6_bookAt g6_bookAt v6_draw g6_draw v6_withdrawQuote g6_withdrawQuote v7_accountAt g7_accountAt p v1 v2 v3 v4 v5
def R63 : List Row := [(0, .aload_n 0, 1, 0, (0, 0, 0, 0, 0, 0)), (1, .getfield 19, 3, 0, (5, 1, 10, 2, 1, 0)), (4, .iload_n 1, 1, 0, (0, 0, 0, 0, 0, 0)), (5, .invokevirtual 27, 3, 0, (0, 2, 0, 0, 1, 0)), (8, .astore 6, 2, 0, (0, 0, 0, 0, 0, 0)), (10, .aload_n 0, 1, 0, (0, 0, 0, 0, 0, 0)), (11, .getfield 34, 3, 0, (5, 0, 9, 2, 1, 0)), (14, .aload 6, 2, 0, (0, 0, 0, 0, 0, 0)), (16, .aload_n 0, 1, 0, (0, 0, 0, 0, 0, 0)), (17, .getfield 34, 3, 0, (5, 0, 9, 2, 1, 0)), (20, .iload_n 2, 1, 0, (0, 0, 0, 0, 0, 0)), (21, .invokevirtual 87, 3, 0, (1, 2, 0, 0, 1, 0)), (24, .invokevirtual 131, 3, 0, (2, 3, 0, 0, 1, 0)), (27, .aload 6, 2, 0, (0, 0, 0, 0, 0, 0)), (29, .iconst 0, 1, 0, (0, 0, 0, 0, 0, 0)), (30, .putfield 135, 3, 0, (0, 6, 0, 0, 0, 0)), (33, .aload 6, 2, 0, (0, 0, 0, 0, 0, 0)), (35, .iconst 0, 1, 0, (0, 0, 0, 0, 0, 0)), (36, .putfield 138, 3, 0, (0, 7, 1, 0, 0, 0)), (39, .aload_n 0, 1, 0, (0, 0, 0, 0, 0, 0)), (40, .getfield 34, 3, 0, (5, 0, 9, 2, 1, 0)), (43, .getfield 141, 3, 0, (6, 4, 0, 1, 0, 0)), (46, .istore 7, 2, 0, (0, 0, 0, 0, 0, 0)), (48, .aload_n 0, 1, 0, (0, 0, 0, 0, 0, 0)), (49, .getfield 34, 3, 0, (5, 0, 9, 2, 1, 0)), (52, .aload 6, 2, 0, (0, 0, 0, 0, 0, 0)), (54, .aload_n 0, 1, 0, (0, 0, 0, 0, 0, 0)), (55, .getfield 34, 3, 0, (5, 0, 9, 2, 1, 0)), (58, .iload_n 2, 1, 0, (0, 0, 0, 0, 0, 0)), (59, .invokevirtual 87, 3, 0, (1, 2, 0, 0, 1, 0)), (62, .iload_n 3, 1, 0, (0, 0, 0, 0, 0, 0)), (63, .iload 5, 2, 0, (0, 0, 0, 0, 0, 0)), (65, .aload_n 0, 1, 0, (0, 0, 0, 0, 0, 0)), (66, .getfield 34, 3, 0, (5, 0, 9, 2, 1, 0)), (69, .getfield 96, 3, 0, (6, 3, 0, 1, 0, 0)), (72, .invokevirtual 99, 3, 0, (3, 6, 0, 0, 1, 0)), (75, .astore 8, 2, 0, (0, 0, 0, 0, 0, 0)), (77, .aload 8, 2, 0, (0, 0, 0, 0, 0, 0)), (79, .ifnull 15, 3, 0, (0, 0, 0, 0, 0, 0)), (82, .aload 8, 2, 0, (0, 0, 0, 0, 0, 0)), (84, .iconst 3, 1, 0, (0, 0, 0, 0, 0, 3)), (85, .putfield 122, 3, 0, (10, 1, 0, 0, 0, 0)), (88, .aload_n 0, 1, 0, (0, 0, 0, 0, 0, 0)), (89, .aload 8, 2, 0, (0, 0, 0, 0, 0, 0)), (91, .invokevirtual 112, 3, 0, (4, 2, 0, 0, 1, 0)), (94, .aload 6, 2, 0, (0, 0, 0, 0, 0, 0)), (96, .getfield 138, 3, 0, (0, 7, 1, 0, 0, 0)), (99, .ifCond .eq 19, 3, 0, (0, 0, 0, 0, 0, 0)), (102, .aload_n 0, 1, 0, (0, 0, 0, 0, 0, 0)), (103, .getfield 34, 3, 0, (5, 0, 9, 2, 1, 0)), (106, .dup, 1, 0, (0, 0, 0, 0, 0, 0)), (107, .getfield 141, 3, 0, (6, 4, 0, 1, 0, 0)), (110, .iconst 1, 1, 0, (0, 0, 0, 0, 0, 1)), (111, .iadd, 1, 0, (0, 0, 0, 0, 0, 0)), (112, .putfield 141, 3, 0, (6, 4, 0, 1, 0, 0)), (115, .iload 7, 2, 0, (0, 0, 0, 0, 0, 0)), (117, .ireturn, 1, 0, (0, 0, 0, 0, 0, 0)), (118, .aload_n 0, 1, 0, (0, 0, 0, 0, 0, 0)), (119, .getfield 34, 3, 0, (5, 0, 9, 2, 1, 0)), (122, .aload 6, 2, 0, (0, 0, 0, 0, 0, 0)), (124, .aload_n 0, 1, 0, (0, 0, 0, 0, 0, 0)), (125, .getfield 34, 3, 0, (5, 0, 9, 2, 1, 0)), (128, .iload_n 2, 1, 0, (0, 0, 0, 0, 0, 0)), (129, .invokevirtual 87, 3, 0, (1, 2, 0, 0, 1, 0)), (132, .iload 4, 2, 0, (0, 0, 0, 0, 0, 0)), (134, .iload 5, 2, 0, (0, 0, 0, 0, 0, 0)), (136, .ineg, 1, 0, (0, 0, 0, 0, 0, 0)), (137, .aload_n 0, 1, 0, (0, 0, 0, 0, 0, 0)), (138, .getfield 34, 3, 0, (5, 0, 9, 2, 1, 0)), (141, .getfield 96, 3, 0, (6, 3, 0, 1, 0, 0)), (144, .invokevirtual 99, 3, 0, (3, 6, 0, 0, 1, 0)), (147, .astore 9, 2, 0, (0, 0, 0, 0, 0, 0)), (149, .aload 9, 2, 0, (0, 0, 0, 0, 0, 0)), (151, .ifnull 15, 3, 0, (0, 0, 0, 0, 0, 0)), (154, .aload 9, 2, 0, (0, 0, 0, 0, 0, 0)), (156, .iconst 3, 1, 0, (0, 0, 0, 0, 0, 3)), (157, .putfield 122, 3, 0, (10, 1, 0, 0, 0, 0)), (160, .aload_n 0, 1, 0, (0, 0, 0, 0, 0, 0)), (161, .aload 9, 2, 0, (0, 0, 0, 0, 0, 0)), (163, .invokevirtual 112, 3, 0, (4, 2, 0, 0, 1, 0)), (166, .iload 7, 2, 0, (0, 0, 0, 0, 0, 0)), (168, .ireturn, 1, 0, (0, 0, 0, 0, 0, 0))]
set_option maxRecDepth 100000 in
theorem rk63 : R63.all (rok 0 63 1 [(104, [10, 0]), (73, [9, 0]), (86, [9, 3, 4]), (76, [9, 3, 4, 0, 0, 0]), (64, [8, 13])]) = true := by decide +kernel
set_option maxRecDepth 100000 in
theorem tab63 {F104 : PM → Int32 → Nat} {G104 : PM → Int32 → Prop} {F73 : PM → Int32 → Nat} {G73 : PM → Int32 → Prop} {F86 : PM → Nat → Nat → PM} {G86 : PM → Nat → Nat → Prop} {F76 : PM → Nat → Nat → Int32 → Int32 → Int32 → Nat × PM} {G76 : PM → Nat → Nat → Int32 → Int32 → Int32 → Prop} {F64 : PM → Nat → PM} {G64 : PM → Nat → Prop} : TabOK 0 63 1 [CC104 F104 G104, CC73 F73 G73, CC86 F86 G86, CC76 F76 G76, CC64 F64 G64] R63 := tab_ok (K := K63) rfl rfl (fun h => d63 h) rk63 (by decide +kernel)
set_option maxRecDepth 100000 in
theorem pc63 : cutpc [] R63 = true := by decide +kernel
set_option maxRecDepth 100000 in
theorem r5_tellQuote (F104 : PM → Int32 → Nat) (G104 : PM → Int32 → Prop) (o104 : CalOK 0 (CC104 F104 G104)) (F73 : PM → Int32 → Nat) (G73 : PM → Int32 → Prop) (o73 : CalOK 0 (CC73 F73 G73)) (F86 : PM → Nat → Nat → PM) (G86 : PM → Nat → Nat → Prop) (o86 : CalOK 0 (CC86 F86 G86)) (F76 : PM → Nat → Nat → Int32 → Int32 → Int32 → Nat × PM) (G76 : PM → Nat → Nat → Int32 → Int32 → Int32 → Prop) (o76 : CalOK 0 (CC76 F76 G76)) (F64 : PM → Nat → PM) (G64 : PM → Nat → Prop) (o64 : CalOK 0 (CC64 F64 G64)) : ∀ (p : PM) (v1 : Int32) (v2 : Int32) (v3 : Int32) (v4 : Int32) (v5 : Int32), Gr 0 p → bg5_tellQuote F64 G64 F73 G73 F76 G76 F86 G86 F104 G104 p v1 v2 v3 v4 v5 → ZJ 0 63 0 [zR 5 1, zI v1, zI v2, zI v3, zI v4, zI v5, zJ, zJ, zJ, zJ] [] p (hwI (bv5_tellQuote F64 F73 F76 F86 F104 p v1 v2 v3 v4 v5)) := by
  intro p v1 v2 v3 v4 v5  hg H
  exact rwI (n := 3000) (q := 0) (la := [zR 5 1, zI v1, zI v2, zI v3, zI v4, zI v5, zJ, zJ, zJ, zJ]) (sa := []) (ks := []) (gs := []) (fcons o104 (fcons o73 (fcons o86 (fcons o76 (fcons o64 (fnil)))))) tab63 pc63 trivial hg H
theorem t5_tellQuote : ∀ (p : PM) (v1 : Int32) (v2 : Int32) (v3 : Int32) (v4 : Int32) (v5 : Int32), Gr 0 p → g5_tellQuote p v1 v2 v3 v4 v5 → ZJ 0 63 0 [zR 5 1, zI v1, zI v2, zI v3, zI v4, zI v5, zJ, zJ, zJ, zJ] [] p (hwI (v5_tellQuote p v1 v2 v3 v4 v5)) := r5_tellQuote v7_accountAt g7_accountAt ok104 v6_bookAt g6_bookAt ok73 v6_withdrawQuote g6_withdrawQuote ok86 v6_draw g6_draw ok76 v5_place g5_place ok64
def CC63 (F : PM → Int32 → Int32 → Int32 → Int32 → Int32 → Int32 × PM) (G : PM → Int32 → Int32 → Int32 → Int32 → Int32 → Prop) : Cal := (63, [8, 0, 0, 0, 0, 0], 1, false, fun as p => (zI (F p (ai as 1) (ai as 2) (ai as 3) (ai as 4) (ai as 5)).1, (F p (ai as 1) (ai as 2) (ai as 3) (ai as 4) (ai as 5)).2), fun as p => zsw (tc2 as [(105, 1), (0, 0), (0, 0), (0, 0), (0, 0), (0, 0)]) False (G p (ai as 1) (ai as 2) (ai as 3) (ai as 4) (ai as 5)))
set_option maxRecDepth 100000 in
theorem okr63 (F : PM → Int32 → Int32 → Int32 → Int32 → Int32 → Int32 × PM) (G : PM → Int32 → Int32 → Int32 → Int32 → Int32 → Prop) (h : ∀ (p : PM) (v1 : Int32) (v2 : Int32) (v3 : Int32) (v4 : Int32) (v5 : Int32), Gr 0 p → G p v1 v2 v3 v4 v5 → ZJ 0 63 0 [zR 5 1, zI v1, zI v2, zI v3, zI v4, zI v5, zJ, zJ, zJ, zJ] [] p (hwI (F p v1 v2 v3 v4 v5))) : CalOK 0 (CC63 F G) := cal_ok (m := 10) (by unfold mL; rw [mX_63]) (fun as p hg H => h p (ai as 1) (ai as 2) (ai as 3) (ai as 4) (ai as 5) hg H)
theorem ok63 : CalOK 0 (CC63 v5_tellQuote g5_tellQuote) := okr63 v5_tellQuote g5_tellQuote t5_tellQuote
noncomputable def bv6_hasOtherSide_11 (p : PM) (F142 : PM → Nat → Nat → Int32 → Int32) (kv11 : Nat → Int32 → Int32) (v1 : Nat) (v4 : Int32) : Int32 :=
  if v4 < (cn 40) then (
    if (p.1 10 ((v4).toNatClampNeg + 1) 1) = (cn 3) then (
      if (p.2.2 10 ((v4).toNatClampNeg + 1) 3) = (p.2.2 10 v1 3) then (
        if (p.1 10 v1 5) = 0 then (
          if (F142 p ((v4).toNatClampNeg + 1) (p.2.2 10 v1 4) (cn 1)) = 0 then (
            kv11 v1 (v4 + (cn 1)))
          else (
            (cn 1)))
        else (
          if (F142 p ((v4).toNatClampNeg + 1) (p.2.2 10 v1 4) (cn 0)) = 0 then (
            kv11 v1 (v4 + (cn 1)))
          else (
            (cn 1))))
      else (
        kv11 v1 (v4 + (cn 1))))
    else (
      kv11 v1 (v4 + (cn 1))))
  else (
    (cn 0))
noncomputable def v6_hasOtherSide_11 (p : PM) (n : Nat) : Nat → Int32 → Int32 := Nat.rec (motive := fun _ => Nat → Int32 → Int32) (fun _ _ => 0) (fun _ ih => bv6_hasOtherSide_11 p v10_standsIn ih) n
theorem ev6_hasOtherSide_11 (p : PM) (n : Nat) (v1 : Nat) (v4 : Int32) : v6_hasOtherSide_11 p (n + 1) v1 v4 = bv6_hasOtherSide_11 p v10_standsIn (v6_hasOtherSide_11 p n) v1 v4 := rfl
noncomputable def bg6_hasOtherSide_11 (p : PM) (F142 : PM → Nat → Nat → Int32 → Int32) (G142 : PM → Nat → Nat → Int32 → Prop) (kg11 : Nat → Int32 → Prop) (v1 : Nat) (v4 : Int32) : Prop :=
  if v4 < (cn 40) then (
    (inb v4 40) ∧ (
    if (p.1 10 ((v4).toNatClampNeg + 1) 1) = (cn 3) then (
      (¬ v1 = 0) ∧ (
      if (p.2.2 10 ((v4).toNatClampNeg + 1) 3) = (p.2.2 10 v1 3) then (
        (¬ v1 = 0) ∧ (
        (¬ v1 = 0) ∧ (
        if (p.1 10 v1 5) = 0 then (
          (G142 p ((v4).toNatClampNeg + 1) (p.2.2 10 v1 4) (cn 1)) ∧ (
          if (F142 p ((v4).toNatClampNeg + 1) (p.2.2 10 v1 4) (cn 1)) = 0 then (
            kg11 v1 (v4 + (cn 1)))
          else (
            True)))
        else (
          (G142 p ((v4).toNatClampNeg + 1) (p.2.2 10 v1 4) (cn 0)) ∧ (
          if (F142 p ((v4).toNatClampNeg + 1) (p.2.2 10 v1 4) (cn 0)) = 0 then (
            kg11 v1 (v4 + (cn 1)))
          else (
            True))))))
      else (
        kg11 v1 (v4 + (cn 1)))))
    else (
      kg11 v1 (v4 + (cn 1)))))
  else (
    True)
noncomputable def g6_hasOtherSide_11 (p : PM) (n : Nat) : Nat → Int32 → Prop := Nat.rec (motive := fun _ => Nat → Int32 → Prop) (fun _ _ => False) (fun _ ih => bg6_hasOtherSide_11 p v10_standsIn g10_standsIn ih) n
theorem eg6_hasOtherSide_11 (p : PM) (n : Nat) (v1 : Nat) (v4 : Int32) : g6_hasOtherSide_11 p (n + 1) v1 v4 = bg6_hasOtherSide_11 p v10_standsIn g10_standsIn (g6_hasOtherSide_11 p n) v1 v4 := rfl
noncomputable def bv6_hasOtherSide (p : PM) (kv11 : Nat → Int32 → Int32) (v1 : Nat) : Int32 :=
  kv11 v1 (cn 0)
noncomputable def v6_hasOtherSide (p : PM) (v1 : Nat) : Int32 := bv6_hasOtherSide p (v6_hasOtherSide_11 p FU) v1
noncomputable def bg6_hasOtherSide (p : PM) (kg11 : Nat → Int32 → Prop) (v1 : Nat) : Prop :=
  kg11 v1 (cn 0)
noncomputable def g6_hasOtherSide (p : PM) (v1 : Nat) : Prop := bg6_hasOtherSide p (g6_hasOtherSide_11 p FU) v1
def R91 : List Row := [(0, .aload_n 0, 1, 0, (0, 0, 0, 0, 0, 0)), (1, .getfield 11, 3, 0, (6, 1, 23, 2, 1, 0)), (4, .astore_n 2, 1, 0, (0, 0, 0, 0, 0, 0)), (5, .aload_n 2, 1, 0, (0, 0, 0, 0, 0, 0)), (6, .arraylength, 1, 0, (20, 40, 0, 0, 0, 40)), (7, .istore_n 3, 1, 0, (0, 0, 0, 0, 0, 0)), (8, .iconst 0, 1, 0, (0, 0, 0, 0, 0, 0)), (9, .istore 4, 2, 0, (0, 0, 0, 0, 0, 0)), (11, .iload 4, 2, 1, (0, 0, 0, 0, 0, 0)), (13, .iload_n 3, 1, 0, (0, 0, 0, 0, 0, 0)), (14, .if_icmp .ge 62, 3, 0, (0, 0, 0, 0, 0, 0)), (17, .aload_n 2, 1, 0, (0, 0, 0, 0, 0, 0)), (18, .iload 4, 2, 0, (0, 0, 0, 0, 0, 0)), (20, .aaload, 1, 0, (20, 40, 0, 1, 1, 0)), (21, .astore 5, 2, 0, (0, 0, 0, 0, 0, 0)), (23, .aload 5, 2, 0, (0, 0, 0, 0, 0, 0)), (25, .getfield 76, 3, 0, (10, 1, 0, 1, 0, 0)), (28, .iconst 3, 1, 0, (0, 0, 0, 0, 0, 3)), (29, .if_icmp .ne 41, 3, 0, (0, 0, 0, 0, 0, 0)), (32, .aload 5, 2, 0, (0, 0, 0, 0, 0, 0)), (34, .getfield 115, 3, 0, (10, 3, 3, 1, 0, 0)), (37, .aload_n 1, 1, 0, (0, 0, 0, 0, 0, 0)), (38, .getfield 115, 3, 0, (10, 3, 3, 0, 0, 0)), (41, .if_acmp .ne 29, 3, 0, (0, 0, 0, 0, 0, 0)), (44, .aload 5, 2, 0, (0, 0, 0, 0, 0, 0)), (46, .aload_n 1, 1, 0, (0, 0, 0, 0, 0, 0)), (47, .getfield 130, 3, 0, (10, 4, 4, 0, 0, 0)), (50, .aload_n 1, 1, 0, (0, 0, 0, 0, 0, 0)), (51, .getfield 151, 3, 0, (10, 5, 1, 0, 0, 0)), (54, .ifCond .ne 7, 3, 0, (0, 0, 0, 0, 0, 0)), (57, .iconst 1, 1, 0, (0, 0, 0, 0, 0, 1)), (58, .goto 4, 3, 0, (0, 0, 0, 0, 0, 0)), (61, .iconst 0, 1, 0, (0, 0, 0, 0, 0, 0)), (62, .invokevirtual 72, 3, 0, (0, 3, 0, 0, 1, 0)), (65, .ifCond .eq 5, 3, 0, (0, 0, 0, 0, 0, 0)), (68, .iconst 1, 1, 0, (0, 0, 0, 0, 0, 1)), (69, .ireturn, 1, 0, (1, 0, 0, 0, 0, 0)), (70, .iinc 4 1, 3, 0, (0, 0, 0, 0, 0, 1)), (73, .goto (-62), 3, 0, (0, 0, 0, 0, 0, 0)), (76, .iconst 0, 1, 0, (0, 0, 0, 0, 0, 0)), (77, .ireturn, 1, 0, (1, 0, 0, 0, 0, 0))]
set_option maxRecDepth 100000 in
theorem rk91 : R91.all (rok 0 91 1 [(142, [13, 4, 0])]) = true := by decide +kernel
set_option maxRecDepth 100000 in
theorem tab91 {F142 : PM → Nat → Nat → Int32 → Int32} {G142 : PM → Nat → Nat → Int32 → Prop} : TabOK 0 91 1 [CC142 F142 G142] R91 := tab_ok (K := K91) rfl rfl (fun h => d91 h) rk91 (by decide +kernel)
set_option maxRecDepth 100000 in
theorem pc91 : cutpc [11] R91 = true := by decide +kernel
set_option maxRecDepth 100000 in
theorem r6_hasOtherSide_11 (p : PM) (hg : Gr 0 p) (F142 : PM → Nat → Nat → Int32 → Int32) (G142 : PM → Nat → Nat → Int32 → Prop) (o142 : CalOK 0 (CC142 F142 G142)) (kv11 : Nat → Int32 → Int32) (kg11 : Nat → Int32 → Prop) (hk11 : ∀ (v1 : Nat) (v4 : Int32) (d0 d5 : ZV), kg11 v1 v4 → ZJ 0 91 11 [d0, zR 10 v1, zR 20 1, zC 40, zI v4, d5] [] p (hoI p (kv11 v1 v4))) : ∀ (v1 : Nat) (v4 : Int32) (d0 d5 : ZV), bg6_hasOtherSide_11 p F142 G142 kg11 v1 v4 → ZJ 0 91 11 [d0, zR 10 v1, zR 20 1, zC 40, zI v4, d5] [] p (hoI p (bv6_hasOtherSide_11 p F142 kv11 v1 v4)) := by
  intro v1 v4 d0 d5 H
  exact roI (n := 3000) (q := 11) (la := [d0, zR 10 v1, zR 20 1, zC 40, zI v4, d5]) (sa := []) (ks := [fun la sa _ => kv11 (ar la 1) (ai la 4)]) (gs := [fun la sa _ => zsw (tc2 la [(2, 0), (14, 0), (120, 1), (3, 40), (0, 0), (2, 0)] && tc2 sa []) False (kg11 (ar la 1) (ai la 4))]) (fcons o142 (fnil)) tab91 pc91 ⟨fun la sa s hg H => zcut H fun H => hk11 (ar la 1) (ai la 4) (zld la 0) (zld la 5) H, trivial⟩ hg H
theorem t6_hasOtherSide_11 (p : PM) (hg : Gr 0 p) : ∀ (n : Nat), ∀ (v1 : Nat) (v4 : Int32) (d0 d5 : ZV), g6_hasOtherSide_11 p n v1 v4 → ZJ 0 91 11 [d0, zR 10 v1, zR 20 1, zC 40, zI v4, d5] [] p (hoI p (v6_hasOtherSide_11 p n v1 v4)) := by
  intro n
  induction n with
  | zero =>
    intro v1 v4 d0 d5 H
    exact H.elim
  | succ n ih => exact r6_hasOtherSide_11 p hg v10_standsIn g10_standsIn ok142 (v6_hasOtherSide_11 p n) (g6_hasOtherSide_11 p n) ih
set_option maxRecDepth 100000 in
theorem r6_hasOtherSide (p : PM) (hg : Gr 0 p) (F142 : PM → Nat → Nat → Int32 → Int32) (G142 : PM → Nat → Nat → Int32 → Prop) (o142 : CalOK 0 (CC142 F142 G142)) (kv11 : Nat → Int32 → Int32) (kg11 : Nat → Int32 → Prop) (hk11 : ∀ (v1 : Nat) (v4 : Int32) (d0 d5 : ZV), kg11 v1 v4 → ZJ 0 91 11 [d0, zR 10 v1, zR 20 1, zC 40, zI v4, d5] [] p (hoI p (kv11 v1 v4))) : ∀ (v1 : Nat), bg6_hasOtherSide p kg11 v1 → ZJ 0 91 0 [zR 6 1, zR 10 v1, zJ, zJ, zJ, zJ] [] p (hoI p (bv6_hasOtherSide p kv11 v1)) := by
  intro v1  H
  exact roI (n := 3000) (q := 0) (la := [zR 6 1, zR 10 v1, zJ, zJ, zJ, zJ]) (sa := []) (ks := [fun la sa _ => kv11 (ar la 1) (ai la 4)]) (gs := [fun la sa _ => zsw (tc2 la [(2, 0), (14, 0), (120, 1), (3, 40), (0, 0), (2, 0)] && tc2 sa []) False (kg11 (ar la 1) (ai la 4))]) (fcons o142 (fnil)) tab91 pc91 ⟨fun la sa s hg H => zcut H fun H => hk11 (ar la 1) (ai la 4) (zld la 0) (zld la 5) H, trivial⟩ hg H
theorem t6_hasOtherSide (p : PM) (hg : Gr 0 p) : ∀ (v1 : Nat), g6_hasOtherSide p v1 → ZJ 0 91 0 [zR 6 1, zR 10 v1, zJ, zJ, zJ, zJ] [] p (hoI p (v6_hasOtherSide p v1)) := r6_hasOtherSide p hg v10_standsIn g10_standsIn ok142 (v6_hasOtherSide_11 p FU) (g6_hasOtherSide_11 p FU) (t6_hasOtherSide_11 p hg FU)
def CC91 (F : PM → Nat → Int32) (G : PM → Nat → Prop) : Cal := (91, [9, 13], 1, true, fun as p => (zI (F p (ar as 1)), p), fun as p => zsw (tc2 as [(106, 1), (14, 0)]) False (G p (ar as 1)))
set_option maxRecDepth 100000 in
theorem okr91 (F : PM → Nat → Int32) (G : PM → Nat → Prop) (h : ∀ (p : PM) (v1 : Nat), Gr 0 p → G p v1 → ZJ 0 91 0 [zR 6 1, zR 10 v1, zJ, zJ, zJ, zJ] [] p (hoI p (F p v1))) : CalOK 0 (CC91 F G) := cal_ok (m := 6) (by unfold mL; rw [mX_91]) (fun as p hg H => h p (ar as 1) hg H)
theorem ok91 : CalOK 0 (CC91 v6_hasOtherSide g6_hasOtherSide) := okr91 v6_hasOtherSide g6_hasOtherSide (fun p v1 hg H => t6_hasOtherSide p hg v1 H)
noncomputable def bv6_countQuotes_10 (F91 : PM → Nat → Int32) (kv10 : PM → Int32 → PM) (p : PM) (v3 : Int32) : PM :=
  if v3 < (cn 40) then (
    if (p.1 10 ((v3).toNatClampNeg + 1) 1) = (cn 3) then (
      if (p.1 10 ((v3).toNatClampNeg + 1) 2) = (cn 1) then (
        if (p.1 10 ((v3).toNatClampNeg + 1) 5) = 0 then (
          kv10 p (v3 + (cn 1)))
        else (
          if (p.1 1 (p.2.2 10 ((v3).toNatClampNeg + 1) 4) 5) = 0 then (
            if (F91 p ((v3).toNatClampNeg + 1)) = 0 then (
              kv10 p (v3 + (cn 1)))
            else (
              let p1 : PM := pI p 0 (p.2.2 10 ((v3).toNatClampNeg + 1) 3) 8 ((p.1 0 (p.2.2 10 ((v3).toNatClampNeg + 1) 3) 8) + (cn 1))
              kv10 p1 (v3 + (cn 1))))
          else (
            kv10 p (v3 + (cn 1)))))
      else (
        kv10 p (v3 + (cn 1))))
    else (
      kv10 p (v3 + (cn 1))))
  else (
    p)
noncomputable def v6_countQuotes_10 (n : Nat) : PM → Int32 → PM := Nat.rec (motive := fun _ => PM → Int32 → PM) (fun p _ => p) (fun _ ih => bv6_countQuotes_10 v6_hasOtherSide ih) n
theorem ev6_countQuotes_10 (n : Nat) (p : PM) (v3 : Int32) : v6_countQuotes_10 (n + 1) p v3 = bv6_countQuotes_10 v6_hasOtherSide (v6_countQuotes_10 n) p v3 := rfl
noncomputable def bg6_countQuotes_10 (F91 : PM → Nat → Int32) (G91 : PM → Nat → Prop) (kg10 : PM → Int32 → Prop) (p : PM) (v3 : Int32) : Prop :=
  if v3 < (cn 40) then (
    (inb v3 40) ∧ (
    if (p.1 10 ((v3).toNatClampNeg + 1) 1) = (cn 3) then (
      if (p.1 10 ((v3).toNatClampNeg + 1) 2) = (cn 1) then (
        if (p.1 10 ((v3).toNatClampNeg + 1) 5) = 0 then (
          kg10 p (v3 + (cn 1)))
        else (
          (¬ (p.2.2 10 ((v3).toNatClampNeg + 1) 4) = 0) ∧ (
          if (p.1 1 (p.2.2 10 ((v3).toNatClampNeg + 1) 4) 5) = 0 then (
            (G91 p ((v3).toNatClampNeg + 1)) ∧ (
            if (F91 p ((v3).toNatClampNeg + 1)) = 0 then (
              kg10 p (v3 + (cn 1)))
            else (
              (¬ (p.2.2 10 ((v3).toNatClampNeg + 1) 3) = 0) ∧ (
              (¬ (p.2.2 10 ((v3).toNatClampNeg + 1) 3) = 0) ∧ (
              let p1 : PM := pI p 0 (p.2.2 10 ((v3).toNatClampNeg + 1) 3) 8 ((p.1 0 (p.2.2 10 ((v3).toNatClampNeg + 1) 3) 8) + (cn 1))
              kg10 p1 (v3 + (cn 1)))))))
          else (
            kg10 p (v3 + (cn 1))))))
      else (
        kg10 p (v3 + (cn 1))))
    else (
      kg10 p (v3 + (cn 1)))))
  else (
    True)
noncomputable def g6_countQuotes_10 (n : Nat) : PM → Int32 → Prop := Nat.rec (motive := fun _ => PM → Int32 → Prop) (fun _ _ => False) (fun _ ih => bg6_countQuotes_10 v6_hasOtherSide g6_hasOtherSide ih) n
theorem eg6_countQuotes_10 (n : Nat) (p : PM) (v3 : Int32) : g6_countQuotes_10 (n + 1) p v3 = bg6_countQuotes_10 v6_hasOtherSide g6_hasOtherSide (g6_countQuotes_10 n) p v3 := rfl
noncomputable def bv6_countQuotes (kv10 : PM → Int32 → PM) (p : PM) : PM :=
  kv10 p (cn 0)
noncomputable def v6_countQuotes (p : PM) : PM := bv6_countQuotes (v6_countQuotes_10 FU) p
noncomputable def bg6_countQuotes (kg10 : PM → Int32 → Prop) (p : PM) : Prop :=
  kg10 p (cn 0)
noncomputable def g6_countQuotes (p : PM) : Prop := bg6_countQuotes (g6_countQuotes_10 FU) p
def R90 : List Row := [(0, .aload_n 0, 1, 0, (0, 0, 0, 0, 0, 0)), (1, .getfield 11, 3, 0, (6, 1, 23, 2, 1, 0)), (4, .astore_n 1, 1, 0, (0, 0, 0, 0, 0, 0)), (5, .aload_n 1, 1, 0, (0, 0, 0, 0, 0, 0)), (6, .arraylength, 1, 0, (20, 40, 0, 0, 0, 40)), (7, .istore_n 2, 1, 0, (0, 0, 0, 0, 0, 0)), (8, .iconst 0, 1, 0, (0, 0, 0, 0, 0, 0)), (9, .istore_n 3, 1, 0, (0, 0, 0, 0, 0, 0)), (10, .iload_n 3, 1, 1, (0, 0, 0, 0, 0, 0)), (11, .iload_n 2, 1, 0, (0, 0, 0, 0, 0, 0)), (12, .if_icmp .ge 74, 3, 0, (0, 0, 0, 0, 0, 0)), (15, .aload_n 1, 1, 0, (0, 0, 0, 0, 0, 0)), (16, .iload_n 3, 1, 0, (0, 0, 0, 0, 0, 0)), (17, .aaload, 1, 0, (20, 40, 0, 1, 1, 0)), (18, .astore 4, 2, 0, (0, 0, 0, 0, 0, 0)), (20, .aload 4, 2, 0, (0, 0, 0, 0, 0, 0)), (22, .getfield 76, 3, 0, (10, 1, 0, 1, 0, 0)), (25, .iconst 3, 1, 0, (0, 0, 0, 0, 0, 3)), (26, .if_icmp .ne 54, 3, 0, (0, 0, 0, 0, 0, 0)), (29, .aload 4, 2, 0, (0, 0, 0, 0, 0, 0)), (31, .getfield 29, 3, 0, (10, 2, 0, 1, 0, 0)), (34, .iconst 1, 1, 0, (0, 0, 0, 0, 0, 1)), (35, .if_icmp .ne 45, 3, 0, (0, 0, 0, 0, 0, 0)), (38, .aload 4, 2, 0, (0, 0, 0, 0, 0, 0)), (40, .getfield 151, 3, 0, (10, 5, 1, 1, 0, 0)), (43, .ifCond .eq 37, 3, 0, (0, 0, 0, 0, 0, 0)), (46, .aload 4, 2, 0, (0, 0, 0, 0, 0, 0)), (48, .getfield 130, 3, 0, (10, 4, 4, 1, 0, 0)), (51, .getfield 154, 3, 0, (1, 5, 1, 0, 0, 0)), (54, .ifCond .ne 26, 3, 0, (0, 0, 0, 0, 0, 0)), (57, .aload_n 0, 1, 0, (0, 0, 0, 0, 0, 0)), (58, .aload 4, 2, 0, (0, 0, 0, 0, 0, 0)), (60, .invokevirtual 157, 3, 0, (0, 2, 0, 0, 1, 0)), (63, .ifCond .eq 17, 3, 0, (0, 0, 0, 0, 0, 0)), (66, .aload 4, 2, 0, (0, 0, 0, 0, 0, 0)), (68, .getfield 115, 3, 0, (10, 3, 3, 1, 0, 0)), (71, .dup, 1, 0, (0, 0, 0, 0, 0, 0)), (72, .getfield 161, 3, 0, (0, 8, 0, 0, 0, 0)), (75, .iconst 1, 1, 0, (0, 0, 0, 0, 0, 1)), (76, .iadd, 1, 0, (0, 0, 0, 0, 0, 0)), (77, .putfield 161, 3, 0, (0, 8, 0, 0, 0, 0)), (80, .iinc 3 1, 3, 0, (0, 0, 0, 0, 0, 1)), (83, .goto (-73), 3, 0, (0, 0, 0, 0, 0, 0)), (86, .return_, 1, 0, (0, 0, 0, 0, 0, 0))]
set_option maxRecDepth 100000 in
theorem rk90 : R90.all (rok 0 90 0 [(91, [9, 13])]) = true := by decide +kernel
set_option maxRecDepth 100000 in
theorem tab90 {F91 : PM → Nat → Int32} {G91 : PM → Nat → Prop} : TabOK 0 90 0 [CC91 F91 G91] R90 := tab_ok (K := K90) rfl rfl (fun h => d90 h) rk90 (by decide +kernel)
set_option maxRecDepth 100000 in
theorem pc90 : cutpc [10] R90 = true := by decide +kernel
set_option maxRecDepth 100000 in
theorem r6_countQuotes_10 (F91 : PM → Nat → Int32) (G91 : PM → Nat → Prop) (o91 : CalOK 0 (CC91 F91 G91)) (kv10 : PM → Int32 → PM) (kg10 : PM → Int32 → Prop) (hk10 : ∀ (p : PM) (v3 : Int32) (d4 : ZV), Gr 0 p → kg10 p v3 → ZJ 0 90 10 [zR 6 1, zR 20 1, zC 40, zI v3, d4] [] p (hwV (kv10 p v3))) : ∀ (p : PM) (v3 : Int32) (d4 : ZV), Gr 0 p → bg6_countQuotes_10 F91 G91 kg10 p v3 → ZJ 0 90 10 [zR 6 1, zR 20 1, zC 40, zI v3, d4] [] p (hwV (bv6_countQuotes_10 F91 kv10 p v3)) := by
  intro p v3 d4 hg H
  exact rwV (n := 3000) (q := 10) (la := [zR 6 1, zR 20 1, zC 40, zI v3, d4]) (sa := []) (ks := [fun la sa s => kv10 s (ai la 3)]) (gs := [fun la sa s => zsw (tc2 la [(106, 1), (120, 1), (3, 40), (0, 0), (2, 0)] && tc2 sa []) False (kg10 s (ai la 3))]) (fcons o91 (fnil)) tab90 pc90 ⟨fun la sa s hg H => zcut H fun H => hk10 s (ai la 3) (zld la 4) hg H, trivial⟩ hg H
theorem t6_countQuotes_10 : ∀ (n : Nat), ∀ (p : PM) (v3 : Int32) (d4 : ZV), Gr 0 p → g6_countQuotes_10 n p v3 → ZJ 0 90 10 [zR 6 1, zR 20 1, zC 40, zI v3, d4] [] p (hwV (v6_countQuotes_10 n p v3)) := by
  intro n
  induction n with
  | zero =>
    intro p v3 d4 hg H
    exact H.elim
  | succ n ih => exact r6_countQuotes_10 v6_hasOtherSide g6_hasOtherSide ok91 (v6_countQuotes_10 n) (g6_countQuotes_10 n) ih
set_option maxRecDepth 100000 in
theorem r6_countQuotes (F91 : PM → Nat → Int32) (G91 : PM → Nat → Prop) (o91 : CalOK 0 (CC91 F91 G91)) (kv10 : PM → Int32 → PM) (kg10 : PM → Int32 → Prop) (hk10 : ∀ (p : PM) (v3 : Int32) (d4 : ZV), Gr 0 p → kg10 p v3 → ZJ 0 90 10 [zR 6 1, zR 20 1, zC 40, zI v3, d4] [] p (hwV (kv10 p v3))) : ∀ (p : PM), Gr 0 p → bg6_countQuotes kg10 p → ZJ 0 90 0 [zR 6 1, zJ, zJ, zJ, zJ] [] p (hwV (bv6_countQuotes kv10 p)) := by
  intro p   hg H
  exact rwV (n := 3000) (q := 0) (la := [zR 6 1, zJ, zJ, zJ, zJ]) (sa := []) (ks := [fun la sa s => kv10 s (ai la 3)]) (gs := [fun la sa s => zsw (tc2 la [(106, 1), (120, 1), (3, 40), (0, 0), (2, 0)] && tc2 sa []) False (kg10 s (ai la 3))]) (fcons o91 (fnil)) tab90 pc90 ⟨fun la sa s hg H => zcut H fun H => hk10 s (ai la 3) (zld la 4) hg H, trivial⟩ hg H
theorem t6_countQuotes : ∀ (p : PM), Gr 0 p → g6_countQuotes p → ZJ 0 90 0 [zR 6 1, zJ, zJ, zJ, zJ] [] p (hwV (v6_countQuotes p)) := r6_countQuotes v6_hasOtherSide g6_hasOtherSide ok91 (v6_countQuotes_10 FU) (g6_countQuotes_10 FU) (t6_countQuotes_10 FU)
def CC90 (F : PM → PM) (G : PM → Prop) : Cal := (90, [9], 0, false, fun as p => (zJ, (F p )), fun as p => zsw (tc2 as [(106, 1)]) False (G p ))
set_option maxRecDepth 100000 in
theorem okr90 (F : PM → PM) (G : PM → Prop) (h : ∀ (p : PM), Gr 0 p → G p  → ZJ 0 90 0 [zR 6 1, zJ, zJ, zJ, zJ] [] p (hwV (F p ))) : CalOK 0 (CC90 F G) := cal_ok (m := 5) (by unfold mL; rw [mX_90]) (fun as p hg H => h p  hg H)
theorem ok90 : CalOK 0 (CC90 v6_countQuotes g6_countQuotes) := okr90 v6_countQuotes g6_countQuotes t6_countQuotes
noncomputable def bv8_sumAt_20 (p : PM) (F142 : PM → Nat → Nat → Int32 → Int32) (F143 : PM → Nat → Int32 → Int32) (kv20 : Nat → Int32 → Int32 → Int32 → Int32 → Int32) (v1 : Nat) (v2 : Int32) (v3 : Int32) (v4 : Int32) (v7 : Int32) : Int32 :=
  if v7 < (cn 40) then (
    if (F142 p ((v7).toNatClampNeg + 1) v1 v2) = 0 then (
      kv20 v1 v2 v3 v4 (v7 + (cn 1)))
    else (
      if (F143 p ((v7).toNatClampNeg + 1) v3) = 0 then (
        kv20 v1 v2 v3 v4 (v7 + (cn 1)))
      else (
        let x1 : Int32 := (v4 + (p.1 10 ((v7).toNatClampNeg + 1) 9))
        kv20 v1 v2 v3 x1 (v7 + (cn 1)))))
  else (
    v4)
noncomputable def v8_sumAt_20 (p : PM) (n : Nat) : Nat → Int32 → Int32 → Int32 → Int32 → Int32 := Nat.rec (motive := fun _ => Nat → Int32 → Int32 → Int32 → Int32 → Int32) (fun _ _ _ _ _ => 0) (fun _ ih => bv8_sumAt_20 p v10_standsIn v10_allows ih) n
theorem ev8_sumAt_20 (p : PM) (n : Nat) (v1 : Nat) (v2 : Int32) (v3 : Int32) (v4 : Int32) (v7 : Int32) : v8_sumAt_20 p (n + 1) v1 v2 v3 v4 v7 = bv8_sumAt_20 p v10_standsIn v10_allows (v8_sumAt_20 p n) v1 v2 v3 v4 v7 := rfl
noncomputable def bg8_sumAt_20 (p : PM) (F142 : PM → Nat → Nat → Int32 → Int32) (G142 : PM → Nat → Nat → Int32 → Prop) (F143 : PM → Nat → Int32 → Int32) (G143 : PM → Nat → Int32 → Prop) (kg20 : Nat → Int32 → Int32 → Int32 → Int32 → Prop) (v1 : Nat) (v2 : Int32) (v3 : Int32) (v4 : Int32) (v7 : Int32) : Prop :=
  if v7 < (cn 40) then (
    (inb v7 40) ∧ (
    (G142 p ((v7).toNatClampNeg + 1) v1 v2) ∧ (
    if (F142 p ((v7).toNatClampNeg + 1) v1 v2) = 0 then (
      kg20 v1 v2 v3 v4 (v7 + (cn 1)))
    else (
      (G143 p ((v7).toNatClampNeg + 1) v3) ∧ (
      if (F143 p ((v7).toNatClampNeg + 1) v3) = 0 then (
        kg20 v1 v2 v3 v4 (v7 + (cn 1)))
      else (
        let x1 : Int32 := (v4 + (p.1 10 ((v7).toNatClampNeg + 1) 9))
        kg20 v1 v2 v3 x1 (v7 + (cn 1))))))))
  else (
    True)
noncomputable def g8_sumAt_20 (p : PM) (n : Nat) : Nat → Int32 → Int32 → Int32 → Int32 → Prop := Nat.rec (motive := fun _ => Nat → Int32 → Int32 → Int32 → Int32 → Prop) (fun _ _ _ _ _ => False) (fun _ ih => bg8_sumAt_20 p v10_standsIn g10_standsIn v10_allows g10_allows ih) n
theorem eg8_sumAt_20 (p : PM) (n : Nat) (v1 : Nat) (v2 : Int32) (v3 : Int32) (v4 : Int32) (v7 : Int32) : g8_sumAt_20 p (n + 1) v1 v2 v3 v4 v7 = bg8_sumAt_20 p v10_standsIn g10_standsIn v10_allows g10_allows (g8_sumAt_20 p n) v1 v2 v3 v4 v7 := rfl
noncomputable def bv8_sumAt (p : PM) (kv20 : Nat → Int32 → Int32 → Int32 → Int32 → Int32) (v1 : Nat) (v2 : Int32) (v3 : Int32) : Int32 :=
  kv20 v1 v2 v3 (cn 0) (cn 0)
noncomputable def v8_sumAt (p : PM) (v1 : Nat) (v2 : Int32) (v3 : Int32) : Int32 := bv8_sumAt p (v8_sumAt_20 p FU) v1 v2 v3
noncomputable def bg8_sumAt (p : PM) (kg20 : Nat → Int32 → Int32 → Int32 → Int32 → Prop) (v1 : Nat) (v2 : Int32) (v3 : Int32) : Prop :=
  kg20 v1 v2 v3 (cn 0) (cn 0)
noncomputable def g8_sumAt (p : PM) (v1 : Nat) (v2 : Int32) (v3 : Int32) : Prop := bg8_sumAt p (g8_sumAt_20 p FU) v1 v2 v3
def R136 : List Row := [(0, .iconst 0, 1, 0, (0, 0, 0, 0, 0, 0)), (1, .istore 4, 2, 0, (0, 0, 0, 0, 0, 0)), (3, .aload_n 0, 1, 0, (0, 0, 0, 0, 0, 0)), (4, .getfield 21, 3, 0, (8, 0, 9, 2, 1, 0)), (7, .getfield 29, 3, 0, (6, 1, 23, 2, 1, 0)), (10, .astore 5, 2, 0, (0, 0, 0, 0, 0, 0)), (12, .aload 5, 2, 0, (0, 0, 0, 0, 0, 0)), (14, .arraylength, 1, 0, (20, 40, 0, 0, 0, 40)), (15, .istore 6, 2, 0, (0, 0, 0, 0, 0, 0)), (17, .iconst 0, 1, 0, (0, 0, 0, 0, 0, 0)), (18, .istore 7, 2, 0, (0, 0, 0, 0, 0, 0)), (20, .iload 7, 2, 1, (0, 0, 0, 0, 0, 0)), (22, .iload 6, 2, 0, (0, 0, 0, 0, 0, 0)), (24, .if_icmp .ge 45, 3, 0, (0, 0, 0, 0, 0, 0)), (27, .aload 5, 2, 0, (0, 0, 0, 0, 0, 0)), (29, .iload 7, 2, 0, (0, 0, 0, 0, 0, 0)), (31, .aaload, 1, 0, (20, 40, 0, 1, 1, 0)), (32, .astore 8, 2, 0, (0, 0, 0, 0, 0, 0)), (34, .aload 8, 2, 0, (0, 0, 0, 0, 0, 0)), (36, .aload_n 1, 1, 0, (0, 0, 0, 0, 0, 0)), (37, .iload_n 2, 1, 0, (0, 0, 0, 0, 0, 0)), (38, .invokevirtual 42, 3, 0, (0, 3, 0, 0, 1, 0)), (41, .ifCond .eq 22, 3, 0, (0, 0, 0, 0, 0, 0)), (44, .aload 8, 2, 0, (0, 0, 0, 0, 0, 0)), (46, .iload_n 3, 1, 0, (0, 0, 0, 0, 0, 0)), (47, .invokevirtual 59, 3, 0, (1, 2, 0, 0, 1, 0)), (50, .ifCond .eq 13, 3, 0, (0, 0, 0, 0, 0, 0)), (53, .iload 4, 2, 0, (0, 0, 0, 0, 0, 0)), (55, .aload 8, 2, 0, (0, 0, 0, 0, 0, 0)), (57, .getfield 68, 3, 0, (10, 9, 0, 1, 0, 0)), (60, .iadd, 1, 0, (0, 0, 0, 0, 0, 0)), (61, .istore 4, 2, 0, (0, 0, 0, 0, 0, 0)), (63, .iinc 7 1, 3, 0, (0, 0, 0, 0, 0, 1)), (66, .goto (-46), 3, 0, (0, 0, 0, 0, 0, 0)), (69, .iload 4, 2, 0, (0, 0, 0, 0, 0, 0)), (71, .ireturn, 1, 0, (0, 0, 0, 0, 0, 0))]
set_option maxRecDepth 100000 in
theorem rk136 : R136.all (rok 0 136 1 [(142, [13, 4, 0]), (143, [13, 0])]) = true := by decide +kernel
set_option maxRecDepth 100000 in
theorem tab136 {F142 : PM → Nat → Nat → Int32 → Int32} {G142 : PM → Nat → Nat → Int32 → Prop} {F143 : PM → Nat → Int32 → Int32} {G143 : PM → Nat → Int32 → Prop} : TabOK 0 136 1 [CC142 F142 G142, CC143 F143 G143] R136 := tab_ok (K := K136) rfl rfl (fun h => d136 h) rk136 (by decide +kernel)
set_option maxRecDepth 100000 in
theorem pc136 : cutpc [20] R136 = true := by decide +kernel
set_option maxRecDepth 100000 in
theorem r8_sumAt_20 (p : PM) (hg : Gr 0 p) (F142 : PM → Nat → Nat → Int32 → Int32) (G142 : PM → Nat → Nat → Int32 → Prop) (o142 : CalOK 0 (CC142 F142 G142)) (F143 : PM → Nat → Int32 → Int32) (G143 : PM → Nat → Int32 → Prop) (o143 : CalOK 0 (CC143 F143 G143)) (kv20 : Nat → Int32 → Int32 → Int32 → Int32 → Int32) (kg20 : Nat → Int32 → Int32 → Int32 → Int32 → Prop) (hk20 : ∀ (v1 : Nat) (v2 : Int32) (v3 : Int32) (v4 : Int32) (v7 : Int32) (d0 d8 : ZV), kg20 v1 v2 v3 v4 v7 → ZJ 0 136 20 [d0, zR 1 v1, zI v2, zI v3, zI v4, zR 20 1, zC 40, zI v7, d8] [] p (hoI p (kv20 v1 v2 v3 v4 v7))) : ∀ (v1 : Nat) (v2 : Int32) (v3 : Int32) (v4 : Int32) (v7 : Int32) (d0 d8 : ZV), bg8_sumAt_20 p F142 G142 F143 G143 kg20 v1 v2 v3 v4 v7 → ZJ 0 136 20 [d0, zR 1 v1, zI v2, zI v3, zI v4, zR 20 1, zC 40, zI v7, d8] [] p (hoI p (bv8_sumAt_20 p F142 F143 kv20 v1 v2 v3 v4 v7)) := by
  intro v1 v2 v3 v4 v7 d0 d8 H
  exact roI (n := 3000) (q := 20) (la := [d0, zR 1 v1, zI v2, zI v3, zI v4, zR 20 1, zC 40, zI v7, d8]) (sa := []) (ks := [fun la sa _ => kv20 (ar la 1) (ai la 2) (ai la 3) (ai la 4) (ai la 7)]) (gs := [fun la sa _ => zsw (tc2 la [(2, 0), (5, 0), (0, 0), (0, 0), (0, 0), (120, 1), (3, 40), (0, 0), (2, 0)] && tc2 sa []) False (kg20 (ar la 1) (ai la 2) (ai la 3) (ai la 4) (ai la 7))]) (fcons o142 (fcons o143 (fnil))) tab136 pc136 ⟨fun la sa s hg H => zcut H fun H => hk20 (ar la 1) (ai la 2) (ai la 3) (ai la 4) (ai la 7) (zld la 0) (zld la 8) H, trivial⟩ hg H
theorem t8_sumAt_20 (p : PM) (hg : Gr 0 p) : ∀ (n : Nat), ∀ (v1 : Nat) (v2 : Int32) (v3 : Int32) (v4 : Int32) (v7 : Int32) (d0 d8 : ZV), g8_sumAt_20 p n v1 v2 v3 v4 v7 → ZJ 0 136 20 [d0, zR 1 v1, zI v2, zI v3, zI v4, zR 20 1, zC 40, zI v7, d8] [] p (hoI p (v8_sumAt_20 p n v1 v2 v3 v4 v7)) := by
  intro n
  induction n with
  | zero =>
    intro v1 v2 v3 v4 v7 d0 d8 H
    exact H.elim
  | succ n ih => exact r8_sumAt_20 p hg v10_standsIn g10_standsIn ok142 v10_allows g10_allows ok143 (v8_sumAt_20 p n) (g8_sumAt_20 p n) ih
set_option maxRecDepth 100000 in
theorem r8_sumAt (p : PM) (hg : Gr 0 p) (F142 : PM → Nat → Nat → Int32 → Int32) (G142 : PM → Nat → Nat → Int32 → Prop) (o142 : CalOK 0 (CC142 F142 G142)) (F143 : PM → Nat → Int32 → Int32) (G143 : PM → Nat → Int32 → Prop) (o143 : CalOK 0 (CC143 F143 G143)) (kv20 : Nat → Int32 → Int32 → Int32 → Int32 → Int32) (kg20 : Nat → Int32 → Int32 → Int32 → Int32 → Prop) (hk20 : ∀ (v1 : Nat) (v2 : Int32) (v3 : Int32) (v4 : Int32) (v7 : Int32) (d0 d8 : ZV), kg20 v1 v2 v3 v4 v7 → ZJ 0 136 20 [d0, zR 1 v1, zI v2, zI v3, zI v4, zR 20 1, zC 40, zI v7, d8] [] p (hoI p (kv20 v1 v2 v3 v4 v7))) : ∀ (v1 : Nat) (v2 : Int32) (v3 : Int32), bg8_sumAt p kg20 v1 v2 v3 → ZJ 0 136 0 [zR 8 1, zR 1 v1, zI v2, zI v3, zJ, zJ, zJ, zJ, zJ] [] p (hoI p (bv8_sumAt p kv20 v1 v2 v3)) := by
  intro v1 v2 v3  H
  exact roI (n := 3000) (q := 0) (la := [zR 8 1, zR 1 v1, zI v2, zI v3, zJ, zJ, zJ, zJ, zJ]) (sa := []) (ks := [fun la sa _ => kv20 (ar la 1) (ai la 2) (ai la 3) (ai la 4) (ai la 7)]) (gs := [fun la sa _ => zsw (tc2 la [(2, 0), (5, 0), (0, 0), (0, 0), (0, 0), (120, 1), (3, 40), (0, 0), (2, 0)] && tc2 sa []) False (kg20 (ar la 1) (ai la 2) (ai la 3) (ai la 4) (ai la 7))]) (fcons o142 (fcons o143 (fnil))) tab136 pc136 ⟨fun la sa s hg H => zcut H fun H => hk20 (ar la 1) (ai la 2) (ai la 3) (ai la 4) (ai la 7) (zld la 0) (zld la 8) H, trivial⟩ hg H
theorem t8_sumAt (p : PM) (hg : Gr 0 p) : ∀ (v1 : Nat) (v2 : Int32) (v3 : Int32), g8_sumAt p v1 v2 v3 → ZJ 0 136 0 [zR 8 1, zR 1 v1, zI v2, zI v3, zJ, zJ, zJ, zJ, zJ] [] p (hoI p (v8_sumAt p v1 v2 v3)) := r8_sumAt p hg v10_standsIn g10_standsIn ok142 v10_allows g10_allows ok143 (v8_sumAt_20 p FU) (g8_sumAt_20 p FU) (t8_sumAt_20 p hg FU)
def CC136 (F : PM → Nat → Int32 → Int32 → Int32) (G : PM → Nat → Int32 → Int32 → Prop) : Cal := (136, [11, 4, 0, 0], 1, true, fun as p => (zI (F p (ar as 1) (ai as 2) (ai as 3)), p), fun as p => zsw (tc2 as [(108, 1), (5, 0), (0, 0), (0, 0)]) False (G p (ar as 1) (ai as 2) (ai as 3)))
set_option maxRecDepth 100000 in
theorem okr136 (F : PM → Nat → Int32 → Int32 → Int32) (G : PM → Nat → Int32 → Int32 → Prop) (h : ∀ (p : PM) (v1 : Nat) (v2 : Int32) (v3 : Int32), Gr 0 p → G p v1 v2 v3 → ZJ 0 136 0 [zR 8 1, zR 1 v1, zI v2, zI v3, zJ, zJ, zJ, zJ, zJ] [] p (hoI p (F p v1 v2 v3))) : CalOK 0 (CC136 F G) := cal_ok (m := 9) (by unfold mL; rw [mX_136]) (fun as p hg H => h p (ar as 1) (ai as 2) (ai as 3) hg H)
theorem ok136 : CalOK 0 (CC136 v8_sumAt g8_sumAt) := okr136 v8_sumAt g8_sumAt (fun p v1 v2 v3 hg H => t8_sumAt p hg v1 v2 v3 H)
noncomputable def bv8_volumeAt (p : PM) (F136 : PM → Nat → Int32 → Int32 → Int32) (F209 : PM → Int32 → Int32 → Int32) (v1 : Nat) (v2 : Int32) : Int32 :=
  (F209 p (F136 p v1 (cn 1) v2) (F136 p v1 (cn 0) v2))
noncomputable def v8_volumeAt (p : PM) (v1 : Nat) (v2 : Int32) : Int32 := bv8_volumeAt p v8_sumAt v14_min_7cf53 v1 v2
noncomputable def bg8_volumeAt (p : PM) (F136 : PM → Nat → Int32 → Int32 → Int32) (G136 : PM → Nat → Int32 → Int32 → Prop) (F209 : PM → Int32 → Int32 → Int32) (G209 : PM → Int32 → Int32 → Prop) (v1 : Nat) (v2 : Int32) : Prop :=
  (G136 p v1 (cn 1) v2) ∧ (
  (G136 p v1 (cn 0) v2) ∧ (
  (G209 p (F136 p v1 (cn 1) v2) (F136 p v1 (cn 0) v2)) ∧ (
  True)))
noncomputable def g8_volumeAt (p : PM) (v1 : Nat) (v2 : Int32) : Prop := bg8_volumeAt p v8_sumAt g8_sumAt v14_min_7cf53 g14_min_7cf53 v1 v2
def R135 : List Row := [(0, .aload_n 0, 1, 0, (0, 0, 0, 0, 0, 0)), (1, .aload_n 1, 1, 0, (0, 0, 0, 0, 0, 0)), (2, .iconst 1, 1, 0, (0, 0, 0, 0, 0, 1)), (3, .iload_n 2, 1, 0, (0, 0, 0, 0, 0, 0)), (4, .invokevirtual 199, 3, 0, (0, 4, 0, 0, 1, 0)), (7, .aload_n 0, 1, 0, (0, 0, 0, 0, 0, 0)), (8, .aload_n 1, 1, 0, (0, 0, 0, 0, 0, 0)), (9, .iconst 0, 1, 0, (0, 0, 0, 0, 0, 0)), (10, .iload_n 2, 1, 0, (0, 0, 0, 0, 0, 0)), (11, .invokevirtual 199, 3, 0, (0, 4, 0, 0, 1, 0)), (14, .invokestatic 128, 3, 0, (1, 2, 0, 0, 0, 0)), (17, .ireturn, 1, 0, (0, 0, 0, 0, 0, 0))]
set_option maxRecDepth 100000 in
theorem rk135 : R135.all (rok 0 135 1 [(136, [11, 4, 0, 0]), (209, [0, 0])]) = true := by decide +kernel
set_option maxRecDepth 100000 in
theorem tab135 {F136 : PM → Nat → Int32 → Int32 → Int32} {G136 : PM → Nat → Int32 → Int32 → Prop} {F209 : PM → Int32 → Int32 → Int32} {G209 : PM → Int32 → Int32 → Prop} : TabOK 0 135 1 [CC136 F136 G136, CC209 F209 G209] R135 := tab_ok (K := K135) rfl rfl (fun h => d135 h) rk135 (by decide +kernel)
set_option maxRecDepth 100000 in
theorem pc135 : cutpc [] R135 = true := by decide +kernel
set_option maxRecDepth 100000 in
theorem r8_volumeAt (p : PM) (hg : Gr 0 p) (F136 : PM → Nat → Int32 → Int32 → Int32) (G136 : PM → Nat → Int32 → Int32 → Prop) (o136 : CalOK 0 (CC136 F136 G136)) (F209 : PM → Int32 → Int32 → Int32) (G209 : PM → Int32 → Int32 → Prop) (o209 : CalOK 0 (CC209 F209 G209)) : ∀ (v1 : Nat) (v2 : Int32), bg8_volumeAt p F136 G136 F209 G209 v1 v2 → ZJ 0 135 0 [zR 8 1, zR 1 v1, zI v2] [] p (hoI p (bv8_volumeAt p F136 F209 v1 v2)) := by
  intro v1 v2  H
  exact roI (n := 3000) (q := 0) (la := [zR 8 1, zR 1 v1, zI v2]) (sa := []) (ks := []) (gs := []) (fcons o136 (fcons o209 (fnil))) tab135 pc135 trivial hg H
theorem t8_volumeAt (p : PM) (hg : Gr 0 p) : ∀ (v1 : Nat) (v2 : Int32), g8_volumeAt p v1 v2 → ZJ 0 135 0 [zR 8 1, zR 1 v1, zI v2] [] p (hoI p (v8_volumeAt p v1 v2)) := r8_volumeAt p hg v8_sumAt g8_sumAt ok136 v14_min_7cf53 g14_min_7cf53 ok209
def CC135 (F : PM → Nat → Int32 → Int32) (G : PM → Nat → Int32 → Prop) : Cal := (135, [11, 4, 0], 1, true, fun as p => (zI (F p (ar as 1) (ai as 2)), p), fun as p => zsw (tc2 as [(108, 1), (5, 0), (0, 0)]) False (G p (ar as 1) (ai as 2)))
set_option maxRecDepth 100000 in
theorem okr135 (F : PM → Nat → Int32 → Int32) (G : PM → Nat → Int32 → Prop) (h : ∀ (p : PM) (v1 : Nat) (v2 : Int32), Gr 0 p → G p v1 v2 → ZJ 0 135 0 [zR 8 1, zR 1 v1, zI v2] [] p (hoI p (F p v1 v2))) : CalOK 0 (CC135 F G) := cal_ok (m := 3) (by unfold mL; rw [mX_135]) (fun as p hg H => h p (ar as 1) (ai as 2) hg H)
theorem ok135 : CalOK 0 (CC135 v8_volumeAt g8_volumeAt) := okr135 v8_volumeAt g8_volumeAt (fun p v1 v2 hg H => t8_volumeAt p hg v1 v2 H)
noncomputable def bv8_isNearer (p : PM) (F205 : PM → Int32 → Int32) (v0 : Int32) (v1 : Int32) (v2 : Int32) : Int32 :=
  let x1 : Int32 := (F205 p (v0 - v2))
  let x2 : Int32 := (F205 p (v1 - v2))
  if x1 < x2 then (
    (cn 1))
  else (
    if x1 = x2 then (
      if v0 < v1 then (
        (cn 1))
      else (
        (cn 0)))
    else (
      (cn 0)))
noncomputable def v8_isNearer (p : PM) (v0 : Int32) (v1 : Int32) (v2 : Int32) : Int32 := bv8_isNearer p v14_abs_0f7a4 v0 v1 v2
noncomputable def bg8_isNearer (p : PM) (F205 : PM → Int32 → Int32) (G205 : PM → Int32 → Prop) (v0 : Int32) (v1 : Int32) (v2 : Int32) : Prop :=
  (G205 p (v0 - v2)) ∧ (
  let x1 : Int32 := (F205 p (v0 - v2))
  (G205 p (v1 - v2)) ∧ (
  let x2 : Int32 := (F205 p (v1 - v2))
  if x1 < x2 then (
    True)
  else (
    if x1 = x2 then (
      if v0 < v1 then (
        True)
      else (
        True))
    else (
      True))))
noncomputable def g8_isNearer (p : PM) (v0 : Int32) (v1 : Int32) (v2 : Int32) : Prop := bg8_isNearer p v14_abs_0f7a4 g14_abs_0f7a4 v0 v1 v2
def R134 : List Row := [(0, .iload_n 0, 1, 0, (0, 0, 0, 0, 0, 0)), (1, .iload_n 2, 1, 0, (0, 0, 0, 0, 0, 0)), (2, .isub, 1, 0, (0, 0, 0, 0, 0, 0)), (3, .invokestatic 203, 3, 0, (0, 1, 0, 0, 0, 0)), (6, .istore_n 3, 1, 0, (0, 0, 0, 0, 0, 0)), (7, .iload_n 1, 1, 0, (0, 0, 0, 0, 0, 0)), (8, .iload_n 2, 1, 0, (0, 0, 0, 0, 0, 0)), (9, .isub, 1, 0, (0, 0, 0, 0, 0, 0)), (10, .invokestatic 203, 3, 0, (0, 1, 0, 0, 0, 0)), (13, .istore 4, 2, 0, (0, 0, 0, 0, 0, 0)), (15, .iload_n 3, 1, 0, (0, 0, 0, 0, 0, 0)), (16, .iload 4, 2, 0, (0, 0, 0, 0, 0, 0)), (18, .if_icmp .lt 14, 3, 0, (0, 0, 0, 0, 0, 0)), (21, .iload_n 3, 1, 0, (0, 0, 0, 0, 0, 0)), (22, .iload 4, 2, 0, (0, 0, 0, 0, 0, 0)), (24, .if_icmp .ne 12, 3, 0, (0, 0, 0, 0, 0, 0)), (27, .iload_n 0, 1, 0, (0, 0, 0, 0, 0, 0)), (28, .iload_n 1, 1, 0, (0, 0, 0, 0, 0, 0)), (29, .if_icmp .ge 7, 3, 0, (0, 0, 0, 0, 0, 0)), (32, .iconst 1, 1, 0, (0, 0, 0, 0, 0, 1)), (33, .goto 4, 3, 0, (0, 0, 0, 0, 0, 0)), (36, .iconst 0, 1, 0, (0, 0, 0, 0, 0, 0)), (37, .ireturn, 1, 0, (1, 0, 0, 0, 0, 0))]
set_option maxRecDepth 100000 in
theorem rk134 : R134.all (rok 0 134 1 [(205, [0])]) = true := by decide +kernel
set_option maxRecDepth 100000 in
theorem tab134 {F205 : PM → Int32 → Int32} {G205 : PM → Int32 → Prop} : TabOK 0 134 1 [CC205 F205 G205] R134 := tab_ok (K := K134) rfl rfl (fun h => d134 h) rk134 (by decide +kernel)
set_option maxRecDepth 100000 in
theorem pc134 : cutpc [] R134 = true := by decide +kernel
set_option maxRecDepth 100000 in
theorem r8_isNearer (p : PM) (hg : Gr 0 p) (F205 : PM → Int32 → Int32) (G205 : PM → Int32 → Prop) (o205 : CalOK 0 (CC205 F205 G205)) : ∀ (v0 : Int32) (v1 : Int32) (v2 : Int32), bg8_isNearer p F205 G205 v0 v1 v2 → ZJ 0 134 0 [zI v0, zI v1, zI v2, zJ, zJ] [] p (hoI p (bv8_isNearer p F205 v0 v1 v2)) := by
  intro v0 v1 v2  H
  exact roI (n := 3000) (q := 0) (la := [zI v0, zI v1, zI v2, zJ, zJ]) (sa := []) (ks := []) (gs := []) (fcons o205 (fnil)) tab134 pc134 trivial hg H
theorem t8_isNearer (p : PM) (hg : Gr 0 p) : ∀ (v0 : Int32) (v1 : Int32) (v2 : Int32), g8_isNearer p v0 v1 v2 → ZJ 0 134 0 [zI v0, zI v1, zI v2, zJ, zJ] [] p (hoI p (v8_isNearer p v0 v1 v2)) := r8_isNearer p hg v14_abs_0f7a4 g14_abs_0f7a4 ok205
def CC134 (F : PM → Int32 → Int32 → Int32 → Int32) (G : PM → Int32 → Int32 → Int32 → Prop) : Cal := (134, [0, 0, 0], 1, true, fun as p => (zI (F p (ai as 0) (ai as 1) (ai as 2)), p), fun as p => zsw (tc2 as [(0, 0), (0, 0), (0, 0)]) False (G p (ai as 0) (ai as 1) (ai as 2)))
set_option maxRecDepth 100000 in
theorem okr134 (F : PM → Int32 → Int32 → Int32 → Int32) (G : PM → Int32 → Int32 → Int32 → Prop) (h : ∀ (p : PM) (v0 : Int32) (v1 : Int32) (v2 : Int32), Gr 0 p → G p v0 v1 v2 → ZJ 0 134 0 [zI v0, zI v1, zI v2, zJ, zJ] [] p (hoI p (F p v0 v1 v2))) : CalOK 0 (CC134 F G) := cal_ok (m := 5) (by unfold mL; rw [mX_134]) (fun as p hg H => h p (ai as 0) (ai as 1) (ai as 2) hg H)
theorem ok134 : CalOK 0 (CC134 v8_isNearer g8_isNearer) := okr134 v8_isNearer g8_isNearer (fun p v0 v1 v2 hg H => t8_isNearer p hg v0 v1 v2 H)
noncomputable def bv8_findPrice_25 (p : PM) (F134 : PM → Int32 → Int32 → Int32 → Int32) (F135 : PM → Nat → Int32 → Int32) (F136 : PM → Nat → Int32 → Int32 → Int32) (F205 : PM → Int32 → Int32) (kv25 : Nat → Int32 → Int32 → Int32 → Int32 → Int32) (v1 : Nat) (v2 : Int32) (v3 : Int32) (v4 : Int32) (v7 : Int32) : Int32 :=
  if v7 < (cn 40) then (
    if (p.1 10 ((v7).toNatClampNeg + 1) 2) = (cn 1) then (
      if (p.2.2 10 ((v7).toNatClampNeg + 1) 4) = v1 then (
        if (p.1 10 ((v7).toNatClampNeg + 1) 6) = (cn (-100000)) then (
          kv25 v1 v2 v3 v4 (v7 + (cn 1)))
        else (
          let x1 : Int32 := (p.1 10 ((v7).toNatClampNeg + 1) 6)
          let x2 : Int32 := (F205 p ((F136 p v1 (cn 1) x1) - (F136 p v1 (cn 0) x1)))
          if v2 = (cn (-100000)) then (
            kv25 v1 x1 (F135 p v1 x1) x2 (v7 + (cn 1)))
          else (
            if v3 < (F135 p v1 x1) then (
              kv25 v1 x1 (F135 p v1 x1) x2 (v7 + (cn 1)))
            else (
              if (F135 p v1 x1) = v3 then (
                if x2 < v4 then (
                  kv25 v1 x1 (F135 p v1 x1) x2 (v7 + (cn 1)))
                else (
                  if x2 = v4 then (
                    if (F134 p x1 v2 (p.1 1 v1 4)) = 0 then (
                      kv25 v1 v2 v3 v4 (v7 + (cn 1)))
                    else (
                      kv25 v1 x1 (F135 p v1 x1) x2 (v7 + (cn 1))))
                  else (
                    kv25 v1 v2 v3 v4 (v7 + (cn 1)))))
              else (
                kv25 v1 v2 v3 v4 (v7 + (cn 1)))))))
      else (
        kv25 v1 v2 v3 v4 (v7 + (cn 1))))
    else (
      kv25 v1 v2 v3 v4 (v7 + (cn 1))))
  else (
    if v2 = (cn (-100000)) then (
      if 0 < (F135 p v1 (p.1 1 v1 4)) then (
        (p.1 1 v1 4))
      else (
        (cn (-100000))))
    else (
      if 0 < (F135 p v1 v2) then (
        v2)
      else (
        (cn (-100000)))))
noncomputable def v8_findPrice_25 (p : PM) (n : Nat) : Nat → Int32 → Int32 → Int32 → Int32 → Int32 := Nat.rec (motive := fun _ => Nat → Int32 → Int32 → Int32 → Int32 → Int32) (fun _ _ _ _ _ => 0) (fun _ ih => bv8_findPrice_25 p v8_isNearer v8_volumeAt v8_sumAt v14_abs_0f7a4 ih) n
theorem ev8_findPrice_25 (p : PM) (n : Nat) (v1 : Nat) (v2 : Int32) (v3 : Int32) (v4 : Int32) (v7 : Int32) : v8_findPrice_25 p (n + 1) v1 v2 v3 v4 v7 = bv8_findPrice_25 p v8_isNearer v8_volumeAt v8_sumAt v14_abs_0f7a4 (v8_findPrice_25 p n) v1 v2 v3 v4 v7 := rfl
noncomputable def bg8_findPrice_25 (p : PM) (F134 : PM → Int32 → Int32 → Int32 → Int32) (G134 : PM → Int32 → Int32 → Int32 → Prop) (F135 : PM → Nat → Int32 → Int32) (G135 : PM → Nat → Int32 → Prop) (F136 : PM → Nat → Int32 → Int32 → Int32) (G136 : PM → Nat → Int32 → Int32 → Prop) (F205 : PM → Int32 → Int32) (G205 : PM → Int32 → Prop) (kg25 : Nat → Int32 → Int32 → Int32 → Int32 → Prop) (v1 : Nat) (v2 : Int32) (v3 : Int32) (v4 : Int32) (v7 : Int32) : Prop :=
  if v7 < (cn 40) then (
    (inb v7 40) ∧ (
    if (p.1 10 ((v7).toNatClampNeg + 1) 2) = (cn 1) then (
      if (p.2.2 10 ((v7).toNatClampNeg + 1) 4) = v1 then (
        if (p.1 10 ((v7).toNatClampNeg + 1) 6) = (cn (-100000)) then (
          kg25 v1 v2 v3 v4 (v7 + (cn 1)))
        else (
          let x1 : Int32 := (p.1 10 ((v7).toNatClampNeg + 1) 6)
          (G135 p v1 x1) ∧ (
          (G136 p v1 (cn 1) x1) ∧ (
          (G136 p v1 (cn 0) x1) ∧ (
          (G205 p ((F136 p v1 (cn 1) x1) - (F136 p v1 (cn 0) x1))) ∧ (
          let x2 : Int32 := (F205 p ((F136 p v1 (cn 1) x1) - (F136 p v1 (cn 0) x1)))
          if v2 = (cn (-100000)) then (
            kg25 v1 x1 (F135 p v1 x1) x2 (v7 + (cn 1)))
          else (
            if v3 < (F135 p v1 x1) then (
              kg25 v1 x1 (F135 p v1 x1) x2 (v7 + (cn 1)))
            else (
              if (F135 p v1 x1) = v3 then (
                if x2 < v4 then (
                  kg25 v1 x1 (F135 p v1 x1) x2 (v7 + (cn 1)))
                else (
                  if x2 = v4 then (
                    (¬ v1 = 0) ∧ (
                    (G134 p x1 v2 (p.1 1 v1 4)) ∧ (
                    if (F134 p x1 v2 (p.1 1 v1 4)) = 0 then (
                      kg25 v1 v2 v3 v4 (v7 + (cn 1)))
                    else (
                      kg25 v1 x1 (F135 p v1 x1) x2 (v7 + (cn 1))))))
                  else (
                    kg25 v1 v2 v3 v4 (v7 + (cn 1)))))
              else (
                kg25 v1 v2 v3 v4 (v7 + (cn 1)))))))))))
      else (
        kg25 v1 v2 v3 v4 (v7 + (cn 1))))
    else (
      kg25 v1 v2 v3 v4 (v7 + (cn 1)))))
  else (
    if v2 = (cn (-100000)) then (
      (¬ v1 = 0) ∧ (
      (G135 p v1 (p.1 1 v1 4)) ∧ (
      if 0 < (F135 p v1 (p.1 1 v1 4)) then (
        True)
      else (
        True))))
    else (
      (G135 p v1 v2) ∧ (
      if 0 < (F135 p v1 v2) then (
        True)
      else (
        True))))
noncomputable def g8_findPrice_25 (p : PM) (n : Nat) : Nat → Int32 → Int32 → Int32 → Int32 → Prop := Nat.rec (motive := fun _ => Nat → Int32 → Int32 → Int32 → Int32 → Prop) (fun _ _ _ _ _ => False) (fun _ ih => bg8_findPrice_25 p v8_isNearer g8_isNearer v8_volumeAt g8_volumeAt v8_sumAt g8_sumAt v14_abs_0f7a4 g14_abs_0f7a4 ih) n
theorem eg8_findPrice_25 (p : PM) (n : Nat) (v1 : Nat) (v2 : Int32) (v3 : Int32) (v4 : Int32) (v7 : Int32) : g8_findPrice_25 p (n + 1) v1 v2 v3 v4 v7 = bg8_findPrice_25 p v8_isNearer g8_isNearer v8_volumeAt g8_volumeAt v8_sumAt g8_sumAt v14_abs_0f7a4 g14_abs_0f7a4 (g8_findPrice_25 p n) v1 v2 v3 v4 v7 := rfl
noncomputable def bv8_findPrice (p : PM) (kv25 : Nat → Int32 → Int32 → Int32 → Int32 → Int32) (v1 : Nat) : Int32 :=
  kv25 v1 (cn (-100000)) (cn 0) (cn 0) (cn 0)
noncomputable def v8_findPrice (p : PM) (v1 : Nat) : Int32 := bv8_findPrice p (v8_findPrice_25 p FU) v1
noncomputable def bg8_findPrice (p : PM) (kg25 : Nat → Int32 → Int32 → Int32 → Int32 → Prop) (v1 : Nat) : Prop :=
  kg25 v1 (cn (-100000)) (cn 0) (cn 0) (cn 0)
noncomputable def g8_findPrice (p : PM) (v1 : Nat) : Prop := bg8_findPrice p (g8_findPrice_25 p FU) v1
def R133 : List Row := [(0, .ldc 79, 2, 0, (0, 0, 0, 0, 0, -100000)), (2, .istore_n 2, 1, 0, (0, 0, 0, 0, 0, 0)), (3, .iconst 0, 1, 0, (0, 0, 0, 0, 0, 0)), (4, .istore_n 3, 1, 0, (0, 0, 0, 0, 0, 0)), (5, .iconst 0, 1, 0, (0, 0, 0, 0, 0, 0)), (6, .istore 4, 2, 0, (0, 0, 0, 0, 0, 0)), (8, .aload_n 0, 1, 0, (0, 0, 0, 0, 0, 0)), (9, .getfield 21, 3, 0, (8, 0, 9, 2, 1, 0)), (12, .getfield 29, 3, 0, (6, 1, 23, 2, 1, 0)), (15, .astore 5, 2, 0, (0, 0, 0, 0, 0, 0)), (17, .aload 5, 2, 0, (0, 0, 0, 0, 0, 0)), (19, .arraylength, 1, 0, (20, 40, 0, 0, 0, 40)), (20, .istore 6, 2, 0, (0, 0, 0, 0, 0, 0)), (22, .iconst 0, 1, 0, (0, 0, 0, 0, 0, 0)), (23, .istore 7, 2, 0, (0, 0, 0, 0, 0, 0)), (25, .iload 7, 2, 1, (0, 0, 0, 0, 0, 0)), (27, .iload 6, 2, 0, (0, 0, 0, 0, 0, 0)), (29, .if_icmp .ge 164, 3, 0, (0, 0, 0, 0, 0, 0)), (32, .aload 5, 2, 0, (0, 0, 0, 0, 0, 0)), (34, .iload 7, 2, 0, (0, 0, 0, 0, 0, 0)), (36, .aaload, 1, 0, (20, 40, 0, 1, 1, 0)), (37, .astore 8, 2, 0, (0, 0, 0, 0, 0, 0)), (39, .aload 8, 2, 0, (0, 0, 0, 0, 0, 0)), (41, .getfield 72, 3, 0, (10, 2, 0, 1, 0, 0)), (44, .iconst 1, 1, 0, (0, 0, 0, 0, 0, 1)), (45, .if_icmp .ne 142, 3, 0, (0, 0, 0, 0, 0, 0)), (48, .aload 8, 2, 0, (0, 0, 0, 0, 0, 0)), (50, .getfield 34, 3, 0, (10, 4, 4, 1, 0, 0)), (53, .aload_n 1, 1, 0, (0, 0, 0, 0, 0, 0)), (54, .if_acmp .ne 133, 3, 0, (0, 0, 0, 0, 0, 0)), (57, .aload 8, 2, 0, (0, 0, 0, 0, 0, 0)), (59, .getfield 110, 3, 0, (10, 6, 0, 1, 0, 0)), (62, .ldc 79, 2, 0, (0, 0, 0, 0, 0, -100000)), (64, .if_icmp .ne 6, 3, 0, (0, 0, 0, 0, 0, 0)), (67, .goto 120, 3, 0, (0, 0, 0, 0, 0, 0)), (70, .aload 8, 2, 0, (0, 0, 0, 0, 0, 0)), (72, .getfield 110, 3, 0, (10, 6, 0, 1, 0, 0)), (75, .istore 9, 2, 0, (0, 0, 0, 0, 0, 0)), (77, .aload_n 0, 1, 0, (0, 0, 0, 0, 0, 0)), (78, .aload_n 1, 1, 0, (0, 0, 0, 0, 0, 0)), (79, .iload 9, 2, 0, (0, 0, 0, 0, 0, 0)), (81, .invokevirtual 195, 3, 0, (0, 3, 0, 0, 1, 0)), (84, .istore 10, 2, 0, (0, 0, 0, 0, 0, 0)), (86, .aload_n 0, 1, 0, (0, 0, 0, 0, 0, 0)), (87, .aload_n 1, 1, 0, (0, 0, 0, 0, 0, 0)), (88, .iconst 1, 1, 0, (0, 0, 0, 0, 0, 1)), (89, .iload 9, 2, 0, (0, 0, 0, 0, 0, 0)), (91, .invokevirtual 199, 3, 0, (1, 4, 0, 0, 1, 0)), (94, .aload_n 0, 1, 0, (0, 0, 0, 0, 0, 0)), (95, .aload_n 1, 1, 0, (0, 0, 0, 0, 0, 0)), (96, .iconst 0, 1, 0, (0, 0, 0, 0, 0, 0)), (97, .iload 9, 2, 0, (0, 0, 0, 0, 0, 0)), (99, .invokevirtual 199, 3, 0, (1, 4, 0, 0, 1, 0)), (102, .isub, 1, 0, (0, 0, 0, 0, 0, 0)), (103, .invokestatic 203, 3, 0, (2, 1, 0, 0, 0, 0)), (106, .istore 11, 2, 0, (0, 0, 0, 0, 0, 0)), (108, .iload_n 2, 1, 0, (0, 0, 0, 0, 0, 0)), (109, .ldc 79, 2, 0, (0, 0, 0, 0, 0, -100000)), (111, .if_icmp .eq 9, 3, 0, (0, 0, 0, 0, 0, 0)), (114, .iload 10, 2, 0, (0, 0, 0, 0, 0, 0)), (116, .iload_n 3, 1, 0, (0, 0, 0, 0, 0, 0)), (117, .if_icmp .le 7, 3, 0, (0, 0, 0, 0, 0, 0)), (120, .iconst 1, 1, 0, (0, 0, 0, 0, 0, 1)), (121, .goto 4, 3, 0, (0, 0, 0, 0, 0, 0)), (124, .iconst 0, 1, 0, (0, 0, 0, 0, 0, 0)), (125, .istore 12, 2, 0, (0, 0, 0, 0, 0, 0)), (127, .iload 12, 2, 0, (0, 0, 0, 0, 0, 0)), (129, .ifCond .ne 43, 3, 0, (0, 0, 0, 0, 0, 0)), (132, .iload 10, 2, 0, (0, 0, 0, 0, 0, 0)), (134, .iload_n 3, 1, 0, (0, 0, 0, 0, 0, 0)), (135, .if_icmp .ne 37, 3, 0, (0, 0, 0, 0, 0, 0)), (138, .iload 11, 2, 0, (0, 0, 0, 0, 0, 0)), (140, .iload 4, 2, 0, (0, 0, 0, 0, 0, 0)), (142, .if_icmp .lt 23, 3, 0, (0, 0, 0, 0, 0, 0)), (145, .iload 11, 2, 0, (0, 0, 0, 0, 0, 0)), (147, .iload 4, 2, 0, (0, 0, 0, 0, 0, 0)), (149, .if_icmp .ne 20, 3, 0, (0, 0, 0, 0, 0, 0)), (152, .iload 9, 2, 0, (0, 0, 0, 0, 0, 0)), (154, .iload_n 2, 1, 0, (0, 0, 0, 0, 0, 0)), (155, .aload_n 1, 1, 0, (0, 0, 0, 0, 0, 0)), (156, .getfield 176, 3, 0, (1, 4, 0, 0, 0, 0)), (159, .invokestatic 207, 3, 0, (3, 3, 0, 0, 0, 0)), (162, .ifCond .eq 7, 3, 0, (0, 0, 0, 0, 0, 0)), (165, .iconst 1, 1, 0, (0, 0, 0, 0, 0, 1)), (166, .goto 4, 3, 0, (0, 0, 0, 0, 0, 0)), (169, .iconst 0, 1, 0, (0, 0, 0, 0, 0, 0)), (170, .istore 12, 2, 0, (0, 0, 0, 0, 0, 0)), (172, .iload 12, 2, 0, (0, 0, 0, 0, 0, 0)), (174, .ifCond .eq 13, 3, 0, (0, 0, 0, 0, 0, 0)), (177, .iload 9, 2, 0, (0, 0, 0, 0, 0, 0)), (179, .istore_n 2, 1, 0, (0, 0, 0, 0, 0, 0)), (180, .iload 10, 2, 0, (0, 0, 0, 0, 0, 0)), (182, .istore_n 3, 1, 0, (0, 0, 0, 0, 0, 0)), (183, .iload 11, 2, 0, (0, 0, 0, 0, 0, 0)), (185, .istore 4, 2, 0, (0, 0, 0, 0, 0, 0)), (187, .iinc 7 1, 3, 0, (0, 0, 0, 0, 0, 1)), (190, .goto (-165), 3, 0, (0, 0, 0, 0, 0, 0)), (193, .iload_n 2, 1, 0, (0, 0, 0, 0, 0, 0)), (194, .ldc 79, 2, 0, (0, 0, 0, 0, 0, -100000)), (196, .if_icmp .ne 10, 3, 0, (0, 0, 0, 0, 0, 0)), (199, .aload_n 1, 1, 0, (0, 0, 0, 0, 0, 0)), (200, .getfield 176, 3, 0, (1, 4, 0, 0, 0, 0)), (203, .goto 4, 3, 0, (0, 0, 0, 0, 0, 0)), (206, .iload_n 2, 1, 0, (0, 0, 0, 0, 0, 0)), (207, .istore 5, 2, 0, (0, 0, 0, 0, 0, 0)), (209, .aload_n 0, 1, 0, (0, 0, 0, 0, 0, 0)), (210, .aload_n 1, 1, 0, (0, 0, 0, 0, 0, 0)), (211, .iload 5, 2, 0, (0, 0, 0, 0, 0, 0)), (213, .invokevirtual 195, 3, 0, (0, 3, 0, 0, 1, 0)), (216, .ifCond .le 8, 3, 0, (0, 0, 0, 0, 0, 0)), (219, .iload 5, 2, 0, (0, 0, 0, 0, 0, 0)), (221, .goto 5, 3, 0, (0, 0, 0, 0, 0, 0)), (224, .ldc 79, 2, 0, (0, 0, 0, 0, 0, -100000)), (226, .ireturn, 1, 0, (0, 0, 0, 0, 0, 0))]
set_option maxRecDepth 100000 in
theorem rk133 : R133.all (rok 0 133 1 [(135, [11, 4, 0]), (136, [11, 4, 0, 0]), (205, [0]), (134, [0, 0, 0])]) = true := by decide +kernel
set_option maxRecDepth 100000 in
theorem tab133 {F135 : PM → Nat → Int32 → Int32} {G135 : PM → Nat → Int32 → Prop} {F136 : PM → Nat → Int32 → Int32 → Int32} {G136 : PM → Nat → Int32 → Int32 → Prop} {F205 : PM → Int32 → Int32} {G205 : PM → Int32 → Prop} {F134 : PM → Int32 → Int32 → Int32 → Int32} {G134 : PM → Int32 → Int32 → Int32 → Prop} : TabOK 0 133 1 [CC135 F135 G135, CC136 F136 G136, CC205 F205 G205, CC134 F134 G134] R133 := tab_ok (K := K133) rfl rfl (fun h => d133 h) rk133 (by decide +kernel)
set_option maxRecDepth 100000 in
theorem pc133 : cutpc [25] R133 = true := by decide +kernel
set_option maxRecDepth 100000 in
theorem r8_findPrice_25 (p : PM) (hg : Gr 0 p) (F135 : PM → Nat → Int32 → Int32) (G135 : PM → Nat → Int32 → Prop) (o135 : CalOK 0 (CC135 F135 G135)) (F136 : PM → Nat → Int32 → Int32 → Int32) (G136 : PM → Nat → Int32 → Int32 → Prop) (o136 : CalOK 0 (CC136 F136 G136)) (F205 : PM → Int32 → Int32) (G205 : PM → Int32 → Prop) (o205 : CalOK 0 (CC205 F205 G205)) (F134 : PM → Int32 → Int32 → Int32 → Int32) (G134 : PM → Int32 → Int32 → Int32 → Prop) (o134 : CalOK 0 (CC134 F134 G134)) (kv25 : Nat → Int32 → Int32 → Int32 → Int32 → Int32) (kg25 : Nat → Int32 → Int32 → Int32 → Int32 → Prop) (hk25 : ∀ (v1 : Nat) (v2 : Int32) (v3 : Int32) (v4 : Int32) (v7 : Int32) (d8 d9 d10 d11 d12 : ZV), kg25 v1 v2 v3 v4 v7 → ZJ 0 133 25 [zR 8 1, zR 1 v1, zI v2, zI v3, zI v4, zR 20 1, zC 40, zI v7, d8, d9, d10, d11, d12] [] p (hoI p (kv25 v1 v2 v3 v4 v7))) : ∀ (v1 : Nat) (v2 : Int32) (v3 : Int32) (v4 : Int32) (v7 : Int32) (d8 d9 d10 d11 d12 : ZV), bg8_findPrice_25 p F134 G134 F135 G135 F136 G136 F205 G205 kg25 v1 v2 v3 v4 v7 → ZJ 0 133 25 [zR 8 1, zR 1 v1, zI v2, zI v3, zI v4, zR 20 1, zC 40, zI v7, d8, d9, d10, d11, d12] [] p (hoI p (bv8_findPrice_25 p F134 F135 F136 F205 kv25 v1 v2 v3 v4 v7)) := by
  intro v1 v2 v3 v4 v7 d8 d9 d10 d11 d12 H
  exact roI (n := 3000) (q := 25) (la := [zR 8 1, zR 1 v1, zI v2, zI v3, zI v4, zR 20 1, zC 40, zI v7, d8, d9, d10, d11, d12]) (sa := []) (ks := [fun la sa _ => kv25 (ar la 1) (ai la 2) (ai la 3) (ai la 4) (ai la 7)]) (gs := [fun la sa _ => zsw (tc2 la [(108, 1), (5, 0), (0, 0), (0, 0), (0, 0), (120, 1), (3, 40), (0, 0), (2, 0), (2, 0), (2, 0), (2, 0), (2, 0)] && tc2 sa []) False (kg25 (ar la 1) (ai la 2) (ai la 3) (ai la 4) (ai la 7))]) (fcons o135 (fcons o136 (fcons o205 (fcons o134 (fnil))))) tab133 pc133 ⟨fun la sa s hg H => zcut H fun H => hk25 (ar la 1) (ai la 2) (ai la 3) (ai la 4) (ai la 7) (zld la 8) (zld la 9) (zld la 10) (zld la 11) (zld la 12) H, trivial⟩ hg H
theorem t8_findPrice_25 (p : PM) (hg : Gr 0 p) : ∀ (n : Nat), ∀ (v1 : Nat) (v2 : Int32) (v3 : Int32) (v4 : Int32) (v7 : Int32) (d8 d9 d10 d11 d12 : ZV), g8_findPrice_25 p n v1 v2 v3 v4 v7 → ZJ 0 133 25 [zR 8 1, zR 1 v1, zI v2, zI v3, zI v4, zR 20 1, zC 40, zI v7, d8, d9, d10, d11, d12] [] p (hoI p (v8_findPrice_25 p n v1 v2 v3 v4 v7)) := by
  intro n
  induction n with
  | zero =>
    intro v1 v2 v3 v4 v7 d8 d9 d10 d11 d12 H
    exact H.elim
  | succ n ih => exact r8_findPrice_25 p hg v8_volumeAt g8_volumeAt ok135 v8_sumAt g8_sumAt ok136 v14_abs_0f7a4 g14_abs_0f7a4 ok205 v8_isNearer g8_isNearer ok134 (v8_findPrice_25 p n) (g8_findPrice_25 p n) ih
set_option maxRecDepth 100000 in
theorem r8_findPrice (p : PM) (hg : Gr 0 p) (F135 : PM → Nat → Int32 → Int32) (G135 : PM → Nat → Int32 → Prop) (o135 : CalOK 0 (CC135 F135 G135)) (F136 : PM → Nat → Int32 → Int32 → Int32) (G136 : PM → Nat → Int32 → Int32 → Prop) (o136 : CalOK 0 (CC136 F136 G136)) (F205 : PM → Int32 → Int32) (G205 : PM → Int32 → Prop) (o205 : CalOK 0 (CC205 F205 G205)) (F134 : PM → Int32 → Int32 → Int32 → Int32) (G134 : PM → Int32 → Int32 → Int32 → Prop) (o134 : CalOK 0 (CC134 F134 G134)) (kv25 : Nat → Int32 → Int32 → Int32 → Int32 → Int32) (kg25 : Nat → Int32 → Int32 → Int32 → Int32 → Prop) (hk25 : ∀ (v1 : Nat) (v2 : Int32) (v3 : Int32) (v4 : Int32) (v7 : Int32) (d8 d9 d10 d11 d12 : ZV), kg25 v1 v2 v3 v4 v7 → ZJ 0 133 25 [zR 8 1, zR 1 v1, zI v2, zI v3, zI v4, zR 20 1, zC 40, zI v7, d8, d9, d10, d11, d12] [] p (hoI p (kv25 v1 v2 v3 v4 v7))) : ∀ (v1 : Nat), bg8_findPrice p kg25 v1 → ZJ 0 133 0 [zR 8 1, zR 1 v1, zJ, zJ, zJ, zJ, zJ, zJ, zJ, zJ, zJ, zJ, zJ] [] p (hoI p (bv8_findPrice p kv25 v1)) := by
  intro v1  H
  exact roI (n := 3000) (q := 0) (la := [zR 8 1, zR 1 v1, zJ, zJ, zJ, zJ, zJ, zJ, zJ, zJ, zJ, zJ, zJ]) (sa := []) (ks := [fun la sa _ => kv25 (ar la 1) (ai la 2) (ai la 3) (ai la 4) (ai la 7)]) (gs := [fun la sa _ => zsw (tc2 la [(108, 1), (5, 0), (0, 0), (0, 0), (0, 0), (120, 1), (3, 40), (0, 0), (2, 0), (2, 0), (2, 0), (2, 0), (2, 0)] && tc2 sa []) False (kg25 (ar la 1) (ai la 2) (ai la 3) (ai la 4) (ai la 7))]) (fcons o135 (fcons o136 (fcons o205 (fcons o134 (fnil))))) tab133 pc133 ⟨fun la sa s hg H => zcut H fun H => hk25 (ar la 1) (ai la 2) (ai la 3) (ai la 4) (ai la 7) (zld la 8) (zld la 9) (zld la 10) (zld la 11) (zld la 12) H, trivial⟩ hg H
theorem t8_findPrice (p : PM) (hg : Gr 0 p) : ∀ (v1 : Nat), g8_findPrice p v1 → ZJ 0 133 0 [zR 8 1, zR 1 v1, zJ, zJ, zJ, zJ, zJ, zJ, zJ, zJ, zJ, zJ, zJ] [] p (hoI p (v8_findPrice p v1)) := r8_findPrice p hg v8_volumeAt g8_volumeAt ok135 v8_sumAt g8_sumAt ok136 v14_abs_0f7a4 g14_abs_0f7a4 ok205 v8_isNearer g8_isNearer ok134 (v8_findPrice_25 p FU) (g8_findPrice_25 p FU) (t8_findPrice_25 p hg FU)
def CC133 (F : PM → Nat → Int32) (G : PM → Nat → Prop) : Cal := (133, [11, 4], 1, true, fun as p => (zI (F p (ar as 1)), p), fun as p => zsw (tc2 as [(108, 1), (5, 0)]) False (G p (ar as 1)))
set_option maxRecDepth 100000 in
theorem okr133 (F : PM → Nat → Int32) (G : PM → Nat → Prop) (h : ∀ (p : PM) (v1 : Nat), Gr 0 p → G p v1 → ZJ 0 133 0 [zR 8 1, zR 1 v1, zJ, zJ, zJ, zJ, zJ, zJ, zJ, zJ, zJ, zJ, zJ] [] p (hoI p (F p v1))) : CalOK 0 (CC133 F G) := cal_ok (m := 13) (by unfold mL; rw [mX_133]) (fun as p hg H => h p (ar as 1) hg H)
theorem ok133 : CalOK 0 (CC133 v8_findPrice g8_findPrice) := okr133 v8_findPrice g8_findPrice (fun p v1 hg H => t8_findPrice p hg v1 H)
noncomputable def bv8_comesBefore (p : PM) (F144 : PM → Nat → Int32 → Int32 → Int32) (v1 : Nat) (v2 : Nat) : Int32 :=
  if (p.1 10 v1 6) = (p.1 10 v2 6) then (
    if (p.1 10 v1 12) < (p.1 10 v2 12) then (
      (cn 1))
    else (
      (cn 0)))
  else (
    if (p.1 10 v1 6) = (cn (-100000)) then (
      if (p.1 10 v1 6) = (cn (-100000)) then (
        (cn 1))
      else (
        (cn 0)))
    else (
      if (p.1 10 v2 6) = (cn (-100000)) then (
        if (p.1 10 v1 6) = (cn (-100000)) then (
          (cn 1))
        else (
          (cn 0)))
      else (
        (F144 p v1 (p.1 10 v1 6) (p.1 10 v2 6)))))
noncomputable def v8_comesBefore (p : PM) (v1 : Nat) (v2 : Nat) : Int32 := bv8_comesBefore p v10_isBetter v1 v2
noncomputable def bg8_comesBefore (p : PM) (F144 : PM → Nat → Int32 → Int32 → Int32) (G144 : PM → Nat → Int32 → Int32 → Prop) (v1 : Nat) (v2 : Nat) : Prop :=
  (¬ v1 = 0) ∧ (
  (¬ v2 = 0) ∧ (
  if (p.1 10 v1 6) = (p.1 10 v2 6) then (
    (¬ v1 = 0) ∧ (
    (¬ v2 = 0) ∧ (
    if (p.1 10 v1 12) < (p.1 10 v2 12) then (
      True)
    else (
      True))))
  else (
    (¬ v1 = 0) ∧ (
    if (p.1 10 v1 6) = (cn (-100000)) then (
      (¬ v1 = 0) ∧ (
      if (p.1 10 v1 6) = (cn (-100000)) then (
        True)
      else (
        True)))
    else (
      (¬ v2 = 0) ∧ (
      if (p.1 10 v2 6) = (cn (-100000)) then (
        (¬ v1 = 0) ∧ (
        if (p.1 10 v1 6) = (cn (-100000)) then (
          True)
        else (
          True)))
      else (
        (¬ v1 = 0) ∧ (
        (¬ v2 = 0) ∧ (
        (¬ v1 = 0) ∧ (
        (G144 p v1 (p.1 10 v1 6) (p.1 10 v2 6)) ∧ (
        (b01 (F144 p v1 (p.1 10 v1 6) (p.1 10 v2 6))) ∧ (
        True))))))))))))
noncomputable def g8_comesBefore (p : PM) (v1 : Nat) (v2 : Nat) : Prop := bg8_comesBefore p v10_isBetter g10_isBetter v1 v2
def R132 : List Row := [(0, .aload_n 1, 1, 0, (0, 0, 0, 0, 0, 0)), (1, .getfield 110, 3, 0, (10, 6, 0, 0, 0, 0)), (4, .aload_n 2, 1, 0, (0, 0, 0, 0, 0, 0)), (5, .getfield 110, 3, 0, (10, 6, 0, 0, 0, 0)), (8, .if_icmp .ne 20, 3, 0, (0, 0, 0, 0, 0, 0)), (11, .aload_n 1, 1, 0, (0, 0, 0, 0, 0, 0)), (12, .getfield 125, 3, 0, (10, 12, 0, 0, 0, 0)), (15, .aload_n 2, 1, 0, (0, 0, 0, 0, 0, 0)), (16, .getfield 125, 3, 0, (10, 12, 0, 0, 0, 0)), (19, .if_icmp .ge 7, 3, 0, (0, 0, 0, 0, 0, 0)), (22, .iconst 1, 1, 0, (0, 0, 0, 0, 0, 1)), (23, .goto 4, 3, 0, (0, 0, 0, 0, 0, 0)), (26, .iconst 0, 1, 0, (0, 0, 0, 0, 0, 0)), (27, .ireturn, 1, 0, (1, 0, 0, 0, 0, 0)), (28, .aload_n 1, 1, 0, (0, 0, 0, 0, 0, 0)), (29, .getfield 110, 3, 0, (10, 6, 0, 0, 0, 0)), (32, .ldc 79, 2, 0, (0, 0, 0, 0, 0, -100000)), (34, .if_icmp .eq 12, 3, 0, (0, 0, 0, 0, 0, 0)), (37, .aload_n 2, 1, 0, (0, 0, 0, 0, 0, 0)), (38, .getfield 110, 3, 0, (10, 6, 0, 0, 0, 0)), (41, .ldc 79, 2, 0, (0, 0, 0, 0, 0, -100000)), (43, .if_icmp .ne 18, 3, 0, (0, 0, 0, 0, 0, 0)), (46, .aload_n 1, 1, 0, (0, 0, 0, 0, 0, 0)), (47, .getfield 110, 3, 0, (10, 6, 0, 0, 0, 0)), (50, .ldc 79, 2, 0, (0, 0, 0, 0, 0, -100000)), (52, .if_icmp .ne 7, 3, 0, (0, 0, 0, 0, 0, 0)), (55, .iconst 1, 1, 0, (0, 0, 0, 0, 0, 1)), (56, .goto 4, 3, 0, (0, 0, 0, 0, 0, 0)), (59, .iconst 0, 1, 0, (0, 0, 0, 0, 0, 0)), (60, .ireturn, 1, 0, (1, 0, 0, 0, 0, 0)), (61, .aload_n 1, 1, 0, (0, 0, 0, 0, 0, 0)), (62, .aload_n 1, 1, 0, (0, 0, 0, 0, 0, 0)), (63, .getfield 110, 3, 0, (10, 6, 0, 0, 0, 0)), (66, .aload_n 2, 1, 0, (0, 0, 0, 0, 0, 0)), (67, .getfield 110, 3, 0, (10, 6, 0, 0, 0, 0)), (70, .invokevirtual 191, 3, 0, (0, 3, 0, 0, 2, 0)), (73, .ireturn, 1, 0, (1, 0, 0, 0, 0, 0))]
set_option maxRecDepth 100000 in
theorem rk132 : R132.all (rok 0 132 1 [(144, [13, 0, 0])]) = true := by decide +kernel
set_option maxRecDepth 100000 in
theorem tab132 {F144 : PM → Nat → Int32 → Int32 → Int32} {G144 : PM → Nat → Int32 → Int32 → Prop} : TabOK 0 132 1 [CC144 F144 G144] R132 := tab_ok (K := K132) rfl rfl (fun h => d132 h) rk132 (by decide +kernel)
set_option maxRecDepth 100000 in
theorem pc132 : cutpc [] R132 = true := by decide +kernel
set_option maxRecDepth 100000 in
theorem r8_comesBefore (p : PM) (hg : Gr 0 p) (F144 : PM → Nat → Int32 → Int32 → Int32) (G144 : PM → Nat → Int32 → Int32 → Prop) (o144 : CalOK 0 (CC144 F144 G144)) : ∀ (v1 : Nat) (v2 : Nat), bg8_comesBefore p F144 G144 v1 v2 → ZJ 0 132 0 [zR 8 1, zR 10 v1, zR 10 v2] [] p (hoI p (bv8_comesBefore p F144 v1 v2)) := by
  intro v1 v2  H
  exact roI (n := 3000) (q := 0) (la := [zR 8 1, zR 10 v1, zR 10 v2]) (sa := []) (ks := []) (gs := []) (fcons o144 (fnil)) tab132 pc132 trivial hg H
theorem t8_comesBefore (p : PM) (hg : Gr 0 p) : ∀ (v1 : Nat) (v2 : Nat), g8_comesBefore p v1 v2 → ZJ 0 132 0 [zR 8 1, zR 10 v1, zR 10 v2] [] p (hoI p (v8_comesBefore p v1 v2)) := r8_comesBefore p hg v10_isBetter g10_isBetter ok144
def CC132 (F : PM → Nat → Nat → Int32) (G : PM → Nat → Nat → Prop) : Cal := (132, [11, 13, 13], 1, true, fun as p => (zI (F p (ar as 1) (ar as 2)), p), fun as p => zsw (tc2 as [(108, 1), (14, 0), (14, 0)]) False (G p (ar as 1) (ar as 2)))
set_option maxRecDepth 100000 in
theorem okr132 (F : PM → Nat → Nat → Int32) (G : PM → Nat → Nat → Prop) (h : ∀ (p : PM) (v1 : Nat) (v2 : Nat), Gr 0 p → G p v1 v2 → ZJ 0 132 0 [zR 8 1, zR 10 v1, zR 10 v2] [] p (hoI p (F p v1 v2))) : CalOK 0 (CC132 F G) := cal_ok (m := 3) (by unfold mL; rw [mX_132]) (fun as p hg H => h p (ar as 1) (ar as 2) hg H)
theorem ok132 : CalOK 0 (CC132 v8_comesBefore g8_comesBefore) := okr132 v8_comesBefore g8_comesBefore (fun p v1 v2 hg H => t8_comesBefore p hg v1 v2 H)
noncomputable def bv8_firstAt_20 (p : PM) (F132 : PM → Nat → Nat → Int32) (F142 : PM → Nat → Nat → Int32 → Int32) (F143 : PM → Nat → Int32 → Int32) (kv20 : Nat → Int32 → Int32 → Nat → Int32 → Nat) (v1 : Nat) (v2 : Int32) (v3 : Int32) (v4 : Nat) (v7 : Int32) : Nat :=
  if v7 < (cn 40) then (
    if (F142 p ((v7).toNatClampNeg + 1) v1 v2) = 0 then (
      kv20 v1 v2 v3 v4 (v7 + (cn 1)))
    else (
      if (F143 p ((v7).toNatClampNeg + 1) v3) = 0 then (
        kv20 v1 v2 v3 v4 (v7 + (cn 1)))
      else (
        if v4 = 0 then (
          kv20 v1 v2 v3 ((v7).toNatClampNeg + 1) (v7 + (cn 1)))
        else (
          if (F132 p ((v7).toNatClampNeg + 1) v4) = 0 then (
            kv20 v1 v2 v3 v4 (v7 + (cn 1)))
          else (
            kv20 v1 v2 v3 ((v7).toNatClampNeg + 1) (v7 + (cn 1)))))))
  else (
    v4)
noncomputable def v8_firstAt_20 (p : PM) (n : Nat) : Nat → Int32 → Int32 → Nat → Int32 → Nat := Nat.rec (motive := fun _ => Nat → Int32 → Int32 → Nat → Int32 → Nat) (fun _ _ _ _ _ => 0) (fun _ ih => bv8_firstAt_20 p v8_comesBefore v10_standsIn v10_allows ih) n
theorem ev8_firstAt_20 (p : PM) (n : Nat) (v1 : Nat) (v2 : Int32) (v3 : Int32) (v4 : Nat) (v7 : Int32) : v8_firstAt_20 p (n + 1) v1 v2 v3 v4 v7 = bv8_firstAt_20 p v8_comesBefore v10_standsIn v10_allows (v8_firstAt_20 p n) v1 v2 v3 v4 v7 := rfl
noncomputable def bg8_firstAt_20 (p : PM) (F132 : PM → Nat → Nat → Int32) (G132 : PM → Nat → Nat → Prop) (F142 : PM → Nat → Nat → Int32 → Int32) (G142 : PM → Nat → Nat → Int32 → Prop) (F143 : PM → Nat → Int32 → Int32) (G143 : PM → Nat → Int32 → Prop) (kg20 : Nat → Int32 → Int32 → Nat → Int32 → Prop) (v1 : Nat) (v2 : Int32) (v3 : Int32) (v4 : Nat) (v7 : Int32) : Prop :=
  if v7 < (cn 40) then (
    (inb v7 40) ∧ (
    (G142 p ((v7).toNatClampNeg + 1) v1 v2) ∧ (
    if (F142 p ((v7).toNatClampNeg + 1) v1 v2) = 0 then (
      kg20 v1 v2 v3 v4 (v7 + (cn 1)))
    else (
      (G143 p ((v7).toNatClampNeg + 1) v3) ∧ (
      if (F143 p ((v7).toNatClampNeg + 1) v3) = 0 then (
        kg20 v1 v2 v3 v4 (v7 + (cn 1)))
      else (
        if v4 = 0 then (
          kg20 v1 v2 v3 ((v7).toNatClampNeg + 1) (v7 + (cn 1)))
        else (
          (G132 p ((v7).toNatClampNeg + 1) v4) ∧ (
          if (F132 p ((v7).toNatClampNeg + 1) v4) = 0 then (
            kg20 v1 v2 v3 v4 (v7 + (cn 1)))
          else (
            kg20 v1 v2 v3 ((v7).toNatClampNeg + 1) (v7 + (cn 1)))))))))))
  else (
    True)
noncomputable def g8_firstAt_20 (p : PM) (n : Nat) : Nat → Int32 → Int32 → Nat → Int32 → Prop := Nat.rec (motive := fun _ => Nat → Int32 → Int32 → Nat → Int32 → Prop) (fun _ _ _ _ _ => False) (fun _ ih => bg8_firstAt_20 p v8_comesBefore g8_comesBefore v10_standsIn g10_standsIn v10_allows g10_allows ih) n
theorem eg8_firstAt_20 (p : PM) (n : Nat) (v1 : Nat) (v2 : Int32) (v3 : Int32) (v4 : Nat) (v7 : Int32) : g8_firstAt_20 p (n + 1) v1 v2 v3 v4 v7 = bg8_firstAt_20 p v8_comesBefore g8_comesBefore v10_standsIn g10_standsIn v10_allows g10_allows (g8_firstAt_20 p n) v1 v2 v3 v4 v7 := rfl
noncomputable def bv8_firstAt (p : PM) (kv20 : Nat → Int32 → Int32 → Nat → Int32 → Nat) (v1 : Nat) (v2 : Int32) (v3 : Int32) : Nat :=
  kv20 v1 v2 v3 0 (cn 0)
noncomputable def v8_firstAt (p : PM) (v1 : Nat) (v2 : Int32) (v3 : Int32) : Nat := bv8_firstAt p (v8_firstAt_20 p FU) v1 v2 v3
noncomputable def bg8_firstAt (p : PM) (kg20 : Nat → Int32 → Int32 → Nat → Int32 → Prop) (v1 : Nat) (v2 : Int32) (v3 : Int32) : Prop :=
  kg20 v1 v2 v3 0 (cn 0)
noncomputable def g8_firstAt (p : PM) (v1 : Nat) (v2 : Int32) (v3 : Int32) : Prop := bg8_firstAt p (g8_firstAt_20 p FU) v1 v2 v3
def R131 : List Row := [(0, .aconst_null, 1, 0, (10, 0, 0, 0, 0, 0)), (1, .astore 4, 2, 0, (0, 0, 0, 0, 0, 0)), (3, .aload_n 0, 1, 0, (0, 0, 0, 0, 0, 0)), (4, .getfield 21, 3, 0, (8, 0, 9, 2, 1, 0)), (7, .getfield 29, 3, 0, (6, 1, 23, 2, 1, 0)), (10, .astore 5, 2, 0, (0, 0, 0, 0, 0, 0)), (12, .aload 5, 2, 0, (0, 0, 0, 0, 0, 0)), (14, .arraylength, 1, 0, (20, 40, 0, 0, 0, 40)), (15, .istore 6, 2, 0, (0, 0, 0, 0, 0, 0)), (17, .iconst 0, 1, 0, (0, 0, 0, 0, 0, 0)), (18, .istore 7, 2, 0, (0, 0, 0, 0, 0, 0)), (20, .iload 7, 2, 1, (0, 0, 0, 0, 0, 0)), (22, .iload 6, 2, 0, (0, 0, 0, 0, 0, 0)), (24, .if_icmp .ge 55, 3, 0, (0, 0, 0, 0, 0, 0)), (27, .aload 5, 2, 0, (0, 0, 0, 0, 0, 0)), (29, .iload 7, 2, 0, (0, 0, 0, 0, 0, 0)), (31, .aaload, 1, 0, (20, 40, 0, 1, 1, 0)), (32, .astore 8, 2, 0, (0, 0, 0, 0, 0, 0)), (34, .aload 8, 2, 0, (0, 0, 0, 0, 0, 0)), (36, .aload_n 1, 1, 0, (0, 0, 0, 0, 0, 0)), (37, .iload_n 2, 1, 0, (0, 0, 0, 0, 0, 0)), (38, .invokevirtual 42, 3, 0, (0, 3, 0, 0, 1, 0)), (41, .ifCond .eq 32, 3, 0, (0, 0, 0, 0, 0, 0)), (44, .aload 8, 2, 0, (0, 0, 0, 0, 0, 0)), (46, .iload_n 3, 1, 0, (0, 0, 0, 0, 0, 0)), (47, .invokevirtual 59, 3, 0, (1, 2, 0, 0, 1, 0)), (50, .ifCond .eq 23, 3, 0, (0, 0, 0, 0, 0, 0)), (53, .aload 4, 2, 0, (0, 0, 0, 0, 0, 0)), (55, .ifnull 14, 3, 0, (0, 0, 0, 0, 0, 0)), (58, .aload_n 0, 1, 0, (0, 0, 0, 0, 0, 0)), (59, .aload 8, 2, 0, (0, 0, 0, 0, 0, 0)), (61, .aload 4, 2, 0, (0, 0, 0, 0, 0, 0)), (63, .invokevirtual 187, 3, 0, (2, 3, 0, 0, 1, 0)), (66, .ifCond .eq 7, 3, 0, (0, 0, 0, 0, 0, 0)), (69, .aload 8, 2, 0, (0, 0, 0, 0, 0, 0)), (71, .astore 4, 2, 0, (0, 0, 0, 0, 0, 0)), (73, .iinc 7 1, 3, 0, (0, 0, 0, 0, 0, 1)), (76, .goto (-56), 3, 0, (0, 0, 0, 0, 0, 0)), (79, .aload 4, 2, 0, (0, 0, 0, 0, 0, 0)), (81, .areturn, 1, 0, (10, 0, 0, 0, 0, 0))]
set_option maxRecDepth 100000 in
theorem rk131 : R131.all (rok 0 131 (3 + 10) [(142, [13, 4, 0]), (143, [13, 0]), (132, [11, 13, 13])]) = true := by decide +kernel
set_option maxRecDepth 100000 in
theorem tab131 {F142 : PM → Nat → Nat → Int32 → Int32} {G142 : PM → Nat → Nat → Int32 → Prop} {F143 : PM → Nat → Int32 → Int32} {G143 : PM → Nat → Int32 → Prop} {F132 : PM → Nat → Nat → Int32} {G132 : PM → Nat → Nat → Prop} : TabOK 0 131 (3 + 10) [CC142 F142 G142, CC143 F143 G143, CC132 F132 G132] R131 := tab_ok (K := K131) rfl rfl (fun h => d131 h) rk131 (by decide +kernel)
set_option maxRecDepth 100000 in
theorem pc131 : cutpc [20] R131 = true := by decide +kernel
set_option maxRecDepth 100000 in
theorem r8_firstAt_20 (p : PM) (hg : Gr 0 p) (F142 : PM → Nat → Nat → Int32 → Int32) (G142 : PM → Nat → Nat → Int32 → Prop) (o142 : CalOK 0 (CC142 F142 G142)) (F143 : PM → Nat → Int32 → Int32) (G143 : PM → Nat → Int32 → Prop) (o143 : CalOK 0 (CC143 F143 G143)) (F132 : PM → Nat → Nat → Int32) (G132 : PM → Nat → Nat → Prop) (o132 : CalOK 0 (CC132 F132 G132)) (kv20 : Nat → Int32 → Int32 → Nat → Int32 → Nat) (kg20 : Nat → Int32 → Int32 → Nat → Int32 → Prop) (hk20 : ∀ (v1 : Nat) (v2 : Int32) (v3 : Int32) (v4 : Nat) (v7 : Int32) (d8 : ZV), kg20 v1 v2 v3 v4 v7 → ZJ 0 131 20 [zR 8 1, zR 1 v1, zI v2, zI v3, zR 10 v4, zR 20 1, zC 40, zI v7, d8] [] p (hoR 10 p (kv20 v1 v2 v3 v4 v7))) : ∀ (v1 : Nat) (v2 : Int32) (v3 : Int32) (v4 : Nat) (v7 : Int32) (d8 : ZV), bg8_firstAt_20 p F132 G132 F142 G142 F143 G143 kg20 v1 v2 v3 v4 v7 → ZJ 0 131 20 [zR 8 1, zR 1 v1, zI v2, zI v3, zR 10 v4, zR 20 1, zC 40, zI v7, d8] [] p (hoR 10 p (bv8_firstAt_20 p F132 F142 F143 kv20 v1 v2 v3 v4 v7)) := by
  intro v1 v2 v3 v4 v7 d8 H
  exact roR 10 (n := 3000) (q := 20) (la := [zR 8 1, zR 1 v1, zI v2, zI v3, zR 10 v4, zR 20 1, zC 40, zI v7, d8]) (sa := []) (ks := [fun la sa _ => kv20 (ar la 1) (ai la 2) (ai la 3) (ar la 4) (ai la 7)]) (gs := [fun la sa _ => zsw (tc2 la [(108, 1), (5, 0), (0, 0), (0, 0), (14, 0), (120, 1), (3, 40), (0, 0), (2, 0)] && tc2 sa []) False (kg20 (ar la 1) (ai la 2) (ai la 3) (ar la 4) (ai la 7))]) (fcons o142 (fcons o143 (fcons o132 (fnil)))) tab131 pc131 ⟨fun la sa s hg H => zcut H fun H => hk20 (ar la 1) (ai la 2) (ai la 3) (ar la 4) (ai la 7) (zld la 8) H, trivial⟩ hg H
theorem t8_firstAt_20 (p : PM) (hg : Gr 0 p) : ∀ (n : Nat), ∀ (v1 : Nat) (v2 : Int32) (v3 : Int32) (v4 : Nat) (v7 : Int32) (d8 : ZV), g8_firstAt_20 p n v1 v2 v3 v4 v7 → ZJ 0 131 20 [zR 8 1, zR 1 v1, zI v2, zI v3, zR 10 v4, zR 20 1, zC 40, zI v7, d8] [] p (hoR 10 p (v8_firstAt_20 p n v1 v2 v3 v4 v7)) := by
  intro n
  induction n with
  | zero =>
    intro v1 v2 v3 v4 v7 d8 H
    exact H.elim
  | succ n ih => exact r8_firstAt_20 p hg v10_standsIn g10_standsIn ok142 v10_allows g10_allows ok143 v8_comesBefore g8_comesBefore ok132 (v8_firstAt_20 p n) (g8_firstAt_20 p n) ih
set_option maxRecDepth 100000 in
theorem r8_firstAt (p : PM) (hg : Gr 0 p) (F142 : PM → Nat → Nat → Int32 → Int32) (G142 : PM → Nat → Nat → Int32 → Prop) (o142 : CalOK 0 (CC142 F142 G142)) (F143 : PM → Nat → Int32 → Int32) (G143 : PM → Nat → Int32 → Prop) (o143 : CalOK 0 (CC143 F143 G143)) (F132 : PM → Nat → Nat → Int32) (G132 : PM → Nat → Nat → Prop) (o132 : CalOK 0 (CC132 F132 G132)) (kv20 : Nat → Int32 → Int32 → Nat → Int32 → Nat) (kg20 : Nat → Int32 → Int32 → Nat → Int32 → Prop) (hk20 : ∀ (v1 : Nat) (v2 : Int32) (v3 : Int32) (v4 : Nat) (v7 : Int32) (d8 : ZV), kg20 v1 v2 v3 v4 v7 → ZJ 0 131 20 [zR 8 1, zR 1 v1, zI v2, zI v3, zR 10 v4, zR 20 1, zC 40, zI v7, d8] [] p (hoR 10 p (kv20 v1 v2 v3 v4 v7))) : ∀ (v1 : Nat) (v2 : Int32) (v3 : Int32), bg8_firstAt p kg20 v1 v2 v3 → ZJ 0 131 0 [zR 8 1, zR 1 v1, zI v2, zI v3, zJ, zJ, zJ, zJ, zJ] [] p (hoR 10 p (bv8_firstAt p kv20 v1 v2 v3)) := by
  intro v1 v2 v3  H
  exact roR 10 (n := 3000) (q := 0) (la := [zR 8 1, zR 1 v1, zI v2, zI v3, zJ, zJ, zJ, zJ, zJ]) (sa := []) (ks := [fun la sa _ => kv20 (ar la 1) (ai la 2) (ai la 3) (ar la 4) (ai la 7)]) (gs := [fun la sa _ => zsw (tc2 la [(108, 1), (5, 0), (0, 0), (0, 0), (14, 0), (120, 1), (3, 40), (0, 0), (2, 0)] && tc2 sa []) False (kg20 (ar la 1) (ai la 2) (ai la 3) (ar la 4) (ai la 7))]) (fcons o142 (fcons o143 (fcons o132 (fnil)))) tab131 pc131 ⟨fun la sa s hg H => zcut H fun H => hk20 (ar la 1) (ai la 2) (ai la 3) (ar la 4) (ai la 7) (zld la 8) H, trivial⟩ hg H
theorem t8_firstAt (p : PM) (hg : Gr 0 p) : ∀ (v1 : Nat) (v2 : Int32) (v3 : Int32), g8_firstAt p v1 v2 v3 → ZJ 0 131 0 [zR 8 1, zR 1 v1, zI v2, zI v3, zJ, zJ, zJ, zJ, zJ] [] p (hoR 10 p (v8_firstAt p v1 v2 v3)) := r8_firstAt p hg v10_standsIn g10_standsIn ok142 v10_allows g10_allows ok143 v8_comesBefore g8_comesBefore ok132 (v8_firstAt_20 p FU) (g8_firstAt_20 p FU) (t8_firstAt_20 p hg FU)
def CC131 (F : PM → Nat → Int32 → Int32 → Nat) (G : PM → Nat → Int32 → Int32 → Prop) : Cal := (131, [11, 4, 0, 0], (3 + 10), true, fun as p => (zR 10 (F p (ar as 1) (ai as 2) (ai as 3)), p), fun as p => zsw (tc2 as [(108, 1), (5, 0), (0, 0), (0, 0)]) False (G p (ar as 1) (ai as 2) (ai as 3)))
set_option maxRecDepth 100000 in
theorem okr131 (F : PM → Nat → Int32 → Int32 → Nat) (G : PM → Nat → Int32 → Int32 → Prop) (h : ∀ (p : PM) (v1 : Nat) (v2 : Int32) (v3 : Int32), Gr 0 p → G p v1 v2 v3 → ZJ 0 131 0 [zR 8 1, zR 1 v1, zI v2, zI v3, zJ, zJ, zJ, zJ, zJ] [] p (hoR 10 p (F p v1 v2 v3))) : CalOK 0 (CC131 F G) := cal_ok (m := 9) (by unfold mL; rw [mX_131]) (fun as p hg H => h p (ar as 1) (ai as 2) (ai as 3) hg H)
theorem ok131 : CalOK 0 (CC131 v8_firstAt g8_firstAt) := okr131 v8_firstAt g8_firstAt (fun p v1 v2 v3 hg H => t8_firstAt p hg v1 v2 v3 H)
