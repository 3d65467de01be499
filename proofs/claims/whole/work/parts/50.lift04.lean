/-! methods as functions over one part, by program (wip/whole/lift.py) -/
noncomputable def bv6_countQuotes_10 (F92 : PM → Nat → Int32) (kv10 : PM → Int32 → PM) (p : PM) (v3 : Int32) : PM :=
  if v3 < (cn 40) then (
    if (p.1 10 ((v3).toNatClampNeg + 1) 1) = (cn 3) then (
      if (p.1 10 ((v3).toNatClampNeg + 1) 2) = (cn 1) then (
        if (p.1 10 ((v3).toNatClampNeg + 1) 5) = 0 then (
          kv10 p (v3 + (cn 1)))
        else (
          if (p.1 1 (p.2.2 10 ((v3).toNatClampNeg + 1) 4) 5) = 0 then (
            if (F92 p ((v3).toNatClampNeg + 1)) = 0 then (
              kv10 p (v3 + (cn 1)))
            else (
              let p1 : PM := pI p 0 (p.2.2 10 ((v3).toNatClampNeg + 1) 3) 8 ((p.1 0 (p.2.2 10 ((v3).toNatClampNeg + 1) 3) 8) + (cn 1))
              kv10 p1 (v3 + (cn 1))))
          else (
            kv10 p (v3 + (cn 1)))))
      else (
        kv10 p (v3 + (cn 1))))
    else (
      kv10 p (v3 + (cn 1))))
  else (
    p)
noncomputable def v6_countQuotes_10 (n : Nat) : PM → Int32 → PM := Nat.rec (motive := fun _ => PM → Int32 → PM) (fun p _ => p) (fun _ ih => bv6_countQuotes_10 v6_hasOtherSide ih) n
theorem ev6_countQuotes_10 (n : Nat) (p : PM) (v3 : Int32) : v6_countQuotes_10 (n + 1) p v3 = bv6_countQuotes_10 v6_hasOtherSide (v6_countQuotes_10 n) p v3 := rfl
noncomputable def bg6_countQuotes_10 (F92 : PM → Nat → Int32) (G92 : PM → Nat → Prop) (kg10 : PM → Int32 → Prop) (p : PM) (v3 : Int32) : Prop :=
  if v3 < (cn 40) then (
    (inb v3 40) ∧ (
    if (p.1 10 ((v3).toNatClampNeg + 1) 1) = (cn 3) then (
      if (p.1 10 ((v3).toNatClampNeg + 1) 2) = (cn 1) then (
        if (p.1 10 ((v3).toNatClampNeg + 1) 5) = 0 then (
          kg10 p (v3 + (cn 1)))
        else (
          (¬ (p.2.2 10 ((v3).toNatClampNeg + 1) 4) = 0) ∧ (
          if (p.1 1 (p.2.2 10 ((v3).toNatClampNeg + 1) 4) 5) = 0 then (
            (G92 p ((v3).toNatClampNeg + 1)) ∧ (
            if (F92 p ((v3).toNatClampNeg + 1)) = 0 then (
              kg10 p (v3 + (cn 1)))
            else (
              (¬ (p.2.2 10 ((v3).toNatClampNeg + 1) 3) = 0) ∧ (
              (¬ (p.2.2 10 ((v3).toNatClampNeg + 1) 3) = 0) ∧ (
              let p1 : PM := pI p 0 (p.2.2 10 ((v3).toNatClampNeg + 1) 3) 8 ((p.1 0 (p.2.2 10 ((v3).toNatClampNeg + 1) 3) 8) + (cn 1))
              kg10 p1 (v3 + (cn 1)))))))
          else (
            kg10 p (v3 + (cn 1))))))
      else (
        kg10 p (v3 + (cn 1))))
    else (
      kg10 p (v3 + (cn 1)))))
  else (
    True)
noncomputable def g6_countQuotes_10 (n : Nat) : PM → Int32 → Prop := Nat.rec (motive := fun _ => PM → Int32 → Prop) (fun _ _ => False) (fun _ ih => bg6_countQuotes_10 v6_hasOtherSide g6_hasOtherSide ih) n
theorem eg6_countQuotes_10 (n : Nat) (p : PM) (v3 : Int32) : g6_countQuotes_10 (n + 1) p v3 = bg6_countQuotes_10 v6_hasOtherSide g6_hasOtherSide (g6_countQuotes_10 n) p v3 := rfl
noncomputable def bv6_countQuotes (kv10 : PM → Int32 → PM) (p : PM) : PM :=
  kv10 p (cn 0)
noncomputable def v6_countQuotes (p : PM) : PM := bv6_countQuotes (v6_countQuotes_10 FU) p
noncomputable def bg6_countQuotes (kg10 : PM → Int32 → Prop) (p : PM) : Prop :=
  kg10 p (cn 0)
noncomputable def g6_countQuotes (p : PM) : Prop := bg6_countQuotes (g6_countQuotes_10 FU) p
def R91 : List Row := [(0, .aload_n 0, 1, 0, (0, 0, 0, 0, 0, 0)), (1, .getfield 11, 3, 0, (6, 1, 23, 2, 1, 0)), (4, .astore_n 1, 1, 0, (0, 0, 0, 0, 0, 0)), (5, .aload_n 1, 1, 0, (0, 0, 0, 0, 0, 0)), (6, .arraylength, 1, 0, (20, 40, 0, 0, 0, 40)), (7, .istore_n 2, 1, 0, (0, 0, 0, 0, 0, 0)), (8, .iconst 0, 1, 0, (0, 0, 0, 0, 0, 0)), (9, .istore_n 3, 1, 0, (0, 0, 0, 0, 0, 0)), (10, .iload_n 3, 1, 1, (0, 0, 0, 0, 0, 0)), (11, .iload_n 2, 1, 0, (0, 0, 0, 0, 0, 0)), (12, .if_icmp .ge 74, 3, 0, (0, 0, 0, 0, 0, 0)), (15, .aload_n 1, 1, 0, (0, 0, 0, 0, 0, 0)), (16, .iload_n 3, 1, 0, (0, 0, 0, 0, 0, 0)), (17, .aaload, 1, 0, (20, 40, 0, 1, 1, 0)), (18, .astore 4, 2, 0, (0, 0, 0, 0, 0, 0)), (20, .aload 4, 2, 0, (0, 0, 0, 0, 0, 0)), (22, .getfield 76, 3, 0, (10, 1, 0, 1, 0, 0)), (25, .iconst 3, 1, 0, (0, 0, 0, 0, 0, 3)), (26, .if_icmp .ne 54, 3, 0, (0, 0, 0, 0, 0, 0)), (29, .aload 4, 2, 0, (0, 0, 0, 0, 0, 0)), (31, .getfield 29, 3, 0, (10, 2, 0, 1, 0, 0)), (34, .iconst 1, 1, 0, (0, 0, 0, 0, 0, 1)), (35, .if_icmp .ne 45, 3, 0, (0, 0, 0, 0, 0, 0)), (38, .aload 4, 2, 0, (0, 0, 0, 0, 0, 0)), (40, .getfield 151, 3, 0, (10, 5, 1, 1, 0, 0)), (43, .ifCond .eq 37, 3, 0, (0, 0, 0, 0, 0, 0)), (46, .aload 4, 2, 0, (0, 0, 0, 0, 0, 0)), (48, .getfield 130, 3, 0, (10, 4, 4, 1, 0, 0)), (51, .getfield 154, 3, 0, (1, 5, 1, 0, 0, 0)), (54, .ifCond .ne 26, 3, 0, (0, 0, 0, 0, 0, 0)), (57, .aload_n 0, 1, 0, (0, 0, 0, 0, 0, 0)), (58, .aload 4, 2, 0, (0, 0, 0, 0, 0, 0)), (60, .invokevirtual 157, 3, 0, (0, 2, 0, 0, 1, 0)), (63, .ifCond .eq 17, 3, 0, (0, 0, 0, 0, 0, 0)), (66, .aload 4, 2, 0, (0, 0, 0, 0, 0, 0)), (68, .getfield 115, 3, 0, (10, 3, 3, 1, 0, 0)), (71, .dup, 1, 0, (0, 0, 0, 0, 0, 0)), (72, .getfield 161, 3, 0, (0, 8, 0, 0, 0, 0)), (75, .iconst 1, 1, 0, (0, 0, 0, 0, 0, 1)), (76, .iadd, 1, 0, (0, 0, 0, 0, 0, 0)), (77, .putfield 161, 3, 0, (0, 8, 0, 0, 0, 0)), (80, .iinc 3 1, 3, 0, (0, 0, 0, 0, 0, 1)), (83, .goto (-73), 3, 0, (0, 0, 0, 0, 0, 0)), (86, .return_, 1, 0, (0, 0, 0, 0, 0, 0))]
set_option maxRecDepth 100000 in
theorem rk91 : R91.all (rok 0 91 0 [(92, [9, 13])]) = true := by decide +kernel
set_option maxRecDepth 100000 in
theorem tab91 {F92 : PM → Nat → Int32} {G92 : PM → Nat → Prop} : TabOK 0 91 0 [CC92 F92 G92] R91 := tab_ok (K := K91) rfl rfl (fun h => d91 h) rk91 (by decide +kernel)
set_option maxRecDepth 100000 in
theorem pc91 : cutpc [10] R91 = true := by decide +kernel
set_option maxRecDepth 100000 in
theorem r6_countQuotes_10 (F92 : PM → Nat → Int32) (G92 : PM → Nat → Prop) (o92 : CalOK 0 (CC92 F92 G92)) (kv10 : PM → Int32 → PM) (kg10 : PM → Int32 → Prop) (hk10 : ∀ (p : PM) (v3 : Int32) (d4 : ZV), Gr 0 p → kg10 p v3 → ZJ 0 91 10 [zR 6 1, zR 20 1, zC 40, zI v3, d4] [] p (hwV (kv10 p v3))) : ∀ (p : PM) (v3 : Int32) (d4 : ZV), Gr 0 p → bg6_countQuotes_10 F92 G92 kg10 p v3 → ZJ 0 91 10 [zR 6 1, zR 20 1, zC 40, zI v3, d4] [] p (hwV (bv6_countQuotes_10 F92 kv10 p v3)) := by
  intro p v3 d4 hg H
  exact rwV (n := 3000) (q := 10) (la := [zR 6 1, zR 20 1, zC 40, zI v3, d4]) (sa := []) (ks := [fun la sa s => kv10 s (ai la 3)]) (gs := [fun la sa s => zsw (tc2 la [(106, 1), (120, 1), (3, 40), (0, 0), (2, 0)] && tc2 sa []) False (kg10 s (ai la 3))]) (fcons o92 (fnil)) tab91 pc91 ⟨fun la sa s hg H => zcut H fun H => hk10 s (ai la 3) (zld la 4) hg H, trivial⟩ hg H
theorem t6_countQuotes_10 : ∀ (n : Nat), ∀ (p : PM) (v3 : Int32) (d4 : ZV), Gr 0 p → g6_countQuotes_10 n p v3 → ZJ 0 91 10 [zR 6 1, zR 20 1, zC 40, zI v3, d4] [] p (hwV (v6_countQuotes_10 n p v3)) := by
  intro n
  induction n with
  | zero =>
    intro p v3 d4 hg H
    exact H.elim
  | succ n ih => exact r6_countQuotes_10 v6_hasOtherSide g6_hasOtherSide ok92 (v6_countQuotes_10 n) (g6_countQuotes_10 n) ih
set_option maxRecDepth 100000 in
theorem r6_countQuotes (F92 : PM → Nat → Int32) (G92 : PM → Nat → Prop) (o92 : CalOK 0 (CC92 F92 G92)) (kv10 : PM → Int32 → PM) (kg10 : PM → Int32 → Prop) (hk10 : ∀ (p : PM) (v3 : Int32) (d4 : ZV), Gr 0 p → kg10 p v3 → ZJ 0 91 10 [zR 6 1, zR 20 1, zC 40, zI v3, d4] [] p (hwV (kv10 p v3))) : ∀ (p : PM), Gr 0 p → bg6_countQuotes kg10 p → ZJ 0 91 0 [zR 6 1, zJ, zJ, zJ, zJ] [] p (hwV (bv6_countQuotes kv10 p)) := by
  intro p   hg H
  exact rwV (n := 3000) (q := 0) (la := [zR 6 1, zJ, zJ, zJ, zJ]) (sa := []) (ks := [fun la sa s => kv10 s (ai la 3)]) (gs := [fun la sa s => zsw (tc2 la [(106, 1), (120, 1), (3, 40), (0, 0), (2, 0)] && tc2 sa []) False (kg10 s (ai la 3))]) (fcons o92 (fnil)) tab91 pc91 ⟨fun la sa s hg H => zcut H fun H => hk10 s (ai la 3) (zld la 4) hg H, trivial⟩ hg H
theorem t6_countQuotes : ∀ (p : PM), Gr 0 p → g6_countQuotes p → ZJ 0 91 0 [zR 6 1, zJ, zJ, zJ, zJ] [] p (hwV (v6_countQuotes p)) := r6_countQuotes v6_hasOtherSide g6_hasOtherSide ok92 (v6_countQuotes_10 FU) (g6_countQuotes_10 FU) (t6_countQuotes_10 FU)
def CC91 (F : PM → PM) (G : PM → Prop) : Cal := (91, [9], 0, false, fun as p => (zJ, (F p )), fun as p => zsw (tc2 as [(106, 1)]) False (G p ))
set_option maxRecDepth 100000 in
theorem okr91 (F : PM → PM) (G : PM → Prop) (h : ∀ (p : PM), Gr 0 p → G p  → ZJ 0 91 0 [zR 6 1, zJ, zJ, zJ, zJ] [] p (hwV (F p ))) : CalOK 0 (CC91 F G) := cal_ok (m := 5) (by unfold mL; rw [mX_91]) (fun as p hg H => h p  hg H)
theorem ok91 : CalOK 0 (CC91 v6_countQuotes g6_countQuotes) := okr91 v6_countQuotes g6_countQuotes t6_countQuotes
noncomputable def bv8_sumAt_20 (p : PM) (F144 : PM → Nat → Nat → Int32 → Int32) (F145 : PM → Nat → Int32 → Int32) (kv20 : Nat → Int32 → Int32 → Int32 → Int32 → Int32) (v1 : Nat) (v2 : Int32) (v3 : Int32) (v4 : Int32) (v7 : Int32) : Int32 :=
  if v7 < (cn 40) then (
    if (F144 p ((v7).toNatClampNeg + 1) v1 v2) = 0 then (
      kv20 v1 v2 v3 v4 (v7 + (cn 1)))
    else (
      if (F145 p ((v7).toNatClampNeg + 1) v3) = 0 then (
        kv20 v1 v2 v3 v4 (v7 + (cn 1)))
      else (
        let x1 : Int32 := (v4 + (p.1 10 ((v7).toNatClampNeg + 1) 9))
        kv20 v1 v2 v3 x1 (v7 + (cn 1)))))
  else (
    v4)
noncomputable def v8_sumAt_20 (p : PM) (n : Nat) : Nat → Int32 → Int32 → Int32 → Int32 → Int32 := Nat.rec (motive := fun _ => Nat → Int32 → Int32 → Int32 → Int32 → Int32) (fun _ _ _ _ _ => 0) (fun _ ih => bv8_sumAt_20 p v10_standsIn v10_allows ih) n
theorem ev8_sumAt_20 (p : PM) (n : Nat) (v1 : Nat) (v2 : Int32) (v3 : Int32) (v4 : Int32) (v7 : Int32) : v8_sumAt_20 p (n + 1) v1 v2 v3 v4 v7 = bv8_sumAt_20 p v10_standsIn v10_allows (v8_sumAt_20 p n) v1 v2 v3 v4 v7 := rfl
noncomputable def bg8_sumAt_20 (p : PM) (F144 : PM → Nat → Nat → Int32 → Int32) (G144 : PM → Nat → Nat → Int32 → Prop) (F145 : PM → Nat → Int32 → Int32) (G145 : PM → Nat → Int32 → Prop) (kg20 : Nat → Int32 → Int32 → Int32 → Int32 → Prop) (v1 : Nat) (v2 : Int32) (v3 : Int32) (v4 : Int32) (v7 : Int32) : Prop :=
  if v7 < (cn 40) then (
    (inb v7 40) ∧ (
    (G144 p ((v7).toNatClampNeg + 1) v1 v2) ∧ (
    if (F144 p ((v7).toNatClampNeg + 1) v1 v2) = 0 then (
      kg20 v1 v2 v3 v4 (v7 + (cn 1)))
    else (
      (G145 p ((v7).toNatClampNeg + 1) v3) ∧ (
      if (F145 p ((v7).toNatClampNeg + 1) v3) = 0 then (
        kg20 v1 v2 v3 v4 (v7 + (cn 1)))
      else (
        let x1 : Int32 := (v4 + (p.1 10 ((v7).toNatClampNeg + 1) 9))
        kg20 v1 v2 v3 x1 (v7 + (cn 1))))))))
  else (
    True)
noncomputable def g8_sumAt_20 (p : PM) (n : Nat) : Nat → Int32 → Int32 → Int32 → Int32 → Prop := Nat.rec (motive := fun _ => Nat → Int32 → Int32 → Int32 → Int32 → Prop) (fun _ _ _ _ _ => False) (fun _ ih => bg8_sumAt_20 p v10_standsIn g10_standsIn v10_allows g10_allows ih) n
theorem eg8_sumAt_20 (p : PM) (n : Nat) (v1 : Nat) (v2 : Int32) (v3 : Int32) (v4 : Int32) (v7 : Int32) : g8_sumAt_20 p (n + 1) v1 v2 v3 v4 v7 = bg8_sumAt_20 p v10_standsIn g10_standsIn v10_allows g10_allows (g8_sumAt_20 p n) v1 v2 v3 v4 v7 := rfl
noncomputable def bv8_sumAt (p : PM) (kv20 : Nat → Int32 → Int32 → Int32 → Int32 → Int32) (v1 : Nat) (v2 : Int32) (v3 : Int32) : Int32 :=
  kv20 v1 v2 v3 (cn 0) (cn 0)
noncomputable def v8_sumAt (p : PM) (v1 : Nat) (v2 : Int32) (v3 : Int32) : Int32 := bv8_sumAt p (v8_sumAt_20 p FU) v1 v2 v3
noncomputable def bg8_sumAt (p : PM) (kg20 : Nat → Int32 → Int32 → Int32 → Int32 → Prop) (v1 : Nat) (v2 : Int32) (v3 : Int32) : Prop :=
  kg20 v1 v2 v3 (cn 0) (cn 0)
noncomputable def g8_sumAt (p : PM) (v1 : Nat) (v2 : Int32) (v3 : Int32) : Prop := bg8_sumAt p (g8_sumAt_20 p FU) v1 v2 v3
def R138 : List Row := [(0, .iconst 0, 1, 0, (0, 0, 0, 0, 0, 0)), (1, .istore 4, 2, 0, (0, 0, 0, 0, 0, 0)), (3, .aload_n 0, 1, 0, (0, 0, 0, 0, 0, 0)), (4, .getfield 21, 3, 0, (8, 0, 9, 2, 1, 0)), (7, .getfield 29, 3, 0, (6, 1, 23, 2, 1, 0)), (10, .astore 5, 2, 0, (0, 0, 0, 0, 0, 0)), (12, .aload 5, 2, 0, (0, 0, 0, 0, 0, 0)), (14, .arraylength, 1, 0, (20, 40, 0, 0, 0, 40)), (15, .istore 6, 2, 0, (0, 0, 0, 0, 0, 0)), (17, .iconst 0, 1, 0, (0, 0, 0, 0, 0, 0)), (18, .istore 7, 2, 0, (0, 0, 0, 0, 0, 0)), (20, .iload 7, 2, 1, (0, 0, 0, 0, 0, 0)), (22, .iload 6, 2, 0, (0, 0, 0, 0, 0, 0)), (24, .if_icmp .ge 45, 3, 0, (0, 0, 0, 0, 0, 0)), (27, .aload 5, 2, 0, (0, 0, 0, 0, 0, 0)), (29, .iload 7, 2, 0, (0, 0, 0, 0, 0, 0)), (31, .aaload, 1, 0, (20, 40, 0, 1, 1, 0)), (32, .astore 8, 2, 0, (0, 0, 0, 0, 0, 0)), (34, .aload 8, 2, 0, (0, 0, 0, 0, 0, 0)), (36, .aload_n 1, 1, 0, (0, 0, 0, 0, 0, 0)), (37, .iload_n 2, 1, 0, (0, 0, 0, 0, 0, 0)), (38, .invokevirtual 42, 3, 0, (0, 3, 0, 0, 1, 0)), (41, .ifCond .eq 22, 3, 0, (0, 0, 0, 0, 0, 0)), (44, .aload 8, 2, 0, (0, 0, 0, 0, 0, 0)), (46, .iload_n 3, 1, 0, (0, 0, 0, 0, 0, 0)), (47, .invokevirtual 59, 3, 0, (1, 2, 0, 0, 1, 0)), (50, .ifCond .eq 13, 3, 0, (0, 0, 0, 0, 0, 0)), (53, .iload 4, 2, 0, (0, 0, 0, 0, 0, 0)), (55, .aload 8, 2, 0, (0, 0, 0, 0, 0, 0)), (57, .getfield 68, 3, 0, (10, 9, 0, 1, 0, 0)), (60, .iadd, 1, 0, (0, 0, 0, 0, 0, 0)), (61, .istore 4, 2, 0, (0, 0, 0, 0, 0, 0)), (63, .iinc 7 1, 3, 0, (0, 0, 0, 0, 0, 1)), (66, .goto (-46), 3, 0, (0, 0, 0, 0, 0, 0)), (69, .iload 4, 2, 0, (0, 0, 0, 0, 0, 0)), (71, .ireturn, 1, 0, (0, 0, 0, 0, 0, 0))]
set_option maxRecDepth 100000 in
theorem rk138 : R138.all (rok 0 138 1 [(144, [13, 4, 0]), (145, [13, 0])]) = true := by decide +kernel
set_option maxRecDepth 100000 in
theorem tab138 {F144 : PM → Nat → Nat → Int32 → Int32} {G144 : PM → Nat → Nat → Int32 → Prop} {F145 : PM → Nat → Int32 → Int32} {G145 : PM → Nat → Int32 → Prop} : TabOK 0 138 1 [CC144 F144 G144, CC145 F145 G145] R138 := tab_ok (K := K138) rfl rfl (fun h => d138 h) rk138 (by decide +kernel)
set_option maxRecDepth 100000 in
theorem pc138 : cutpc [20] R138 = true := by decide +kernel
set_option maxRecDepth 100000 in
theorem r8_sumAt_20 (p : PM) (hg : Gr 0 p) (F144 : PM → Nat → Nat → Int32 → Int32) (G144 : PM → Nat → Nat → Int32 → Prop) (o144 : CalOK 0 (CC144 F144 G144)) (F145 : PM → Nat → Int32 → Int32) (G145 : PM → Nat → Int32 → Prop) (o145 : CalOK 0 (CC145 F145 G145)) (kv20 : Nat → Int32 → Int32 → Int32 → Int32 → Int32) (kg20 : Nat → Int32 → Int32 → Int32 → Int32 → Prop) (hk20 : ∀ (v1 : Nat) (v2 : Int32) (v3 : Int32) (v4 : Int32) (v7 : Int32) (d0 d8 : ZV), kg20 v1 v2 v3 v4 v7 → ZJ 0 138 20 [d0, zR 1 v1, zI v2, zI v3, zI v4, zR 20 1, zC 40, zI v7, d8] [] p (hoI p (kv20 v1 v2 v3 v4 v7))) : ∀ (v1 : Nat) (v2 : Int32) (v3 : Int32) (v4 : Int32) (v7 : Int32) (d0 d8 : ZV), bg8_sumAt_20 p F144 G144 F145 G145 kg20 v1 v2 v3 v4 v7 → ZJ 0 138 20 [d0, zR 1 v1, zI v2, zI v3, zI v4, zR 20 1, zC 40, zI v7, d8] [] p (hoI p (bv8_sumAt_20 p F144 F145 kv20 v1 v2 v3 v4 v7)) := by
  intro v1 v2 v3 v4 v7 d0 d8 H
  exact roI (n := 3000) (q := 20) (la := [d0, zR 1 v1, zI v2, zI v3, zI v4, zR 20 1, zC 40, zI v7, d8]) (sa := []) (ks := [fun la sa _ => kv20 (ar la 1) (ai la 2) (ai la 3) (ai la 4) (ai la 7)]) (gs := [fun la sa _ => zsw (tc2 la [(2, 0), (5, 0), (0, 0), (0, 0), (0, 0), (120, 1), (3, 40), (0, 0), (2, 0)] && tc2 sa []) False (kg20 (ar la 1) (ai la 2) (ai la 3) (ai la 4) (ai la 7))]) (fcons o144 (fcons o145 (fnil))) tab138 pc138 ⟨fun la sa s hg H => zcut H fun H => hk20 (ar la 1) (ai la 2) (ai la 3) (ai la 4) (ai la 7) (zld la 0) (zld la 8) H, trivial⟩ hg H
theorem t8_sumAt_20 (p : PM) (hg : Gr 0 p) : ∀ (n : Nat), ∀ (v1 : Nat) (v2 : Int32) (v3 : Int32) (v4 : Int32) (v7 : Int32) (d0 d8 : ZV), g8_sumAt_20 p n v1 v2 v3 v4 v7 → ZJ 0 138 20 [d0, zR 1 v1, zI v2, zI v3, zI v4, zR 20 1, zC 40, zI v7, d8] [] p (hoI p (v8_sumAt_20 p n v1 v2 v3 v4 v7)) := by
  intro n
  induction n with
  | zero =>
    intro v1 v2 v3 v4 v7 d0 d8 H
    exact H.elim
  | succ n ih => exact r8_sumAt_20 p hg v10_standsIn g10_standsIn ok144 v10_allows g10_allows ok145 (v8_sumAt_20 p n) (g8_sumAt_20 p n) ih
set_option maxRecDepth 100000 in
theorem r8_sumAt (p : PM) (hg : Gr 0 p) (F144 : PM → Nat → Nat → Int32 → Int32) (G144 : PM → Nat → Nat → Int32 → Prop) (o144 : CalOK 0 (CC144 F144 G144)) (F145 : PM → Nat → Int32 → Int32) (G145 : PM → Nat → Int32 → Prop) (o145 : CalOK 0 (CC145 F145 G145)) (kv20 : Nat → Int32 → Int32 → Int32 → Int32 → Int32) (kg20 : Nat → Int32 → Int32 → Int32 → Int32 → Prop) (hk20 : ∀ (v1 : Nat) (v2 : Int32) (v3 : Int32) (v4 : Int32) (v7 : Int32) (d0 d8 : ZV), kg20 v1 v2 v3 v4 v7 → ZJ 0 138 20 [d0, zR 1 v1, zI v2, zI v3, zI v4, zR 20 1, zC 40, zI v7, d8] [] p (hoI p (kv20 v1 v2 v3 v4 v7))) : ∀ (v1 : Nat) (v2 : Int32) (v3 : Int32), bg8_sumAt p kg20 v1 v2 v3 → ZJ 0 138 0 [zR 8 1, zR 1 v1, zI v2, zI v3, zJ, zJ, zJ, zJ, zJ] [] p (hoI p (bv8_sumAt p kv20 v1 v2 v3)) := by
  intro v1 v2 v3  H
  exact roI (n := 3000) (q := 0) (la := [zR 8 1, zR 1 v1, zI v2, zI v3, zJ, zJ, zJ, zJ, zJ]) (sa := []) (ks := [fun la sa _ => kv20 (ar la 1) (ai la 2) (ai la 3) (ai la 4) (ai la 7)]) (gs := [fun la sa _ => zsw (tc2 la [(2, 0), (5, 0), (0, 0), (0, 0), (0, 0), (120, 1), (3, 40), (0, 0), (2, 0)] && tc2 sa []) False (kg20 (ar la 1) (ai la 2) (ai la 3) (ai la 4) (ai la 7))]) (fcons o144 (fcons o145 (fnil))) tab138 pc138 ⟨fun la sa s hg H => zcut H fun H => hk20 (ar la 1) (ai la 2) (ai la 3) (ai la 4) (ai la 7) (zld la 0) (zld la 8) H, trivial⟩ hg H
theorem t8_sumAt (p : PM) (hg : Gr 0 p) : ∀ (v1 : Nat) (v2 : Int32) (v3 : Int32), g8_sumAt p v1 v2 v3 → ZJ 0 138 0 [zR 8 1, zR 1 v1, zI v2, zI v3, zJ, zJ, zJ, zJ, zJ] [] p (hoI p (v8_sumAt p v1 v2 v3)) := r8_sumAt p hg v10_standsIn g10_standsIn ok144 v10_allows g10_allows ok145 (v8_sumAt_20 p FU) (g8_sumAt_20 p FU) (t8_sumAt_20 p hg FU)
def CC138 (F : PM → Nat → Int32 → Int32 → Int32) (G : PM → Nat → Int32 → Int32 → Prop) : Cal := (138, [11, 4, 0, 0], 1, true, fun as p => (zI (F p (ar as 1) (ai as 2) (ai as 3)), p), fun as p => zsw (tc2 as [(108, 1), (5, 0), (0, 0), (0, 0)]) False (G p (ar as 1) (ai as 2) (ai as 3)))
set_option maxRecDepth 100000 in
theorem okr138 (F : PM → Nat → Int32 → Int32 → Int32) (G : PM → Nat → Int32 → Int32 → Prop) (h : ∀ (p : PM) (v1 : Nat) (v2 : Int32) (v3 : Int32), Gr 0 p → G p v1 v2 v3 → ZJ 0 138 0 [zR 8 1, zR 1 v1, zI v2, zI v3, zJ, zJ, zJ, zJ, zJ] [] p (hoI p (F p v1 v2 v3))) : CalOK 0 (CC138 F G) := cal_ok (m := 9) (by unfold mL; rw [mX_138]) (fun as p hg H => h p (ar as 1) (ai as 2) (ai as 3) hg H)
theorem ok138 : CalOK 0 (CC138 v8_sumAt g8_sumAt) := okr138 v8_sumAt g8_sumAt (fun p v1 v2 v3 hg H => t8_sumAt p hg v1 v2 v3 H)
noncomputable def bv8_volumeAt (p : PM) (F138 : PM → Nat → Int32 → Int32 → Int32) (F377 : PM → Int32 → Int32 → Int32) (v1 : Nat) (v2 : Int32) : Int32 :=
  (F377 p (F138 p v1 (cn 1) v2) (F138 p v1 (cn 0) v2))
noncomputable def v8_volumeAt (p : PM) (v1 : Nat) (v2 : Int32) : Int32 := bv8_volumeAt p v8_sumAt v14_min_7cf53 v1 v2
noncomputable def bg8_volumeAt (p : PM) (F138 : PM → Nat → Int32 → Int32 → Int32) (G138 : PM → Nat → Int32 → Int32 → Prop) (F377 : PM → Int32 → Int32 → Int32) (G377 : PM → Int32 → Int32 → Prop) (v1 : Nat) (v2 : Int32) : Prop :=
  (G138 p v1 (cn 1) v2) ∧ (
  (G138 p v1 (cn 0) v2) ∧ (
  (G377 p (F138 p v1 (cn 1) v2) (F138 p v1 (cn 0) v2)) ∧ (
  True)))
noncomputable def g8_volumeAt (p : PM) (v1 : Nat) (v2 : Int32) : Prop := bg8_volumeAt p v8_sumAt g8_sumAt v14_min_7cf53 g14_min_7cf53 v1 v2
def R137 : List Row := [(0, .aload_n 0, 1, 0, (0, 0, 0, 0, 0, 0)), (1, .aload_n 1, 1, 0, (0, 0, 0, 0, 0, 0)), (2, .iconst 1, 1, 0, (0, 0, 0, 0, 0, 1)), (3, .iload_n 2, 1, 0, (0, 0, 0, 0, 0, 0)), (4, .invokevirtual 199, 3, 0, (0, 4, 0, 0, 1, 0)), (7, .aload_n 0, 1, 0, (0, 0, 0, 0, 0, 0)), (8, .aload_n 1, 1, 0, (0, 0, 0, 0, 0, 0)), (9, .iconst 0, 1, 0, (0, 0, 0, 0, 0, 0)), (10, .iload_n 2, 1, 0, (0, 0, 0, 0, 0, 0)), (11, .invokevirtual 199, 3, 0, (0, 4, 0, 0, 1, 0)), (14, .invokestatic 128, 3, 0, (1, 2, 0, 0, 0, 0)), (17, .ireturn, 1, 0, (0, 0, 0, 0, 0, 0))]
set_option maxRecDepth 100000 in
theorem rk137 : R137.all (rok 0 137 1 [(138, [11, 4, 0, 0]), (377, [0, 0])]) = true := by decide +kernel
set_option maxRecDepth 100000 in
theorem tab137 {F138 : PM → Nat → Int32 → Int32 → Int32} {G138 : PM → Nat → Int32 → Int32 → Prop} {F377 : PM → Int32 → Int32 → Int32} {G377 : PM → Int32 → Int32 → Prop} : TabOK 0 137 1 [CC138 F138 G138, CC377 F377 G377] R137 := tab_ok (K := K137) rfl rfl (fun h => d137 h) rk137 (by decide +kernel)
set_option maxRecDepth 100000 in
theorem pc137 : cutpc [] R137 = true := by decide +kernel
set_option maxRecDepth 100000 in
theorem r8_volumeAt (p : PM) (hg : Gr 0 p) (F138 : PM → Nat → Int32 → Int32 → Int32) (G138 : PM → Nat → Int32 → Int32 → Prop) (o138 : CalOK 0 (CC138 F138 G138)) (F377 : PM → Int32 → Int32 → Int32) (G377 : PM → Int32 → Int32 → Prop) (o377 : CalOK 0 (CC377 F377 G377)) : ∀ (v1 : Nat) (v2 : Int32), bg8_volumeAt p F138 G138 F377 G377 v1 v2 → ZJ 0 137 0 [zR 8 1, zR 1 v1, zI v2] [] p (hoI p (bv8_volumeAt p F138 F377 v1 v2)) := by
  intro v1 v2  H
  exact roI (n := 3000) (q := 0) (la := [zR 8 1, zR 1 v1, zI v2]) (sa := []) (ks := []) (gs := []) (fcons o138 (fcons o377 (fnil))) tab137 pc137 trivial hg H
theorem t8_volumeAt (p : PM) (hg : Gr 0 p) : ∀ (v1 : Nat) (v2 : Int32), g8_volumeAt p v1 v2 → ZJ 0 137 0 [zR 8 1, zR 1 v1, zI v2] [] p (hoI p (v8_volumeAt p v1 v2)) := r8_volumeAt p hg v8_sumAt g8_sumAt ok138 v14_min_7cf53 g14_min_7cf53 ok377
def CC137 (F : PM → Nat → Int32 → Int32) (G : PM → Nat → Int32 → Prop) : Cal := (137, [11, 4, 0], 1, true, fun as p => (zI (F p (ar as 1) (ai as 2)), p), fun as p => zsw (tc2 as [(108, 1), (5, 0), (0, 0)]) False (G p (ar as 1) (ai as 2)))
set_option maxRecDepth 100000 in
theorem okr137 (F : PM → Nat → Int32 → Int32) (G : PM → Nat → Int32 → Prop) (h : ∀ (p : PM) (v1 : Nat) (v2 : Int32), Gr 0 p → G p v1 v2 → ZJ 0 137 0 [zR 8 1, zR 1 v1, zI v2] [] p (hoI p (F p v1 v2))) : CalOK 0 (CC137 F G) := cal_ok (m := 3) (by unfold mL; rw [mX_137]) (fun as p hg H => h p (ar as 1) (ai as 2) hg H)
theorem ok137 : CalOK 0 (CC137 v8_volumeAt g8_volumeAt) := okr137 v8_volumeAt g8_volumeAt (fun p v1 v2 hg H => t8_volumeAt p hg v1 v2 H)
noncomputable def bv8_isNearer (p : PM) (F373 : PM → Int32 → Int32) (v0 : Int32) (v1 : Int32) (v2 : Int32) : Int32 :=
  let x1 : Int32 := (F373 p (v0 - v2))
  let x2 : Int32 := (F373 p (v1 - v2))
  if x1 < x2 then (
    (cn 1))
  else (
    if x1 = x2 then (
      if v0 < v1 then (
        (cn 1))
      else (
        (cn 0)))
    else (
      (cn 0)))
noncomputable def v8_isNearer (p : PM) (v0 : Int32) (v1 : Int32) (v2 : Int32) : Int32 := bv8_isNearer p v14_abs_0f7a4 v0 v1 v2
noncomputable def bg8_isNearer (p : PM) (F373 : PM → Int32 → Int32) (G373 : PM → Int32 → Prop) (v0 : Int32) (v1 : Int32) (v2 : Int32) : Prop :=
  (G373 p (v0 - v2)) ∧ (
  let x1 : Int32 := (F373 p (v0 - v2))
  (G373 p (v1 - v2)) ∧ (
  let x2 : Int32 := (F373 p (v1 - v2))
  if x1 < x2 then (
    True)
  else (
    if x1 = x2 then (
      if v0 < v1 then (
        True)
      else (
        True))
    else (
      True))))
noncomputable def g8_isNearer (p : PM) (v0 : Int32) (v1 : Int32) (v2 : Int32) : Prop := bg8_isNearer p v14_abs_0f7a4 g14_abs_0f7a4 v0 v1 v2
def R136 : List Row := [(0, .iload_n 0, 1, 0, (0, 0, 0, 0, 0, 0)), (1, .iload_n 2, 1, 0, (0, 0, 0, 0, 0, 0)), (2, .isub, 1, 0, (0, 0, 0, 0, 0, 0)), (3, .invokestatic 203, 3, 0, (0, 1, 0, 0, 0, 0)), (6, .istore_n 3, 1, 0, (0, 0, 0, 0, 0, 0)), (7, .iload_n 1, 1, 0, (0, 0, 0, 0, 0, 0)), (8, .iload_n 2, 1, 0, (0, 0, 0, 0, 0, 0)), (9, .isub, 1, 0, (0, 0, 0, 0, 0, 0)), (10, .invokestatic 203, 3, 0, (0, 1, 0, 0, 0, 0)), (13, .istore 4, 2, 0, (0, 0, 0, 0, 0, 0)), (15, .iload_n 3, 1, 0, (0, 0, 0, 0, 0, 0)), (16, .iload 4, 2, 0, (0, 0, 0, 0, 0, 0)), (18, .if_icmp .lt 14, 3, 0, (0, 0, 0, 0, 0, 0)), (21, .iload_n 3, 1, 0, (0, 0, 0, 0, 0, 0)), (22, .iload 4, 2, 0, (0, 0, 0, 0, 0, 0)), (24, .if_icmp .ne 12, 3, 0, (0, 0, 0, 0, 0, 0)), (27, .iload_n 0, 1, 0, (0, 0, 0, 0, 0, 0)), (28, .iload_n 1, 1, 0, (0, 0, 0, 0, 0, 0)), (29, .if_icmp .ge 7, 3, 0, (0, 0, 0, 0, 0, 0)), (32, .iconst 1, 1, 0, (0, 0, 0, 0, 0, 1)), (33, .goto 4, 3, 0, (0, 0, 0, 0, 0, 0)), (36, .iconst 0, 1, 0, (0, 0, 0, 0, 0, 0)), (37, .ireturn, 1, 0, (1, 0, 0, 0, 0, 0))]
set_option maxRecDepth 100000 in
theorem rk136 : R136.all (rok 0 136 1 [(373, [0])]) = true := by decide +kernel
set_option maxRecDepth 100000 in
theorem tab136 {F373 : PM → Int32 → Int32} {G373 : PM → Int32 → Prop} : TabOK 0 136 1 [CC373 F373 G373] R136 := tab_ok (K := K136) rfl rfl (fun h => d136 h) rk136 (by decide +kernel)
set_option maxRecDepth 100000 in
theorem pc136 : cutpc [] R136 = true := by decide +kernel
set_option maxRecDepth 100000 in
theorem r8_isNearer (p : PM) (hg : Gr 0 p) (F373 : PM → Int32 → Int32) (G373 : PM → Int32 → Prop) (o373 : CalOK 0 (CC373 F373 G373)) : ∀ (v0 : Int32) (v1 : Int32) (v2 : Int32), bg8_isNearer p F373 G373 v0 v1 v2 → ZJ 0 136 0 [zI v0, zI v1, zI v2, zJ, zJ] [] p (hoI p (bv8_isNearer p F373 v0 v1 v2)) := by
  intro v0 v1 v2  H
  exact roI (n := 3000) (q := 0) (la := [zI v0, zI v1, zI v2, zJ, zJ]) (sa := []) (ks := []) (gs := []) (fcons o373 (fnil)) tab136 pc136 trivial hg H
theorem t8_isNearer (p : PM) (hg : Gr 0 p) : ∀ (v0 : Int32) (v1 : Int32) (v2 : Int32), g8_isNearer p v0 v1 v2 → ZJ 0 136 0 [zI v0, zI v1, zI v2, zJ, zJ] [] p (hoI p (v8_isNearer p v0 v1 v2)) := r8_isNearer p hg v14_abs_0f7a4 g14_abs_0f7a4 ok373
def CC136 (F : PM → Int32 → Int32 → Int32 → Int32) (G : PM → Int32 → Int32 → Int32 → Prop) : Cal := (136, [0, 0, 0], 1, true, fun as p => (zI (F p (ai as 0) (ai as 1) (ai as 2)), p), fun as p => zsw (tc2 as [(0, 0), (0, 0), (0, 0)]) False (G p (ai as 0) (ai as 1) (ai as 2)))
set_option maxRecDepth 100000 in
theorem okr136 (F : PM → Int32 → Int32 → Int32 → Int32) (G : PM → Int32 → Int32 → Int32 → Prop) (h : ∀ (p : PM) (v0 : Int32) (v1 : Int32) (v2 : Int32), Gr 0 p → G p v0 v1 v2 → ZJ 0 136 0 [zI v0, zI v1, zI v2, zJ, zJ] [] p (hoI p (F p v0 v1 v2))) : CalOK 0 (CC136 F G) := cal_ok (m := 5) (by unfold mL; rw [mX_136]) (fun as p hg H => h p (ai as 0) (ai as 1) (ai as 2) hg H)
theorem ok136 : CalOK 0 (CC136 v8_isNearer g8_isNearer) := okr136 v8_isNearer g8_isNearer (fun p v0 v1 v2 hg H => t8_isNearer p hg v0 v1 v2 H)
noncomputable def bv8_findPrice_25 (p : PM) (F136 : PM → Int32 → Int32 → Int32 → Int32) (F137 : PM → Nat → Int32 → Int32) (F138 : PM → Nat → Int32 → Int32 → Int32) (F373 : PM → Int32 → Int32) (kv25 : Nat → Int32 → Int32 → Int32 → Int32 → Int32) (v1 : Nat) (v2 : Int32) (v3 : Int32) (v4 : Int32) (v7 : Int32) : Int32 :=
  if v7 < (cn 40) then (
    if (p.1 10 ((v7).toNatClampNeg + 1) 2) = (cn 1) then (
      if (p.2.2 10 ((v7).toNatClampNeg + 1) 4) = v1 then (
        if (p.1 10 ((v7).toNatClampNeg + 1) 6) = (cn (-100000)) then (
          kv25 v1 v2 v3 v4 (v7 + (cn 1)))
        else (
          let x1 : Int32 := (p.1 10 ((v7).toNatClampNeg + 1) 6)
          let x2 : Int32 := (F373 p ((F138 p v1 (cn 1) x1) - (F138 p v1 (cn 0) x1)))
          if v2 = (cn (-100000)) then (
            kv25 v1 x1 (F137 p v1 x1) x2 (v7 + (cn 1)))
          else (
            if v3 < (F137 p v1 x1) then (
              kv25 v1 x1 (F137 p v1 x1) x2 (v7 + (cn 1)))
            else (
              if (F137 p v1 x1) = v3 then (
                if x2 < v4 then (
                  kv25 v1 x1 (F137 p v1 x1) x2 (v7 + (cn 1)))
                else (
                  if x2 = v4 then (
                    if (F136 p x1 v2 (p.1 1 v1 4)) = 0 then (
                      kv25 v1 v2 v3 v4 (v7 + (cn 1)))
                    else (
                      kv25 v1 x1 (F137 p v1 x1) x2 (v7 + (cn 1))))
                  else (
                    kv25 v1 v2 v3 v4 (v7 + (cn 1)))))
              else (
                kv25 v1 v2 v3 v4 (v7 + (cn 1)))))))
      else (
        kv25 v1 v2 v3 v4 (v7 + (cn 1))))
    else (
      kv25 v1 v2 v3 v4 (v7 + (cn 1))))
  else (
    if v2 = (cn (-100000)) then (
      if 0 < (F137 p v1 (p.1 1 v1 4)) then (
        (p.1 1 v1 4))
      else (
        (cn (-100000))))
    else (
      if 0 < (F137 p v1 v2) then (
        v2)
      else (
        (cn (-100000)))))
noncomputable def v8_findPrice_25 (p : PM) (n : Nat) : Nat → Int32 → Int32 → Int32 → Int32 → Int32 := Nat.rec (motive := fun _ => Nat → Int32 → Int32 → Int32 → Int32 → Int32) (fun _ _ _ _ _ => 0) (fun _ ih => bv8_findPrice_25 p v8_isNearer v8_volumeAt v8_sumAt v14_abs_0f7a4 ih) n
theorem ev8_findPrice_25 (p : PM) (n : Nat) (v1 : Nat) (v2 : Int32) (v3 : Int32) (v4 : Int32) (v7 : Int32) : v8_findPrice_25 p (n + 1) v1 v2 v3 v4 v7 = bv8_findPrice_25 p v8_isNearer v8_volumeAt v8_sumAt v14_abs_0f7a4 (v8_findPrice_25 p n) v1 v2 v3 v4 v7 := rfl
noncomputable def bg8_findPrice_25 (p : PM) (F136 : PM → Int32 → Int32 → Int32 → Int32) (G136 : PM → Int32 → Int32 → Int32 → Prop) (F137 : PM → Nat → Int32 → Int32) (G137 : PM → Nat → Int32 → Prop) (F138 : PM → Nat → Int32 → Int32 → Int32) (G138 : PM → Nat → Int32 → Int32 → Prop) (F373 : PM → Int32 → Int32) (G373 : PM → Int32 → Prop) (kg25 : Nat → Int32 → Int32 → Int32 → Int32 → Prop) (v1 : Nat) (v2 : Int32) (v3 : Int32) (v4 : Int32) (v7 : Int32) : Prop :=
  if v7 < (cn 40) then (
    (inb v7 40) ∧ (
    if (p.1 10 ((v7).toNatClampNeg + 1) 2) = (cn 1) then (
      if (p.2.2 10 ((v7).toNatClampNeg + 1) 4) = v1 then (
        if (p.1 10 ((v7).toNatClampNeg + 1) 6) = (cn (-100000)) then (
          kg25 v1 v2 v3 v4 (v7 + (cn 1)))
        else (
          let x1 : Int32 := (p.1 10 ((v7).toNatClampNeg + 1) 6)
          (G137 p v1 x1) ∧ (
          (G138 p v1 (cn 1) x1) ∧ (
          (G138 p v1 (cn 0) x1) ∧ (
          (G373 p ((F138 p v1 (cn 1) x1) - (F138 p v1 (cn 0) x1))) ∧ (
          let x2 : Int32 := (F373 p ((F138 p v1 (cn 1) x1) - (F138 p v1 (cn 0) x1)))
          if v2 = (cn (-100000)) then (
            kg25 v1 x1 (F137 p v1 x1) x2 (v7 + (cn 1)))
          else (
            if v3 < (F137 p v1 x1) then (
              kg25 v1 x1 (F137 p v1 x1) x2 (v7 + (cn 1)))
            else (
              if (F137 p v1 x1) = v3 then (
                if x2 < v4 then (
                  kg25 v1 x1 (F137 p v1 x1) x2 (v7 + (cn 1)))
                else (
                  if x2 = v4 then (
                    (¬ v1 = 0) ∧ (
                    (G136 p x1 v2 (p.1 1 v1 4)) ∧ (
                    if (F136 p x1 v2 (p.1 1 v1 4)) = 0 then (
                      kg25 v1 v2 v3 v4 (v7 + (cn 1)))
                    else (
                      kg25 v1 x1 (F137 p v1 x1) x2 (v7 + (cn 1))))))
                  else (
                    kg25 v1 v2 v3 v4 (v7 + (cn 1)))))
              else (
                kg25 v1 v2 v3 v4 (v7 + (cn 1)))))))))))
      else (
        kg25 v1 v2 v3 v4 (v7 + (cn 1))))
    else (
      kg25 v1 v2 v3 v4 (v7 + (cn 1)))))
  else (
    if v2 = (cn (-100000)) then (
      (¬ v1 = 0) ∧ (
      (G137 p v1 (p.1 1 v1 4)) ∧ (
      if 0 < (F137 p v1 (p.1 1 v1 4)) then (
        True)
      else (
        True))))
    else (
      (G137 p v1 v2) ∧ (
      if 0 < (F137 p v1 v2) then (
        True)
      else (
        True))))
noncomputable def g8_findPrice_25 (p : PM) (n : Nat) : Nat → Int32 → Int32 → Int32 → Int32 → Prop := Nat.rec (motive := fun _ => Nat → Int32 → Int32 → Int32 → Int32 → Prop) (fun _ _ _ _ _ => False) (fun _ ih => bg8_findPrice_25 p v8_isNearer g8_isNearer v8_volumeAt g8_volumeAt v8_sumAt g8_sumAt v14_abs_0f7a4 g14_abs_0f7a4 ih) n
theorem eg8_findPrice_25 (p : PM) (n : Nat) (v1 : Nat) (v2 : Int32) (v3 : Int32) (v4 : Int32) (v7 : Int32) : g8_findPrice_25 p (n + 1) v1 v2 v3 v4 v7 = bg8_findPrice_25 p v8_isNearer g8_isNearer v8_volumeAt g8_volumeAt v8_sumAt g8_sumAt v14_abs_0f7a4 g14_abs_0f7a4 (g8_findPrice_25 p n) v1 v2 v3 v4 v7 := rfl
noncomputable def bv8_findPrice (p : PM) (kv25 : Nat → Int32 → Int32 → Int32 → Int32 → Int32) (v1 : Nat) : Int32 :=
  kv25 v1 (cn (-100000)) (cn 0) (cn 0) (cn 0)
noncomputable def v8_findPrice (p : PM) (v1 : Nat) : Int32 := bv8_findPrice p (v8_findPrice_25 p FU) v1
noncomputable def bg8_findPrice (p : PM) (kg25 : Nat → Int32 → Int32 → Int32 → Int32 → Prop) (v1 : Nat) : Prop :=
  kg25 v1 (cn (-100000)) (cn 0) (cn 0) (cn 0)
noncomputable def g8_findPrice (p : PM) (v1 : Nat) : Prop := bg8_findPrice p (g8_findPrice_25 p FU) v1
def R135 : List Row := [(0, .ldc 79, 2, 0, (0, 0, 0, 0, 0, -100000)), (2, .istore_n 2, 1, 0, (0, 0, 0, 0, 0, 0)), (3, .iconst 0, 1, 0, (0, 0, 0, 0, 0, 0)), (4, .istore_n 3, 1, 0, (0, 0, 0, 0, 0, 0)), (5, .iconst 0, 1, 0, (0, 0, 0, 0, 0, 0)), (6, .istore 4, 2, 0, (0, 0, 0, 0, 0, 0)), (8, .aload_n 0, 1, 0, (0, 0, 0, 0, 0, 0)), (9, .getfield 21, 3, 0, (8, 0, 9, 2, 1, 0)), (12, .getfield 29, 3, 0, (6, 1, 23, 2, 1, 0)), (15, .astore 5, 2, 0, (0, 0, 0, 0, 0, 0)), (17, .aload 5, 2, 0, (0, 0, 0, 0, 0, 0)), (19, .arraylength, 1, 0, (20, 40, 0, 0, 0, 40)), (20, .istore 6, 2, 0, (0, 0, 0, 0, 0, 0)), (22, .iconst 0, 1, 0, (0, 0, 0, 0, 0, 0)), (23, .istore 7, 2, 0, (0, 0, 0, 0, 0, 0)), (25, .iload 7, 2, 1, (0, 0, 0, 0, 0, 0)), (27, .iload 6, 2, 0, (0, 0, 0, 0, 0, 0)), (29, .if_icmp .ge 164, 3, 0, (0, 0, 0, 0, 0, 0)), (32, .aload 5, 2, 0, (0, 0, 0, 0, 0, 0)), (34, .iload 7, 2, 0, (0, 0, 0, 0, 0, 0)), (36, .aaload, 1, 0, (20, 40, 0, 1, 1, 0)), (37, .astore 8, 2, 0, (0, 0, 0, 0, 0, 0)), (39, .aload 8, 2, 0, (0, 0, 0, 0, 0, 0)), (41, .getfield 72, 3, 0, (10, 2, 0, 1, 0, 0)), (44, .iconst 1, 1, 0, (0, 0, 0, 0, 0, 1)), (45, .if_icmp .ne 142, 3, 0, (0, 0, 0, 0, 0, 0)), (48, .aload 8, 2, 0, (0, 0, 0, 0, 0, 0)), (50, .getfield 34, 3, 0, (10, 4, 4, 1, 0, 0)), (53, .aload_n 1, 1, 0, (0, 0, 0, 0, 0, 0)), (54, .if_acmp .ne 133, 3, 0, (0, 0, 0, 0, 0, 0)), (57, .aload 8, 2, 0, (0, 0, 0, 0, 0, 0)), (59, .getfield 110, 3, 0, (10, 6, 0, 1, 0, 0)), (62, .ldc 79, 2, 0, (0, 0, 0, 0, 0, -100000)), (64, .if_icmp .ne 6, 3, 0, (0, 0, 0, 0, 0, 0)), (67, .goto 120, 3, 0, (0, 0, 0, 0, 0, 0)), (70, .aload 8, 2, 0, (0, 0, 0, 0, 0, 0)), (72, .getfield 110, 3, 0, (10, 6, 0, 1, 0, 0)), (75, .istore 9, 2, 0, (0, 0, 0, 0, 0, 0)), (77, .aload_n 0, 1, 0, (0, 0, 0, 0, 0, 0)), (78, .aload_n 1, 1, 0, (0, 0, 0, 0, 0, 0)), (79, .iload 9, 2, 0, (0, 0, 0, 0, 0, 0)), (81, .invokevirtual 195, 3, 0, (0, 3, 0, 0, 1, 0)), (84, .istore 10, 2, 0, (0, 0, 0, 0, 0, 0)), (86, .aload_n 0, 1, 0, (0, 0, 0, 0, 0, 0)), (87, .aload_n 1, 1, 0, (0, 0, 0, 0, 0, 0)), (88, .iconst 1, 1, 0, (0, 0, 0, 0, 0, 1)), (89, .iload 9, 2, 0, (0, 0, 0, 0, 0, 0)), (91, .invokevirtual 199, 3, 0, (1, 4, 0, 0, 1, 0)), (94, .aload_n 0, 1, 0, (0, 0, 0, 0, 0, 0)), (95, .aload_n 1, 1, 0, (0, 0, 0, 0, 0, 0)), (96, .iconst 0, 1, 0, (0, 0, 0, 0, 0, 0)), (97, .iload 9, 2, 0, (0, 0, 0, 0, 0, 0)), (99, .invokevirtual 199, 3, 0, (1, 4, 0, 0, 1, 0)), (102, .isub, 1, 0, (0, 0, 0, 0, 0, 0)), (103, .invokestatic 203, 3, 0, (2, 1, 0, 0, 0, 0)), (106, .istore 11, 2, 0, (0, 0, 0, 0, 0, 0)), (108, .iload_n 2, 1, 0, (0, 0, 0, 0, 0, 0)), (109, .ldc 79, 2, 0, (0, 0, 0, 0, 0, -100000)), (111, .if_icmp .eq 9, 3, 0, (0, 0, 0, 0, 0, 0)), (114, .iload 10, 2, 0, (0, 0, 0, 0, 0, 0)), (116, .iload_n 3, 1, 0, (0, 0, 0, 0, 0, 0)), (117, .if_icmp .le 7, 3, 0, (0, 0, 0, 0, 0, 0)), (120, .iconst 1, 1, 0, (0, 0, 0, 0, 0, 1)), (121, .goto 4, 3, 0, (0, 0, 0, 0, 0, 0)), (124, .iconst 0, 1, 0, (0, 0, 0, 0, 0, 0)), (125, .istore 12, 2, 0, (0, 0, 0, 0, 0, 0)), (127, .iload 12, 2, 0, (0, 0, 0, 0, 0, 0)), (129, .ifCond .ne 43, 3, 0, (0, 0, 0, 0, 0, 0)), (132, .iload 10, 2, 0, (0, 0, 0, 0, 0, 0)), (134, .iload_n 3, 1, 0, (0, 0, 0, 0, 0, 0)), (135, .if_icmp .ne 37, 3, 0, (0, 0, 0, 0, 0, 0)), (138, .iload 11, 2, 0, (0, 0, 0, 0, 0, 0)), (140, .iload 4, 2, 0, (0, 0, 0, 0, 0, 0)), (142, .if_icmp .lt 23, 3, 0, (0, 0, 0, 0, 0, 0)), (145, .iload 11, 2, 0, (0, 0, 0, 0, 0, 0)), (147, .iload 4, 2, 0, (0, 0, 0, 0, 0, 0)), (149, .if_icmp .ne 20, 3, 0, (0, 0, 0, 0, 0, 0)), (152, .iload 9, 2, 0, (0, 0, 0, 0, 0, 0)), (154, .iload_n 2, 1, 0, (0, 0, 0, 0, 0, 0)), (155, .aload_n 1, 1, 0, (0, 0, 0, 0, 0, 0)), (156, .getfield 176, 3, 0, (1, 4, 0, 0, 0, 0)), (159, .invokestatic 207, 3, 0, (3, 3, 0, 0, 0, 0)), (162, .ifCond .eq 7, 3, 0, (0, 0, 0, 0, 0, 0)), (165, .iconst 1, 1, 0, (0, 0, 0, 0, 0, 1)), (166, .goto 4, 3, 0, (0, 0, 0, 0, 0, 0)), (169, .iconst 0, 1, 0, (0, 0, 0, 0, 0, 0)), (170, .istore 12, 2, 0, (0, 0, 0, 0, 0, 0)), (172, .iload 12, 2, 0, (0, 0, 0, 0, 0, 0)), (174, .ifCond .eq 13, 3, 0, (0, 0, 0, 0, 0, 0)), (177, .iload 9, 2, 0, (0, 0, 0, 0, 0, 0)), (179, .istore_n 2, 1, 0, (0, 0, 0, 0, 0, 0)), (180, .iload 10, 2, 0, (0, 0, 0, 0, 0, 0)), (182, .istore_n 3, 1, 0, (0, 0, 0, 0, 0, 0)), (183, .iload 11, 2, 0, (0, 0, 0, 0, 0, 0)), (185, .istore 4, 2, 0, (0, 0, 0, 0, 0, 0)), (187, .iinc 7 1, 3, 0, (0, 0, 0, 0, 0, 1)), (190, .goto (-165), 3, 0, (0, 0, 0, 0, 0, 0)), (193, .iload_n 2, 1, 0, (0, 0, 0, 0, 0, 0)), (194, .ldc 79, 2, 0, (0, 0, 0, 0, 0, -100000)), (196, .if_icmp .ne 10, 3, 0, (0, 0, 0, 0, 0, 0)), (199, .aload_n 1, 1, 0, (0, 0, 0, 0, 0, 0)), (200, .getfield 176, 3, 0, (1, 4, 0, 0, 0, 0)), (203, .goto 4, 3, 0, (0, 0, 0, 0, 0, 0)), (206, .iload_n 2, 1, 0, (0, 0, 0, 0, 0, 0)), (207, .istore 5, 2, 0, (0, 0, 0, 0, 0, 0)), (209, .aload_n 0, 1, 0, (0, 0, 0, 0, 0, 0)), (210, .aload_n 1, 1, 0, (0, 0, 0, 0, 0, 0)), (211, .iload 5, 2, 0, (0, 0, 0, 0, 0, 0)), (213, .invokevirtual 195, 3, 0, (0, 3, 0, 0, 1, 0)), (216, .ifCond .le 8, 3, 0, (0, 0, 0, 0, 0, 0)), (219, .iload 5, 2, 0, (0, 0, 0, 0, 0, 0)), (221, .goto 5, 3, 0, (0, 0, 0, 0, 0, 0)), (224, .ldc 79, 2, 0, (0, 0, 0, 0, 0, -100000)), (226, .ireturn, 1, 0, (0, 0, 0, 0, 0, 0))]
set_option maxRecDepth 100000 in
theorem rk135 : R135.all (rok 0 135 1 [(137, [11, 4, 0]), (138, [11, 4, 0, 0]), (373, [0]), (136, [0, 0, 0])]) = true := by decide +kernel
set_option maxRecDepth 100000 in
theorem tab135 {F137 : PM → Nat → Int32 → Int32} {G137 : PM → Nat → Int32 → Prop} {F138 : PM → Nat → Int32 → Int32 → Int32} {G138 : PM → Nat → Int32 → Int32 → Prop} {F373 : PM → Int32 → Int32} {G373 : PM → Int32 → Prop} {F136 : PM → Int32 → Int32 → Int32 → Int32} {G136 : PM → Int32 → Int32 → Int32 → Prop} : TabOK 0 135 1 [CC137 F137 G137, CC138 F138 G138, CC373 F373 G373, CC136 F136 G136] R135 := tab_ok (K := K135) rfl rfl (fun h => d135 h) rk135 (by decide +kernel)
set_option maxRecDepth 100000 in
theorem pc135 : cutpc [25] R135 = true := by decide +kernel
set_option maxRecDepth 100000 in
theorem r8_findPrice_25 (p : PM) (hg : Gr 0 p) (F137 : PM → Nat → Int32 → Int32) (G137 : PM → Nat → Int32 → Prop) (o137 : CalOK 0 (CC137 F137 G137)) (F138 : PM → Nat → Int32 → Int32 → Int32) (G138 : PM → Nat → Int32 → Int32 → Prop) (o138 : CalOK 0 (CC138 F138 G138)) (F373 : PM → Int32 → Int32) (G373 : PM → Int32 → Prop) (o373 : CalOK 0 (CC373 F373 G373)) (F136 : PM → Int32 → Int32 → Int32 → Int32) (G136 : PM → Int32 → Int32 → Int32 → Prop) (o136 : CalOK 0 (CC136 F136 G136)) (kv25 : Nat → Int32 → Int32 → Int32 → Int32 → Int32) (kg25 : Nat → Int32 → Int32 → Int32 → Int32 → Prop) (hk25 : ∀ (v1 : Nat) (v2 : Int32) (v3 : Int32) (v4 : Int32) (v7 : Int32) (d8 d9 d10 d11 d12 : ZV), kg25 v1 v2 v3 v4 v7 → ZJ 0 135 25 [zR 8 1, zR 1 v1, zI v2, zI v3, zI v4, zR 20 1, zC 40, zI v7, d8, d9, d10, d11, d12] [] p (hoI p (kv25 v1 v2 v3 v4 v7))) : ∀ (v1 : Nat) (v2 : Int32) (v3 : Int32) (v4 : Int32) (v7 : Int32) (d8 d9 d10 d11 d12 : ZV), bg8_findPrice_25 p F136 G136 F137 G137 F138 G138 F373 G373 kg25 v1 v2 v3 v4 v7 → ZJ 0 135 25 [zR 8 1, zR 1 v1, zI v2, zI v3, zI v4, zR 20 1, zC 40, zI v7, d8, d9, d10, d11, d12] [] p (hoI p (bv8_findPrice_25 p F136 F137 F138 F373 kv25 v1 v2 v3 v4 v7)) := by
  intro v1 v2 v3 v4 v7 d8 d9 d10 d11 d12 H
  exact roI (n := 3000) (q := 25) (la := [zR 8 1, zR 1 v1, zI v2, zI v3, zI v4, zR 20 1, zC 40, zI v7, d8, d9, d10, d11, d12]) (sa := []) (ks := [fun la sa _ => kv25 (ar la 1) (ai la 2) (ai la 3) (ai la 4) (ai la 7)]) (gs := [fun la sa _ => zsw (tc2 la [(108, 1), (5, 0), (0, 0), (0, 0), (0, 0), (120, 1), (3, 40), (0, 0), (2, 0), (2, 0), (2, 0), (2, 0), (2, 0)] && tc2 sa []) False (kg25 (ar la 1) (ai la 2) (ai la 3) (ai la 4) (ai la 7))]) (fcons o137 (fcons o138 (fcons o373 (fcons o136 (fnil))))) tab135 pc135 ⟨fun la sa s hg H => zcut H fun H => hk25 (ar la 1) (ai la 2) (ai la 3) (ai la 4) (ai la 7) (zld la 8) (zld la 9) (zld la 10) (zld la 11) (zld la 12) H, trivial⟩ hg H
theorem t8_findPrice_25 (p : PM) (hg : Gr 0 p) : ∀ (n : Nat), ∀ (v1 : Nat) (v2 : Int32) (v3 : Int32) (v4 : Int32) (v7 : Int32) (d8 d9 d10 d11 d12 : ZV), g8_findPrice_25 p n v1 v2 v3 v4 v7 → ZJ 0 135 25 [zR 8 1, zR 1 v1, zI v2, zI v3, zI v4, zR 20 1, zC 40, zI v7, d8, d9, d10, d11, d12] [] p (hoI p (v8_findPrice_25 p n v1 v2 v3 v4 v7)) := by
  intro n
  induction n with
  | zero =>
    intro v1 v2 v3 v4 v7 d8 d9 d10 d11 d12 H
    exact H.elim
  | succ n ih => exact r8_findPrice_25 p hg v8_volumeAt g8_volumeAt ok137 v8_sumAt g8_sumAt ok138 v14_abs_0f7a4 g14_abs_0f7a4 ok373 v8_isNearer g8_isNearer ok136 (v8_findPrice_25 p n) (g8_findPrice_25 p n) ih
set_option maxRecDepth 100000 in
theorem r8_findPrice (p : PM) (hg : Gr 0 p) (F137 : PM → Nat → Int32 → Int32) (G137 : PM → Nat → Int32 → Prop) (o137 : CalOK 0 (CC137 F137 G137)) (F138 : PM → Nat → Int32 → Int32 → Int32) (G138 : PM → Nat → Int32 → Int32 → Prop) (o138 : CalOK 0 (CC138 F138 G138)) (F373 : PM → Int32 → Int32) (G373 : PM → Int32 → Prop) (o373 : CalOK 0 (CC373 F373 G373)) (F136 : PM → Int32 → Int32 → Int32 → Int32) (G136 : PM → Int32 → Int32 → Int32 → Prop) (o136 : CalOK 0 (CC136 F136 G136)) (kv25 : Nat → Int32 → Int32 → Int32 → Int32 → Int32) (kg25 : Nat → Int32 → Int32 → Int32 → Int32 → Prop) (hk25 : ∀ (v1 : Nat) (v2 : Int32) (v3 : Int32) (v4 : Int32) (v7 : Int32) (d8 d9 d10 d11 d12 : ZV), kg25 v1 v2 v3 v4 v7 → ZJ 0 135 25 [zR 8 1, zR 1 v1, zI v2, zI v3, zI v4, zR 20 1, zC 40, zI v7, d8, d9, d10, d11, d12] [] p (hoI p (kv25 v1 v2 v3 v4 v7))) : ∀ (v1 : Nat), bg8_findPrice p kg25 v1 → ZJ 0 135 0 [zR 8 1, zR 1 v1, zJ, zJ, zJ, zJ, zJ, zJ, zJ, zJ, zJ, zJ, zJ] [] p (hoI p (bv8_findPrice p kv25 v1)) := by
  intro v1  H
  exact roI (n := 3000) (q := 0) (la := [zR 8 1, zR 1 v1, zJ, zJ, zJ, zJ, zJ, zJ, zJ, zJ, zJ, zJ, zJ]) (sa := []) (ks := [fun la sa _ => kv25 (ar la 1) (ai la 2) (ai la 3) (ai la 4) (ai la 7)]) (gs := [fun la sa _ => zsw (tc2 la [(108, 1), (5, 0), (0, 0), (0, 0), (0, 0), (120, 1), (3, 40), (0, 0), (2, 0), (2, 0), (2, 0), (2, 0), (2, 0)] && tc2 sa []) False (kg25 (ar la 1) (ai la 2) (ai la 3) (ai la 4) (ai la 7))]) (fcons o137 (fcons o138 (fcons o373 (fcons o136 (fnil))))) tab135 pc135 ⟨fun la sa s hg H => zcut H fun H => hk25 (ar la 1) (ai la 2) (ai la 3) (ai la 4) (ai la 7) (zld la 8) (zld la 9) (zld la 10) (zld la 11) (zld la 12) H, trivial⟩ hg H
theorem t8_findPrice (p : PM) (hg : Gr 0 p) : ∀ (v1 : Nat), g8_findPrice p v1 → ZJ 0 135 0 [zR 8 1, zR 1 v1, zJ, zJ, zJ, zJ, zJ, zJ, zJ, zJ, zJ, zJ, zJ] [] p (hoI p (v8_findPrice p v1)) := r8_findPrice p hg v8_volumeAt g8_volumeAt ok137 v8_sumAt g8_sumAt ok138 v14_abs_0f7a4 g14_abs_0f7a4 ok373 v8_isNearer g8_isNearer ok136 (v8_findPrice_25 p FU) (g8_findPrice_25 p FU) (t8_findPrice_25 p hg FU)
def CC135 (F : PM → Nat → Int32) (G : PM → Nat → Prop) : Cal := (135, [11, 4], 1, true, fun as p => (zI (F p (ar as 1)), p), fun as p => zsw (tc2 as [(108, 1), (5, 0)]) False (G p (ar as 1)))
set_option maxRecDepth 100000 in
theorem okr135 (F : PM → Nat → Int32) (G : PM → Nat → Prop) (h : ∀ (p : PM) (v1 : Nat), Gr 0 p → G p v1 → ZJ 0 135 0 [zR 8 1, zR 1 v1, zJ, zJ, zJ, zJ, zJ, zJ, zJ, zJ, zJ, zJ, zJ] [] p (hoI p (F p v1))) : CalOK 0 (CC135 F G) := cal_ok (m := 13) (by unfold mL; rw [mX_135]) (fun as p hg H => h p (ar as 1) hg H)
theorem ok135 : CalOK 0 (CC135 v8_findPrice g8_findPrice) := okr135 v8_findPrice g8_findPrice (fun p v1 hg H => t8_findPrice p hg v1 H)
noncomputable def bv8_comesBefore (p : PM) (F146 : PM → Nat → Int32 → Int32 → Int32) (v1 : Nat) (v2 : Nat) : Int32 :=
  if (p.1 10 v1 6) = (p.1 10 v2 6) then (
    if (p.1 10 v1 12) < (p.1 10 v2 12) then (
      (cn 1))
    else (
      (cn 0)))
  else (
    if (p.1 10 v1 6) = (cn (-100000)) then (
      if (p.1 10 v1 6) = (cn (-100000)) then (
        (cn 1))
      else (
        (cn 0)))
    else (
      if (p.1 10 v2 6) = (cn (-100000)) then (
        if (p.1 10 v1 6) = (cn (-100000)) then (
          (cn 1))
        else (
          (cn 0)))
      else (
        (F146 p v1 (p.1 10 v1 6) (p.1 10 v2 6)))))
noncomputable def v8_comesBefore (p : PM) (v1 : Nat) (v2 : Nat) : Int32 := bv8_comesBefore p v10_isBetter v1 v2
noncomputable def bg8_comesBefore (p : PM) (F146 : PM → Nat → Int32 → Int32 → Int32) (G146 : PM → Nat → Int32 → Int32 → Prop) (v1 : Nat) (v2 : Nat) : Prop :=
  (¬ v1 = 0) ∧ (
  (¬ v2 = 0) ∧ (
  if (p.1 10 v1 6) = (p.1 10 v2 6) then (
    (¬ v1 = 0) ∧ (
    (¬ v2 = 0) ∧ (
    if (p.1 10 v1 12) < (p.1 10 v2 12) then (
      True)
    else (
      True))))
  else (
    (¬ v1 = 0) ∧ (
    if (p.1 10 v1 6) = (cn (-100000)) then (
      (¬ v1 = 0) ∧ (
      if (p.1 10 v1 6) = (cn (-100000)) then (
        True)
      else (
        True)))
    else (
      (¬ v2 = 0) ∧ (
      if (p.1 10 v2 6) = (cn (-100000)) then (
        (¬ v1 = 0) ∧ (
        if (p.1 10 v1 6) = (cn (-100000)) then (
          True)
        else (
          True)))
      else (
        (¬ v1 = 0) ∧ (
        (¬ v2 = 0) ∧ (
        (¬ v1 = 0) ∧ (
        (G146 p v1 (p.1 10 v1 6) (p.1 10 v2 6)) ∧ (
        (b01 (F146 p v1 (p.1 10 v1 6) (p.1 10 v2 6))) ∧ (
        True))))))))))))
noncomputable def g8_comesBefore (p : PM) (v1 : Nat) (v2 : Nat) : Prop := bg8_comesBefore p v10_isBetter g10_isBetter v1 v2
def R134 : List Row := [(0, .aload_n 1, 1, 0, (0, 0, 0, 0, 0, 0)), (1, .getfield 110, 3, 0, (10, 6, 0, 0, 0, 0)), (4, .aload_n 2, 1, 0, (0, 0, 0, 0, 0, 0)), (5, .getfield 110, 3, 0, (10, 6, 0, 0, 0, 0)), (8, .if_icmp .ne 20, 3, 0, (0, 0, 0, 0, 0, 0)), (11, .aload_n 1, 1, 0, (0, 0, 0, 0, 0, 0)), (12, .getfield 125, 3, 0, (10, 12, 0, 0, 0, 0)), (15, .aload_n 2, 1, 0, (0, 0, 0, 0, 0, 0)), (16, .getfield 125, 3, 0, (10, 12, 0, 0, 0, 0)), (19, .if_icmp .ge 7, 3, 0, (0, 0, 0, 0, 0, 0)), (22, .iconst 1, 1, 0, (0, 0, 0, 0, 0, 1)), (23, .goto 4, 3, 0, (0, 0, 0, 0, 0, 0)), (26, .iconst 0, 1, 0, (0, 0, 0, 0, 0, 0)), (27, .ireturn, 1, 0, (1, 0, 0, 0, 0, 0)), (28, .aload_n 1, 1, 0, (0, 0, 0, 0, 0, 0)), (29, .getfield 110, 3, 0, (10, 6, 0, 0, 0, 0)), (32, .ldc 79, 2, 0, (0, 0, 0, 0, 0, -100000)), (34, .if_icmp .eq 12, 3, 0, (0, 0, 0, 0, 0, 0)), (37, .aload_n 2, 1, 0, (0, 0, 0, 0, 0, 0)), (38, .getfield 110, 3, 0, (10, 6, 0, 0, 0, 0)), (41, .ldc 79, 2, 0, (0, 0, 0, 0, 0, -100000)), (43, .if_icmp .ne 18, 3, 0, (0, 0, 0, 0, 0, 0)), (46, .aload_n 1, 1, 0, (0, 0, 0, 0, 0, 0)), (47, .getfield 110, 3, 0, (10, 6, 0, 0, 0, 0)), (50, .ldc 79, 2, 0, (0, 0, 0, 0, 0, -100000)), (52, .if_icmp .ne 7, 3, 0, (0, 0, 0, 0, 0, 0)), (55, .iconst 1, 1, 0, (0, 0, 0, 0, 0, 1)), (56, .goto 4, 3, 0, (0, 0, 0, 0, 0, 0)), (59, .iconst 0, 1, 0, (0, 0, 0, 0, 0, 0)), (60, .ireturn, 1, 0, (1, 0, 0, 0, 0, 0)), (61, .aload_n 1, 1, 0, (0, 0, 0, 0, 0, 0)), (62, .aload_n 1, 1, 0, (0, 0, 0, 0, 0, 0)), (63, .getfield 110, 3, 0, (10, 6, 0, 0, 0, 0)), (66, .aload_n 2, 1, 0, (0, 0, 0, 0, 0, 0)), (67, .getfield 110, 3, 0, (10, 6, 0, 0, 0, 0)), (70, .invokevirtual 191, 3, 0, (0, 3, 0, 0, 2, 0)), (73, .ireturn, 1, 0, (1, 0, 0, 0, 0, 0))]
set_option maxRecDepth 100000 in
theorem rk134 : R134.all (rok 0 134 1 [(146, [13, 0, 0])]) = true := by decide +kernel
set_option maxRecDepth 100000 in
theorem tab134 {F146 : PM → Nat → Int32 → Int32 → Int32} {G146 : PM → Nat → Int32 → Int32 → Prop} : TabOK 0 134 1 [CC146 F146 G146] R134 := tab_ok (K := K134) rfl rfl (fun h => d134 h) rk134 (by decide +kernel)
set_option maxRecDepth 100000 in
theorem pc134 : cutpc [] R134 = true := by decide +kernel
set_option maxRecDepth 100000 in
theorem r8_comesBefore (p : PM) (hg : Gr 0 p) (F146 : PM → Nat → Int32 → Int32 → Int32) (G146 : PM → Nat → Int32 → Int32 → Prop) (o146 : CalOK 0 (CC146 F146 G146)) : ∀ (v1 : Nat) (v2 : Nat), bg8_comesBefore p F146 G146 v1 v2 → ZJ 0 134 0 [zR 8 1, zR 10 v1, zR 10 v2] [] p (hoI p (bv8_comesBefore p F146 v1 v2)) := by
  intro v1 v2  H
  exact roI (n := 3000) (q := 0) (la := [zR 8 1, zR 10 v1, zR 10 v2]) (sa := []) (ks := []) (gs := []) (fcons o146 (fnil)) tab134 pc134 trivial hg H
theorem t8_comesBefore (p : PM) (hg : Gr 0 p) : ∀ (v1 : Nat) (v2 : Nat), g8_comesBefore p v1 v2 → ZJ 0 134 0 [zR 8 1, zR 10 v1, zR 10 v2] [] p (hoI p (v8_comesBefore p v1 v2)) := r8_comesBefore p hg v10_isBetter g10_isBetter ok146
def CC134 (F : PM → Nat → Nat → Int32) (G : PM → Nat → Nat → Prop) : Cal := (134, [11, 13, 13], 1, true, fun as p => (zI (F p (ar as 1) (ar as 2)), p), fun as p => zsw (tc2 as [(108, 1), (14, 0), (14, 0)]) False (G p (ar as 1) (ar as 2)))
set_option maxRecDepth 100000 in
theorem okr134 (F : PM → Nat → Nat → Int32) (G : PM → Nat → Nat → Prop) (h : ∀ (p : PM) (v1 : Nat) (v2 : Nat), Gr 0 p → G p v1 v2 → ZJ 0 134 0 [zR 8 1, zR 10 v1, zR 10 v2] [] p (hoI p (F p v1 v2))) : CalOK 0 (CC134 F G) := cal_ok (m := 3) (by unfold mL; rw [mX_134]) (fun as p hg H => h p (ar as 1) (ar as 2) hg H)
theorem ok134 : CalOK 0 (CC134 v8_comesBefore g8_comesBefore) := okr134 v8_comesBefore g8_comesBefore (fun p v1 v2 hg H => t8_comesBefore p hg v1 v2 H)
noncomputable def bv8_firstAt_20 (p : PM) (F134 : PM → Nat → Nat → Int32) (F144 : PM → Nat → Nat → Int32 → Int32) (F145 : PM → Nat → Int32 → Int32) (kv20 : Nat → Int32 → Int32 → Nat → Int32 → Nat) (v1 : Nat) (v2 : Int32) (v3 : Int32) (v4 : Nat) (v7 : Int32) : Nat :=
  if v7 < (cn 40) then (
    if (F144 p ((v7).toNatClampNeg + 1) v1 v2) = 0 then (
      kv20 v1 v2 v3 v4 (v7 + (cn 1)))
    else (
      if (F145 p ((v7).toNatClampNeg + 1) v3) = 0 then (
        kv20 v1 v2 v3 v4 (v7 + (cn 1)))
      else (
        if v4 = 0 then (
          kv20 v1 v2 v3 ((v7).toNatClampNeg + 1) (v7 + (cn 1)))
        else (
          if (F134 p ((v7).toNatClampNeg + 1) v4) = 0 then (
            kv20 v1 v2 v3 v4 (v7 + (cn 1)))
          else (
            kv20 v1 v2 v3 ((v7).toNatClampNeg + 1) (v7 + (cn 1)))))))
  else (
    v4)
noncomputable def v8_firstAt_20 (p : PM) (n : Nat) : Nat → Int32 → Int32 → Nat → Int32 → Nat := Nat.rec (motive := fun _ => Nat → Int32 → Int32 → Nat → Int32 → Nat) (fun _ _ _ _ _ => 0) (fun _ ih => bv8_firstAt_20 p v8_comesBefore v10_standsIn v10_allows ih) n
theorem ev8_firstAt_20 (p : PM) (n : Nat) (v1 : Nat) (v2 : Int32) (v3 : Int32) (v4 : Nat) (v7 : Int32) : v8_firstAt_20 p (n + 1) v1 v2 v3 v4 v7 = bv8_firstAt_20 p v8_comesBefore v10_standsIn v10_allows (v8_firstAt_20 p n) v1 v2 v3 v4 v7 := rfl
noncomputable def bg8_firstAt_20 (p : PM) (F134 : PM → Nat → Nat → Int32) (G134 : PM → Nat → Nat → Prop) (F144 : PM → Nat → Nat → Int32 → Int32) (G144 : PM → Nat → Nat → Int32 → Prop) (F145 : PM → Nat → Int32 → Int32) (G145 : PM → Nat → Int32 → Prop) (kg20 : Nat → Int32 → Int32 → Nat → Int32 → Prop) (v1 : Nat) (v2 : Int32) (v3 : Int32) (v4 : Nat) (v7 : Int32) : Prop :=
  if v7 < (cn 40) then (
    (inb v7 40) ∧ (
    (G144 p ((v7).toNatClampNeg + 1) v1 v2) ∧ (
    if (F144 p ((v7).toNatClampNeg + 1) v1 v2) = 0 then (
      kg20 v1 v2 v3 v4 (v7 + (cn 1)))
    else (
      (G145 p ((v7).toNatClampNeg + 1) v3) ∧ (
      if (F145 p ((v7).toNatClampNeg + 1) v3) = 0 then (
        kg20 v1 v2 v3 v4 (v7 + (cn 1)))
      else (
        if v4 = 0 then (
          kg20 v1 v2 v3 ((v7).toNatClampNeg + 1) (v7 + (cn 1)))
        else (
          (G134 p ((v7).toNatClampNeg + 1) v4) ∧ (
          if (F134 p ((v7).toNatClampNeg + 1) v4) = 0 then (
            kg20 v1 v2 v3 v4 (v7 + (cn 1)))
          else (
            kg20 v1 v2 v3 ((v7).toNatClampNeg + 1) (v7 + (cn 1)))))))))))
  else (
    True)
noncomputable def g8_firstAt_20 (p : PM) (n : Nat) : Nat → Int32 → Int32 → Nat → Int32 → Prop := Nat.rec (motive := fun _ => Nat → Int32 → Int32 → Nat → Int32 → Prop) (fun _ _ _ _ _ => False) (fun _ ih => bg8_firstAt_20 p v8_comesBefore g8_comesBefore v10_standsIn g10_standsIn v10_allows g10_allows ih) n
theorem eg8_firstAt_20 (p : PM) (n : Nat) (v1 : Nat) (v2 : Int32) (v3 : Int32) (v4 : Nat) (v7 : Int32) : g8_firstAt_20 p (n + 1) v1 v2 v3 v4 v7 = bg8_firstAt_20 p v8_comesBefore g8_comesBefore v10_standsIn g10_standsIn v10_allows g10_allows (g8_firstAt_20 p n) v1 v2 v3 v4 v7 := rfl
noncomputable def bv8_firstAt (p : PM) (kv20 : Nat → Int32 → Int32 → Nat → Int32 → Nat) (v1 : Nat) (v2 : Int32) (v3 : Int32) : Nat :=
  kv20 v1 v2 v3 0 (cn 0)
noncomputable def v8_firstAt (p : PM) (v1 : Nat) (v2 : Int32) (v3 : Int32) : Nat := bv8_firstAt p (v8_firstAt_20 p FU) v1 v2 v3
noncomputable def bg8_firstAt (p : PM) (kg20 : Nat → Int32 → Int32 → Nat → Int32 → Prop) (v1 : Nat) (v2 : Int32) (v3 : Int32) : Prop :=
  kg20 v1 v2 v3 0 (cn 0)
noncomputable def g8_firstAt (p : PM) (v1 : Nat) (v2 : Int32) (v3 : Int32) : Prop := bg8_firstAt p (g8_firstAt_20 p FU) v1 v2 v3
def R133 : List Row := [(0, .aconst_null, 1, 0, (10, 0, 0, 0, 0, 0)), (1, .astore 4, 2, 0, (0, 0, 0, 0, 0, 0)), (3, .aload_n 0, 1, 0, (0, 0, 0, 0, 0, 0)), (4, .getfield 21, 3, 0, (8, 0, 9, 2, 1, 0)), (7, .getfield 29, 3, 0, (6, 1, 23, 2, 1, 0)), (10, .astore 5, 2, 0, (0, 0, 0, 0, 0, 0)), (12, .aload 5, 2, 0, (0, 0, 0, 0, 0, 0)), (14, .arraylength, 1, 0, (20, 40, 0, 0, 0, 40)), (15, .istore 6, 2, 0, (0, 0, 0, 0, 0, 0)), (17, .iconst 0, 1, 0, (0, 0, 0, 0, 0, 0)), (18, .istore 7, 2, 0, (0, 0, 0, 0, 0, 0)), (20, .iload 7, 2, 1, (0, 0, 0, 0, 0, 0)), (22, .iload 6, 2, 0, (0, 0, 0, 0, 0, 0)), (24, .if_icmp .ge 55, 3, 0, (0, 0, 0, 0, 0, 0)), (27, .aload 5, 2, 0, (0, 0, 0, 0, 0, 0)), (29, .iload 7, 2, 0, (0, 0, 0, 0, 0, 0)), (31, .aaload, 1, 0, (20, 40, 0, 1, 1, 0)), (32, .astore 8, 2, 0, (0, 0, 0, 0, 0, 0)), (34, .aload 8, 2, 0, (0, 0, 0, 0, 0, 0)), (36, .aload_n 1, 1, 0, (0, 0, 0, 0, 0, 0)), (37, .iload_n 2, 1, 0, (0, 0, 0, 0, 0, 0)), (38, .invokevirtual 42, 3, 0, (0, 3, 0, 0, 1, 0)), (41, .ifCond .eq 32, 3, 0, (0, 0, 0, 0, 0, 0)), (44, .aload 8, 2, 0, (0, 0, 0, 0, 0, 0)), (46, .iload_n 3, 1, 0, (0, 0, 0, 0, 0, 0)), (47, .invokevirtual 59, 3, 0, (1, 2, 0, 0, 1, 0)), (50, .ifCond .eq 23, 3, 0, (0, 0, 0, 0, 0, 0)), (53, .aload 4, 2, 0, (0, 0, 0, 0, 0, 0)), (55, .ifnull 14, 3, 0, (0, 0, 0, 0, 0, 0)), (58, .aload_n 0, 1, 0, (0, 0, 0, 0, 0, 0)), (59, .aload 8, 2, 0, (0, 0, 0, 0, 0, 0)), (61, .aload 4, 2, 0, (0, 0, 0, 0, 0, 0)), (63, .invokevirtual 187, 3, 0, (2, 3, 0, 0, 1, 0)), (66, .ifCond .eq 7, 3, 0, (0, 0, 0, 0, 0, 0)), (69, .aload 8, 2, 0, (0, 0, 0, 0, 0, 0)), (71, .astore 4, 2, 0, (0, 0, 0, 0, 0, 0)), (73, .iinc 7 1, 3, 0, (0, 0, 0, 0, 0, 1)), (76, .goto (-56), 3, 0, (0, 0, 0, 0, 0, 0)), (79, .aload 4, 2, 0, (0, 0, 0, 0, 0, 0)), (81, .areturn, 1, 0, (10, 0, 0, 0, 0, 0))]
set_option maxRecDepth 100000 in
theorem rk133 : R133.all (rok 0 133 (3 + 10) [(144, [13, 4, 0]), (145, [13, 0]), (134, [11, 13, 13])]) = true := by decide +kernel
set_option maxRecDepth 100000 in
theorem tab133 {F144 : PM → Nat → Nat → Int32 → Int32} {G144 : PM → Nat → Nat → Int32 → Prop} {F145 : PM → Nat → Int32 → Int32} {G145 : PM → Nat → Int32 → Prop} {F134 : PM → Nat → Nat → Int32} {G134 : PM → Nat → Nat → Prop} : TabOK 0 133 (3 + 10) [CC144 F144 G144, CC145 F145 G145, CC134 F134 G134] R133 := tab_ok (K := K133) rfl rfl (fun h => d133 h) rk133 (by decide +kernel)
set_option maxRecDepth 100000 in
theorem pc133 : cutpc [20] R133 = true := by decide +kernel
set_option maxRecDepth 100000 in
theorem r8_firstAt_20 (p : PM) (hg : Gr 0 p) (F144 : PM → Nat → Nat → Int32 → Int32) (G144 : PM → Nat → Nat → Int32 → Prop) (o144 : CalOK 0 (CC144 F144 G144)) (F145 : PM → Nat → Int32 → Int32) (G145 : PM → Nat → Int32 → Prop) (o145 : CalOK 0 (CC145 F145 G145)) (F134 : PM → Nat → Nat → Int32) (G134 : PM → Nat → Nat → Prop) (o134 : CalOK 0 (CC134 F134 G134)) (kv20 : Nat → Int32 → Int32 → Nat → Int32 → Nat) (kg20 : Nat → Int32 → Int32 → Nat → Int32 → Prop) (hk20 : ∀ (v1 : Nat) (v2 : Int32) (v3 : Int32) (v4 : Nat) (v7 : Int32) (d8 : ZV), kg20 v1 v2 v3 v4 v7 → ZJ 0 133 20 [zR 8 1, zR 1 v1, zI v2, zI v3, zR 10 v4, zR 20 1, zC 40, zI v7, d8] [] p (hoR 10 p (kv20 v1 v2 v3 v4 v7))) : ∀ (v1 : Nat) (v2 : Int32) (v3 : Int32) (v4 : Nat) (v7 : Int32) (d8 : ZV), bg8_firstAt_20 p F134 G134 F144 G144 F145 G145 kg20 v1 v2 v3 v4 v7 → ZJ 0 133 20 [zR 8 1, zR 1 v1, zI v2, zI v3, zR 10 v4, zR 20 1, zC 40, zI v7, d8] [] p (hoR 10 p (bv8_firstAt_20 p F134 F144 F145 kv20 v1 v2 v3 v4 v7)) := by
  intro v1 v2 v3 v4 v7 d8 H
  exact roR 10 (n := 3000) (q := 20) (la := [zR 8 1, zR 1 v1, zI v2, zI v3, zR 10 v4, zR 20 1, zC 40, zI v7, d8]) (sa := []) (ks := [fun la sa _ => kv20 (ar la 1) (ai la 2) (ai la 3) (ar la 4) (ai la 7)]) (gs := [fun la sa _ => zsw (tc2 la [(108, 1), (5, 0), (0, 0), (0, 0), (14, 0), (120, 1), (3, 40), (0, 0), (2, 0)] && tc2 sa []) False (kg20 (ar la 1) (ai la 2) (ai la 3) (ar la 4) (ai la 7))]) (fcons o144 (fcons o145 (fcons o134 (fnil)))) tab133 pc133 ⟨fun la sa s hg H => zcut H fun H => hk20 (ar la 1) (ai la 2) (ai la 3) (ar la 4) (ai la 7) (zld la 8) H, trivial⟩ hg H
theorem t8_firstAt_20 (p : PM) (hg : Gr 0 p) : ∀ (n : Nat), ∀ (v1 : Nat) (v2 : Int32) (v3 : Int32) (v4 : Nat) (v7 : Int32) (d8 : ZV), g8_firstAt_20 p n v1 v2 v3 v4 v7 → ZJ 0 133 20 [zR 8 1, zR 1 v1, zI v2, zI v3, zR 10 v4, zR 20 1, zC 40, zI v7, d8] [] p (hoR 10 p (v8_firstAt_20 p n v1 v2 v3 v4 v7)) := by
  intro n
  induction n with
  | zero =>
    intro v1 v2 v3 v4 v7 d8 H
    exact H.elim
  | succ n ih => exact r8_firstAt_20 p hg v10_standsIn g10_standsIn ok144 v10_allows g10_allows ok145 v8_comesBefore g8_comesBefore ok134 (v8_firstAt_20 p n) (g8_firstAt_20 p n) ih
set_option maxRecDepth 100000 in
theorem r8_firstAt (p : PM) (hg : Gr 0 p) (F144 : PM → Nat → Nat → Int32 → Int32) (G144 : PM → Nat → Nat → Int32 → Prop) (o144 : CalOK 0 (CC144 F144 G144)) (F145 : PM → Nat → Int32 → Int32) (G145 : PM → Nat → Int32 → Prop) (o145 : CalOK 0 (CC145 F145 G145)) (F134 : PM → Nat → Nat → Int32) (G134 : PM → Nat → Nat → Prop) (o134 : CalOK 0 (CC134 F134 G134)) (kv20 : Nat → Int32 → Int32 → Nat → Int32 → Nat) (kg20 : Nat → Int32 → Int32 → Nat → Int32 → Prop) (hk20 : ∀ (v1 : Nat) (v2 : Int32) (v3 : Int32) (v4 : Nat) (v7 : Int32) (d8 : ZV), kg20 v1 v2 v3 v4 v7 → ZJ 0 133 20 [zR 8 1, zR 1 v1, zI v2, zI v3, zR 10 v4, zR 20 1, zC 40, zI v7, d8] [] p (hoR 10 p (kv20 v1 v2 v3 v4 v7))) : ∀ (v1 : Nat) (v2 : Int32) (v3 : Int32), bg8_firstAt p kg20 v1 v2 v3 → ZJ 0 133 0 [zR 8 1, zR 1 v1, zI v2, zI v3, zJ, zJ, zJ, zJ, zJ] [] p (hoR 10 p (bv8_firstAt p kv20 v1 v2 v3)) := by
  intro v1 v2 v3  H
  exact roR 10 (n := 3000) (q := 0) (la := [zR 8 1, zR 1 v1, zI v2, zI v3, zJ, zJ, zJ, zJ, zJ]) (sa := []) (ks := [fun la sa _ => kv20 (ar la 1) (ai la 2) (ai la 3) (ar la 4) (ai la 7)]) (gs := [fun la sa _ => zsw (tc2 la [(108, 1), (5, 0), (0, 0), (0, 0), (14, 0), (120, 1), (3, 40), (0, 0), (2, 0)] && tc2 sa []) False (kg20 (ar la 1) (ai la 2) (ai la 3) (ar la 4) (ai la 7))]) (fcons o144 (fcons o145 (fcons o134 (fnil)))) tab133 pc133 ⟨fun la sa s hg H => zcut H fun H => hk20 (ar la 1) (ai la 2) (ai la 3) (ar la 4) (ai la 7) (zld la 8) H, trivial⟩ hg H
theorem t8_firstAt (p : PM) (hg : Gr 0 p) : ∀ (v1 : Nat) (v2 : Int32) (v3 : Int32), g8_firstAt p v1 v2 v3 → ZJ 0 133 0 [zR 8 1, zR 1 v1, zI v2, zI v3, zJ, zJ, zJ, zJ, zJ] [] p (hoR 10 p (v8_firstAt p v1 v2 v3)) := r8_firstAt p hg v10_standsIn g10_standsIn ok144 v10_allows g10_allows ok145 v8_comesBefore g8_comesBefore ok134 (v8_firstAt_20 p FU) (g8_firstAt_20 p FU) (t8_firstAt_20 p hg FU)
def CC133 (F : PM → Nat → Int32 → Int32 → Nat) (G : PM → Nat → Int32 → Int32 → Prop) : Cal := (133, [11, 4, 0, 0], (3 + 10), true, fun as p => (zR 10 (F p (ar as 1) (ai as 2) (ai as 3)), p), fun as p => zsw (tc2 as [(108, 1), (5, 0), (0, 0), (0, 0)]) False (G p (ar as 1) (ai as 2) (ai as 3)))
set_option maxRecDepth 100000 in
theorem okr133 (F : PM → Nat → Int32 → Int32 → Nat) (G : PM → Nat → Int32 → Int32 → Prop) (h : ∀ (p : PM) (v1 : Nat) (v2 : Int32) (v3 : Int32), Gr 0 p → G p v1 v2 v3 → ZJ 0 133 0 [zR 8 1, zR 1 v1, zI v2, zI v3, zJ, zJ, zJ, zJ, zJ] [] p (hoR 10 p (F p v1 v2 v3))) : CalOK 0 (CC133 F G) := cal_ok (m := 9) (by unfold mL; rw [mX_133]) (fun as p hg H => h p (ar as 1) (ai as 2) (ai as 3) hg H)
theorem ok133 : CalOK 0 (CC133 v8_firstAt g8_firstAt) := okr133 v8_firstAt g8_firstAt (fun p v1 v2 v3 hg H => t8_firstAt p hg v1 v2 v3 H)
noncomputable def bv8_tradeAll_2 (F130 : PM → Nat → Nat → Int32 → Int32 → PM) (F133 : PM → Nat → Int32 → Int32 → Nat) (F377 : PM → Int32 → Int32 → Int32) (kv2 : PM → Nat → Int32 → Int32 → PM) (p : PM) (v1 : Nat) (v2 : Int32) (v3 : Int32) : PM :=
  if v3 < (cn 1000000) then (
    let x1 : Nat := (F133 p v1 (cn 1) v2)
    let x2 : Nat := (F133 p v1 (cn 0) v2)
    if x1 = 0 then (
      p)
    else (
      if x2 = 0 then (
        p)
      else (
        let p3 : PM := F130 p x1 x2 v2 (F377 p (p.1 10 x1 9) (p.1 10 x2 9))
        kv2 p3 v1 v2 (v3 + (cn 1)))))
  else (
    p)
noncomputable def v8_tradeAll_2 (n : Nat) : PM → Nat → Int32 → Int32 → PM := Nat.rec (motive := fun _ => PM → Nat → Int32 → Int32 → PM) (fun p _ _ _ => p) (fun _ ih => bv8_tradeAll_2 v8_strike v8_firstAt v14_min_7cf53 ih) n
theorem ev8_tradeAll_2 (n : Nat) (p : PM) (v1 : Nat) (v2 : Int32) (v3 : Int32) : v8_tradeAll_2 (n + 1) p v1 v2 v3 = bv8_tradeAll_2 v8_strike v8_firstAt v14_min_7cf53 (v8_tradeAll_2 n) p v1 v2 v3 := rfl
noncomputable def bg8_tradeAll_2 (F130 : PM → Nat → Nat → Int32 → Int32 → PM) (G130 : PM → Nat → Nat → Int32 → Int32 → Prop) (F133 : PM → Nat → Int32 → Int32 → Nat) (G133 : PM → Nat → Int32 → Int32 → Prop) (F377 : PM → Int32 → Int32 → Int32) (G377 : PM → Int32 → Int32 → Prop) (kg2 : PM → Nat → Int32 → Int32 → Prop) (p : PM) (v1 : Nat) (v2 : Int32) (v3 : Int32) : Prop :=
  if v3 < (cn 1000000) then (
    (G133 p v1 (cn 1) v2) ∧ (
    let x1 : Nat := (F133 p v1 (cn 1) v2)
    (G133 p v1 (cn 0) v2) ∧ (
    let x2 : Nat := (F133 p v1 (cn 0) v2)
    if x1 = 0 then (
      True)
    else (
      if x2 = 0 then (
        True)
      else (
        (¬ x1 = 0) ∧ (
        (¬ x2 = 0) ∧ (
        (G377 p (p.1 10 x1 9) (p.1 10 x2 9)) ∧ (
        (G130 p x1 x2 v2 (F377 p (p.1 10 x1 9) (p.1 10 x2 9))) ∧ (
        let p3 : PM := F130 p x1 x2 v2 (F377 p (p.1 10 x1 9) (p.1 10 x2 9))
        kg2 p3 v1 v2 (v3 + (cn 1)))))))))))
  else (
    True)
noncomputable def g8_tradeAll_2 (n : Nat) : PM → Nat → Int32 → Int32 → Prop := Nat.rec (motive := fun _ => PM → Nat → Int32 → Int32 → Prop) (fun _ _ _ _ => False) (fun _ ih => bg8_tradeAll_2 v8_strike g8_strike v8_firstAt g8_firstAt v14_min_7cf53 g14_min_7cf53 ih) n
theorem eg8_tradeAll_2 (n : Nat) (p : PM) (v1 : Nat) (v2 : Int32) (v3 : Int32) : g8_tradeAll_2 (n + 1) p v1 v2 v3 = bg8_tradeAll_2 v8_strike g8_strike v8_firstAt g8_firstAt v14_min_7cf53 g14_min_7cf53 (g8_tradeAll_2 n) p v1 v2 v3 := rfl
noncomputable def bv8_tradeAll (kv2 : PM → Nat → Int32 → Int32 → PM) (p : PM) (v1 : Nat) (v2 : Int32) : PM :=
  kv2 p v1 v2 (cn 0)
noncomputable def v8_tradeAll (p : PM) (v1 : Nat) (v2 : Int32) : PM := bv8_tradeAll (v8_tradeAll_2 FU) p v1 v2
noncomputable def bg8_tradeAll (kg2 : PM → Nat → Int32 → Int32 → Prop) (p : PM) (v1 : Nat) (v2 : Int32) : Prop :=
  kg2 p v1 v2 (cn 0)
noncomputable def g8_tradeAll (p : PM) (v1 : Nat) (v2 : Int32) : Prop := bg8_tradeAll (g8_tradeAll_2 FU) p v1 v2
def R132 : List Row := [(0, .iconst 0, 1, 0, (0, 0, 0, 0, 0, 0)), (1, .istore_n 3, 1, 0, (0, 0, 0, 0, 0, 0)), (2, .iload_n 3, 1, 1, (0, 0, 0, 0, 0, 0)), (3, .ldc 71, 2, 0, (0, 0, 0, 0, 0, 1000000)), (5, .if_icmp .ge 60, 3, 0, (0, 0, 0, 0, 0, 0)), (8, .aload_n 0, 1, 0, (0, 0, 0, 0, 0, 0)), (9, .aload_n 1, 1, 0, (0, 0, 0, 0, 0, 0)), (10, .iconst 1, 1, 0, (0, 0, 0, 0, 0, 1)), (11, .iload_n 2, 1, 0, (0, 0, 0, 0, 0, 0)), (12, .invokevirtual 183, 3, 0, (0, 4, 0, 0, 1, 0)), (15, .astore 4, 2, 0, (0, 0, 0, 0, 0, 0)), (17, .aload_n 0, 1, 0, (0, 0, 0, 0, 0, 0)), (18, .aload_n 1, 1, 0, (0, 0, 0, 0, 0, 0)), (19, .iconst 0, 1, 0, (0, 0, 0, 0, 0, 0)), (20, .iload_n 2, 1, 0, (0, 0, 0, 0, 0, 0)), (21, .invokevirtual 183, 3, 0, (0, 4, 0, 0, 1, 0)), (24, .astore 5, 2, 0, (0, 0, 0, 0, 0, 0)), (26, .aload 4, 2, 0, (0, 0, 0, 0, 0, 0)), (28, .ifnull 8, 3, 0, (0, 0, 0, 0, 0, 0)), (31, .aload 5, 2, 0, (0, 0, 0, 0, 0, 0)), (33, .ifnonnull 4, 3, 0, (0, 0, 0, 0, 0, 0)), (36, .return_, 1, 0, (0, 0, 0, 0, 0, 0)), (37, .aload_n 0, 1, 0, (0, 0, 0, 0, 0, 0)), (38, .aload 4, 2, 0, (0, 0, 0, 0, 0, 0)), (40, .aload 5, 2, 0, (0, 0, 0, 0, 0, 0)), (42, .iload_n 2, 1, 0, (0, 0, 0, 0, 0, 0)), (43, .aload 4, 2, 0, (0, 0, 0, 0, 0, 0)), (45, .getfield 68, 3, 0, (10, 9, 0, 0, 0, 0)), (48, .aload 5, 2, 0, (0, 0, 0, 0, 0, 0)), (50, .getfield 68, 3, 0, (10, 9, 0, 0, 0, 0)), (53, .invokestatic 128, 3, 0, (1, 2, 0, 0, 0, 0)), (56, .invokevirtual 99, 3, 0, (2, 5, 0, 0, 1, 0)), (59, .iinc 3 1, 3, 0, (0, 0, 0, 0, 0, 1)), (62, .goto (-60), 3, 0, (0, 0, 0, 0, 0, 0)), (65, .return_, 1, 0, (0, 0, 0, 0, 0, 0))]
set_option maxRecDepth 100000 in
theorem rk132 : R132.all (rok 0 132 0 [(133, [11, 4, 0, 0]), (377, [0, 0]), (130, [11, 13, 13, 0, 0])]) = true := by decide +kernel
set_option maxRecDepth 100000 in
theorem tab132 {F133 : PM → Nat → Int32 → Int32 → Nat} {G133 : PM → Nat → Int32 → Int32 → Prop} {F377 : PM → Int32 → Int32 → Int32} {G377 : PM → Int32 → Int32 → Prop} {F130 : PM → Nat → Nat → Int32 → Int32 → PM} {G130 : PM → Nat → Nat → Int32 → Int32 → Prop} : TabOK 0 132 0 [CC133 F133 G133, CC377 F377 G377, CC130 F130 G130] R132 := tab_ok (K := K132) rfl rfl (fun h => d132 h) rk132 (by decide +kernel)
set_option maxRecDepth 100000 in
theorem pc132 : cutpc [2] R132 = true := by decide +kernel
set_option maxRecDepth 100000 in
theorem r8_tradeAll_2 (F133 : PM → Nat → Int32 → Int32 → Nat) (G133 : PM → Nat → Int32 → Int32 → Prop) (o133 : CalOK 0 (CC133 F133 G133)) (F377 : PM → Int32 → Int32 → Int32) (G377 : PM → Int32 → Int32 → Prop) (o377 : CalOK 0 (CC377 F377 G377)) (F130 : PM → Nat → Nat → Int32 → Int32 → PM) (G130 : PM → Nat → Nat → Int32 → Int32 → Prop) (o130 : CalOK 0 (CC130 F130 G130)) (kv2 : PM → Nat → Int32 → Int32 → PM) (kg2 : PM → Nat → Int32 → Int32 → Prop) (hk2 : ∀ (p : PM) (v1 : Nat) (v2 : Int32) (v3 : Int32) (d4 d5 : ZV), Gr 0 p → kg2 p v1 v2 v3 → ZJ 0 132 2 [zR 8 1, zR 1 v1, zI v2, zI v3, d4, d5] [] p (hwV (kv2 p v1 v2 v3))) : ∀ (p : PM) (v1 : Nat) (v2 : Int32) (v3 : Int32) (d4 d5 : ZV), Gr 0 p → bg8_tradeAll_2 F130 G130 F133 G133 F377 G377 kg2 p v1 v2 v3 → ZJ 0 132 2 [zR 8 1, zR 1 v1, zI v2, zI v3, d4, d5] [] p (hwV (bv8_tradeAll_2 F130 F133 F377 kv2 p v1 v2 v3)) := by
  intro p v1 v2 v3 d4 d5 hg H
  exact rwV (n := 3000) (q := 2) (la := [zR 8 1, zR 1 v1, zI v2, zI v3, d4, d5]) (sa := []) (ks := [fun la sa s => kv2 s (ar la 1) (ai la 2) (ai la 3)]) (gs := [fun la sa s => zsw (tc2 la [(108, 1), (5, 0), (0, 0), (0, 0), (2, 0), (2, 0)] && tc2 sa []) False (kg2 s (ar la 1) (ai la 2) (ai la 3))]) (fcons o133 (fcons o377 (fcons o130 (fnil)))) tab132 pc132 ⟨fun la sa s hg H => zcut H fun H => hk2 s (ar la 1) (ai la 2) (ai la 3) (zld la 4) (zld la 5) hg H, trivial⟩ hg H
theorem t8_tradeAll_2 : ∀ (n : Nat), ∀ (p : PM) (v1 : Nat) (v2 : Int32) (v3 : Int32) (d4 d5 : ZV), Gr 0 p → g8_tradeAll_2 n p v1 v2 v3 → ZJ 0 132 2 [zR 8 1, zR 1 v1, zI v2, zI v3, d4, d5] [] p (hwV (v8_tradeAll_2 n p v1 v2 v3)) := by
  intro n
  induction n with
  | zero =>
    intro p v1 v2 v3 d4 d5 hg H
    exact H.elim
  | succ n ih => exact r8_tradeAll_2 v8_firstAt g8_firstAt ok133 v14_min_7cf53 g14_min_7cf53 ok377 v8_strike g8_strike ok130 (v8_tradeAll_2 n) (g8_tradeAll_2 n) ih
set_option maxRecDepth 100000 in
theorem r8_tradeAll (F133 : PM → Nat → Int32 → Int32 → Nat) (G133 : PM → Nat → Int32 → Int32 → Prop) (o133 : CalOK 0 (CC133 F133 G133)) (F377 : PM → Int32 → Int32 → Int32) (G377 : PM → Int32 → Int32 → Prop) (o377 : CalOK 0 (CC377 F377 G377)) (F130 : PM → Nat → Nat → Int32 → Int32 → PM) (G130 : PM → Nat → Nat → Int32 → Int32 → Prop) (o130 : CalOK 0 (CC130 F130 G130)) (kv2 : PM → Nat → Int32 → Int32 → PM) (kg2 : PM → Nat → Int32 → Int32 → Prop) (hk2 : ∀ (p : PM) (v1 : Nat) (v2 : Int32) (v3 : Int32) (d4 d5 : ZV), Gr 0 p → kg2 p v1 v2 v3 → ZJ 0 132 2 [zR 8 1, zR 1 v1, zI v2, zI v3, d4, d5] [] p (hwV (kv2 p v1 v2 v3))) : ∀ (p : PM) (v1 : Nat) (v2 : Int32), Gr 0 p → bg8_tradeAll kg2 p v1 v2 → ZJ 0 132 0 [zR 8 1, zR 1 v1, zI v2, zJ, zJ, zJ] [] p (hwV (bv8_tradeAll kv2 p v1 v2)) := by
  intro p v1 v2  hg H
  exact rwV (n := 3000) (q := 0) (la := [zR 8 1, zR 1 v1, zI v2, zJ, zJ, zJ]) (sa := []) (ks := [fun la sa s => kv2 s (ar la 1) (ai la 2) (ai la 3)]) (gs := [fun la sa s => zsw (tc2 la [(108, 1), (5, 0), (0, 0), (0, 0), (2, 0), (2, 0)] && tc2 sa []) False (kg2 s (ar la 1) (ai la 2) (ai la 3))]) (fcons o133 (fcons o377 (fcons o130 (fnil)))) tab132 pc132 ⟨fun la sa s hg H => zcut H fun H => hk2 s (ar la 1) (ai la 2) (ai la 3) (zld la 4) (zld la 5) hg H, trivial⟩ hg H
theorem t8_tradeAll : ∀ (p : PM) (v1 : Nat) (v2 : Int32), Gr 0 p → g8_tradeAll p v1 v2 → ZJ 0 132 0 [zR 8 1, zR 1 v1, zI v2, zJ, zJ, zJ] [] p (hwV (v8_tradeAll p v1 v2)) := r8_tradeAll v8_firstAt g8_firstAt ok133 v14_min_7cf53 g14_min_7cf53 ok377 v8_strike g8_strike ok130 (v8_tradeAll_2 FU) (g8_tradeAll_2 FU) (t8_tradeAll_2 FU)
def CC132 (F : PM → Nat → Int32 → PM) (G : PM → Nat → Int32 → Prop) : Cal := (132, [11, 4, 0], 0, false, fun as p => (zJ, (F p (ar as 1) (ai as 2))), fun as p => zsw (tc2 as [(108, 1), (5, 0), (0, 0)]) False (G p (ar as 1) (ai as 2)))
set_option maxRecDepth 100000 in
theorem okr132 (F : PM → Nat → Int32 → PM) (G : PM → Nat → Int32 → Prop) (h : ∀ (p : PM) (v1 : Nat) (v2 : Int32), Gr 0 p → G p v1 v2 → ZJ 0 132 0 [zR 8 1, zR 1 v1, zI v2, zJ, zJ, zJ] [] p (hwV (F p v1 v2))) : CalOK 0 (CC132 F G) := cal_ok (m := 6) (by unfold mL; rw [mX_132]) (fun as p hg H => h p (ar as 1) (ai as 2) hg H)
theorem ok132 : CalOK 0 (CC132 v8_tradeAll g8_tradeAll) := okr132 v8_tradeAll g8_tradeAll t8_tradeAll
noncomputable def bv6_openBook_16 (F150 : PM → Nat → Int32) (kv16 : PM → Nat → Int32 → PM) (p : PM) (v1 : Nat) (v4 : Int32) : PM :=
  if v4 < (cn 40) then (
    if (p.1 10 ((v4).toNatClampNeg + 1) 2) = (cn 1) then (
      if (p.2.2 10 ((v4).toNatClampNeg + 1) 4) = v1 then (
        if (p.1 10 ((v4).toNatClampNeg + 1) 6) = (cn (-100000)) then (
          let p2 : PM := pI p 10 ((v4).toNatClampNeg + 1) 2 (cn 0)
          let p3 : PM := pI p2 10 ((v4).toNatClampNeg + 1) 11 (F150 p2 ((v4).toNatClampNeg + 1))
          kv16 p3 v1 (v4 + (cn 1)))
        else (
          let p1 : PM := pI p 10 ((v4).toNatClampNeg + 1) 11 (F150 p ((v4).toNatClampNeg + 1))
          kv16 p1 v1 (v4 + (cn 1))))
      else (
        kv16 p v1 (v4 + (cn 1))))
    else (
      kv16 p v1 (v4 + (cn 1))))
  else (
    p)
noncomputable def v6_openBook_16 (n : Nat) : PM → Nat → Int32 → PM := Nat.rec (motive := fun _ => PM → Nat → Int32 → PM) (fun p _ _ => p) (fun _ ih => bv6_openBook_16 v10_showable ih) n
theorem ev6_openBook_16 (n : Nat) (p : PM) (v1 : Nat) (v4 : Int32) : v6_openBook_16 (n + 1) p v1 v4 = bv6_openBook_16 v10_showable (v6_openBook_16 n) p v1 v4 := rfl
noncomputable def bg6_openBook_16 (F150 : PM → Nat → Int32) (G150 : PM → Nat → Prop) (kg16 : PM → Nat → Int32 → Prop) (p : PM) (v1 : Nat) (v4 : Int32) : Prop :=
  if v4 < (cn 40) then (
    (inb v4 40) ∧ (
    if (p.1 10 ((v4).toNatClampNeg + 1) 2) = (cn 1) then (
      if (p.2.2 10 ((v4).toNatClampNeg + 1) 4) = v1 then (
        if (p.1 10 ((v4).toNatClampNeg + 1) 6) = (cn (-100000)) then (
          let p2 : PM := pI p 10 ((v4).toNatClampNeg + 1) 2 (cn 0)
          (G150 p2 ((v4).toNatClampNeg + 1)) ∧ (
          let p3 : PM := pI p2 10 ((v4).toNatClampNeg + 1) 11 (F150 p2 ((v4).toNatClampNeg + 1))
          kg16 p3 v1 (v4 + (cn 1))))
        else (
          (G150 p ((v4).toNatClampNeg + 1)) ∧ (
          let p1 : PM := pI p 10 ((v4).toNatClampNeg + 1) 11 (F150 p ((v4).toNatClampNeg + 1))
          kg16 p1 v1 (v4 + (cn 1)))))
      else (
        kg16 p v1 (v4 + (cn 1))))
    else (
      kg16 p v1 (v4 + (cn 1)))))
  else (
    True)
noncomputable def g6_openBook_16 (n : Nat) : PM → Nat → Int32 → Prop := Nat.rec (motive := fun _ => PM → Nat → Int32 → Prop) (fun _ _ _ => False) (fun _ ih => bg6_openBook_16 v10_showable g10_showable ih) n
theorem eg6_openBook_16 (n : Nat) (p : PM) (v1 : Nat) (v4 : Int32) : g6_openBook_16 (n + 1) p v1 v4 = bg6_openBook_16 v10_showable g10_showable (g6_openBook_16 n) p v1 v4 := rfl
noncomputable def bv6_openBook (kv16 : PM → Nat → Int32 → PM) (p : PM) (v1 : Nat) : PM :=
  let p1 : PM := pI p 1 v1 5 (cn 0)
  kv16 p1 v1 (cn 0)
noncomputable def v6_openBook (p : PM) (v1 : Nat) : PM := bv6_openBook (v6_openBook_16 FU) p v1
noncomputable def bg6_openBook (kg16 : PM → Nat → Int32 → Prop) (p : PM) (v1 : Nat) : Prop :=
  (¬ v1 = 0) ∧ (
  let p1 : PM := pI p 1 v1 5 (cn 0)
  kg16 p1 v1 (cn 0))
noncomputable def g6_openBook (p : PM) (v1 : Nat) : Prop := bg6_openBook (g6_openBook_16 FU) p v1
def R95 : List Row := [(0, .aload_n 1, 1, 0, (0, 0, 0, 0, 0, 0)), (1, .iconst 0, 1, 0, (0, 0, 0, 0, 0, 0)), (2, .putfield 154, 3, 0, (1, 5, 1, 0, 0, 0)), (5, .aload_n 0, 1, 0, (0, 0, 0, 0, 0, 0)), (6, .getfield 11, 3, 0, (6, 1, 23, 2, 1, 0)), (9, .astore_n 2, 1, 0, (0, 0, 0, 0, 0, 0)), (10, .aload_n 2, 1, 0, (0, 0, 0, 0, 0, 0)), (11, .arraylength, 1, 0, (20, 40, 0, 0, 0, 40)), (12, .istore_n 3, 1, 0, (0, 0, 0, 0, 0, 0)), (13, .iconst 0, 1, 0, (0, 0, 0, 0, 0, 0)), (14, .istore 4, 2, 0, (0, 0, 0, 0, 0, 0)), (16, .iload 4, 2, 1, (0, 0, 0, 0, 0, 0)), (18, .iload_n 3, 1, 0, (0, 0, 0, 0, 0, 0)), (19, .if_icmp .ge 59, 3, 0, (0, 0, 0, 0, 0, 0)), (22, .aload_n 2, 1, 0, (0, 0, 0, 0, 0, 0)), (23, .iload 4, 2, 0, (0, 0, 0, 0, 0, 0)), (25, .aaload, 1, 0, (20, 40, 0, 1, 1, 0)), (26, .astore 5, 2, 0, (0, 0, 0, 0, 0, 0)), (28, .aload 5, 2, 0, (0, 0, 0, 0, 0, 0)), (30, .getfield 29, 3, 0, (10, 2, 0, 1, 0, 0)), (33, .iconst 1, 1, 0, (0, 0, 0, 0, 0, 1)), (34, .if_icmp .ne 38, 3, 0, (0, 0, 0, 0, 0, 0)), (37, .aload 5, 2, 0, (0, 0, 0, 0, 0, 0)), (39, .getfield 130, 3, 0, (10, 4, 4, 1, 0, 0)), (42, .aload_n 1, 1, 0, (0, 0, 0, 0, 0, 0)), (43, .if_acmp .ne 29, 3, 0, (0, 0, 0, 0, 0, 0)), (46, .aload 5, 2, 0, (0, 0, 0, 0, 0, 0)), (48, .getfield 52, 3, 0, (10, 6, 0, 1, 0, 0)), (51, .ldc 71, 2, 0, (0, 0, 0, 0, 0, -100000)), (53, .if_icmp .ne 9, 3, 0, (0, 0, 0, 0, 0, 0)), (56, .aload 5, 2, 0, (0, 0, 0, 0, 0, 0)), (58, .iconst 0, 1, 0, (0, 0, 0, 0, 0, 0)), (59, .putfield 29, 3, 0, (10, 2, 0, 1, 0, 0)), (62, .aload 5, 2, 0, (0, 0, 0, 0, 0, 0)), (64, .aload 5, 2, 0, (0, 0, 0, 0, 0, 0)), (66, .invokevirtual 58, 3, 0, (0, 1, 0, 0, 1, 0)), (69, .putfield 62, 3, 0, (10, 11, 0, 1, 0, 0)), (72, .iinc 4 1, 3, 0, (0, 0, 0, 0, 0, 1)), (75, .goto (-59), 3, 0, (0, 0, 0, 0, 0, 0)), (78, .return_, 1, 0, (0, 0, 0, 0, 0, 0))]
set_option maxRecDepth 100000 in
theorem rk95 : R95.all (rok 0 95 0 [(150, [13])]) = true := by decide +kernel
set_option maxRecDepth 100000 in
theorem tab95 {F150 : PM → Nat → Int32} {G150 : PM → Nat → Prop} : TabOK 0 95 0 [CC150 F150 G150] R95 := tab_ok (K := K95) rfl rfl (fun h => d95 h) rk95 (by decide +kernel)
set_option maxRecDepth 100000 in
theorem pc95 : cutpc [16] R95 = true := by decide +kernel
set_option maxRecDepth 100000 in
theorem r6_openBook_16 (F150 : PM → Nat → Int32) (G150 : PM → Nat → Prop) (o150 : CalOK 0 (CC150 F150 G150)) (kv16 : PM → Nat → Int32 → PM) (kg16 : PM → Nat → Int32 → Prop) (hk16 : ∀ (p : PM) (v1 : Nat) (v4 : Int32) (d0 d5 : ZV), Gr 0 p → kg16 p v1 v4 → ZJ 0 95 16 [d0, zR 1 v1, zR 20 1, zC 40, zI v4, d5] [] p (hwV (kv16 p v1 v4))) : ∀ (p : PM) (v1 : Nat) (v4 : Int32) (d0 d5 : ZV), Gr 0 p → bg6_openBook_16 F150 G150 kg16 p v1 v4 → ZJ 0 95 16 [d0, zR 1 v1, zR 20 1, zC 40, zI v4, d5] [] p (hwV (bv6_openBook_16 F150 kv16 p v1 v4)) := by
  intro p v1 v4 d0 d5 hg H
  exact rwV (n := 3000) (q := 16) (la := [d0, zR 1 v1, zR 20 1, zC 40, zI v4, d5]) (sa := []) (ks := [fun la sa s => kv16 s (ar la 1) (ai la 4)]) (gs := [fun la sa s => zsw (tc2 la [(2, 0), (5, 0), (120, 1), (3, 40), (0, 0), (2, 0)] && tc2 sa []) False (kg16 s (ar la 1) (ai la 4))]) (fcons o150 (fnil)) tab95 pc95 ⟨fun la sa s hg H => zcut H fun H => hk16 s (ar la 1) (ai la 4) (zld la 0) (zld la 5) hg H, trivial⟩ hg H
theorem t6_openBook_16 : ∀ (n : Nat), ∀ (p : PM) (v1 : Nat) (v4 : Int32) (d0 d5 : ZV), Gr 0 p → g6_openBook_16 n p v1 v4 → ZJ 0 95 16 [d0, zR 1 v1, zR 20 1, zC 40, zI v4, d5] [] p (hwV (v6_openBook_16 n p v1 v4)) := by
  intro n
  induction n with
  | zero =>
    intro p v1 v4 d0 d5 hg H
    exact H.elim
  | succ n ih => exact r6_openBook_16 v10_showable g10_showable ok150 (v6_openBook_16 n) (g6_openBook_16 n) ih
set_option maxRecDepth 100000 in
theorem r6_openBook (F150 : PM → Nat → Int32) (G150 : PM → Nat → Prop) (o150 : CalOK 0 (CC150 F150 G150)) (kv16 : PM → Nat → Int32 → PM) (kg16 : PM → Nat → Int32 → Prop) (hk16 : ∀ (p : PM) (v1 : Nat) (v4 : Int32) (d0 d5 : ZV), Gr 0 p → kg16 p v1 v4 → ZJ 0 95 16 [d0, zR 1 v1, zR 20 1, zC 40, zI v4, d5] [] p (hwV (kv16 p v1 v4))) : ∀ (p : PM) (v1 : Nat), Gr 0 p → bg6_openBook kg16 p v1 → ZJ 0 95 0 [zR 6 1, zR 1 v1, zJ, zJ, zJ, zJ] [] p (hwV (bv6_openBook kv16 p v1)) := by
  intro p v1  hg H
  exact rwV (n := 3000) (q := 0) (la := [zR 6 1, zR 1 v1, zJ, zJ, zJ, zJ]) (sa := []) (ks := [fun la sa s => kv16 s (ar la 1) (ai la 4)]) (gs := [fun la sa s => zsw (tc2 la [(2, 0), (5, 0), (120, 1), (3, 40), (0, 0), (2, 0)] && tc2 sa []) False (kg16 s (ar la 1) (ai la 4))]) (fcons o150 (fnil)) tab95 pc95 ⟨fun la sa s hg H => zcut H fun H => hk16 s (ar la 1) (ai la 4) (zld la 0) (zld la 5) hg H, trivial⟩ hg H
theorem t6_openBook : ∀ (p : PM) (v1 : Nat), Gr 0 p → g6_openBook p v1 → ZJ 0 95 0 [zR 6 1, zR 1 v1, zJ, zJ, zJ, zJ] [] p (hwV (v6_openBook p v1)) := r6_openBook v10_showable g10_showable ok150 (v6_openBook_16 FU) (g6_openBook_16 FU) (t6_openBook_16 FU)
def CC95 (F : PM → Nat → PM) (G : PM → Nat → Prop) : Cal := (95, [9, 4], 0, false, fun as p => (zJ, (F p (ar as 1))), fun as p => zsw (tc2 as [(106, 1), (5, 0)]) False (G p (ar as 1)))
set_option maxRecDepth 100000 in
theorem okr95 (F : PM → Nat → PM) (G : PM → Nat → Prop) (h : ∀ (p : PM) (v1 : Nat), Gr 0 p → G p v1 → ZJ 0 95 0 [zR 6 1, zR 1 v1, zJ, zJ, zJ, zJ] [] p (hwV (F p v1))) : CalOK 0 (CC95 F G) := cal_ok (m := 6) (by unfold mL; rw [mX_95]) (fun as p hg H => h p (ar as 1) hg H)
theorem ok95 : CalOK 0 (CC95 v6_openBook g6_openBook) := okr95 v6_openBook g6_openBook t6_openBook
noncomputable def bv8_endAuction (F13 : PM → Nat → Int32 → Int32) (F95 : PM → Nat → PM) (F132 : PM → Nat → Int32 → PM) (F135 : PM → Nat → Int32) (p : PM) (v1 : Nat) : Int32 × PM :=
  if (F135 p v1) = (cn (-100000)) then (
    if (F135 p v1) = (cn (-100000)) then (
      let p1 : PM := F95 p v1
      ((cn 1), p1))
    else (
      let p2 : PM := F132 p v1 (F135 p v1)
      let p3 : PM := pI p2 1 v1 4 (F135 p v1)
      let p4 : PM := F95 p3 v1
      ((cn 1), p4)))
  else (
    if (F13 p v1 (F135 p v1)) = 0 then (
      if (F135 p v1) = (cn (-100000)) then (
        let p5 : PM := F95 p v1
        ((cn 1), p5))
      else (
        let p6 : PM := F132 p v1 (F135 p v1)
        let p7 : PM := pI p6 1 v1 4 (F135 p v1)
        let p8 : PM := F95 p7 v1
        ((cn 1), p8)))
    else (
      if (p.1 1 v1 6) = 0 then (
        let p13 : PM := pI p 1 v1 7 ((p.1 6 1 2) + (cn 5))
        let p14 : PM := pI p13 1 v1 6 (cn 1)
        ((cn 0), p14))
      else (
        if (F135 p v1) = (cn (-100000)) then (
          let p9 : PM := F95 p v1
          ((cn 1), p9))
        else (
          let p10 : PM := F132 p v1 (F135 p v1)
          let p11 : PM := pI p10 1 v1 4 (F135 p v1)
          let p12 : PM := F95 p11 v1
          ((cn 1), p12)))))
noncomputable def v8_endAuction (p : PM) (v1 : Nat) : Int32 × PM := bv8_endAuction v1_isBeyondBand v6_openBook v8_tradeAll v8_findPrice p v1
noncomputable def bg8_endAuction (F13 : PM → Nat → Int32 → Int32) (G13 : PM → Nat → Int32 → Prop) (F95 : PM → Nat → PM) (G95 : PM → Nat → Prop) (F132 : PM → Nat → Int32 → PM) (G132 : PM → Nat → Int32 → Prop) (F135 : PM → Nat → Int32) (G135 : PM → Nat → Prop) (p : PM) (v1 : Nat) : Prop :=
  (G135 p v1) ∧ (
  if (F135 p v1) = (cn (-100000)) then (
    if (F135 p v1) = (cn (-100000)) then (
      (G95 p v1) ∧ (
      let p1 : PM := F95 p v1
      True))
    else (
      (G132 p v1 (F135 p v1)) ∧ (
      let p2 : PM := F132 p v1 (F135 p v1)
      (¬ v1 = 0) ∧ (
      let p3 : PM := pI p2 1 v1 4 (F135 p v1)
      (G95 p3 v1) ∧ (
      let p4 : PM := F95 p3 v1
      True)))))
  else (
    (¬ v1 = 0) ∧ (
    (G13 p v1 (F135 p v1)) ∧ (
    if (F13 p v1 (F135 p v1)) = 0 then (
      if (F135 p v1) = (cn (-100000)) then (
        (G95 p v1) ∧ (
        let p5 : PM := F95 p v1
        True))
      else (
        (G132 p v1 (F135 p v1)) ∧ (
        let p6 : PM := F132 p v1 (F135 p v1)
        (¬ v1 = 0) ∧ (
        let p7 : PM := pI p6 1 v1 4 (F135 p v1)
        (G95 p7 v1) ∧ (
        let p8 : PM := F95 p7 v1
        True)))))
    else (
      (¬ v1 = 0) ∧ (
      if (p.1 1 v1 6) = 0 then (
        (¬ v1 = 0) ∧ (
        let p13 : PM := pI p 1 v1 7 ((p.1 6 1 2) + (cn 5))
        (¬ v1 = 0) ∧ (
        let p14 : PM := pI p13 1 v1 6 (cn 1)
        True)))
      else (
        if (F135 p v1) = (cn (-100000)) then (
          (G95 p v1) ∧ (
          let p9 : PM := F95 p v1
          True))
        else (
          (G132 p v1 (F135 p v1)) ∧ (
          let p10 : PM := F132 p v1 (F135 p v1)
          (¬ v1 = 0) ∧ (
          let p11 : PM := pI p10 1 v1 4 (F135 p v1)
          (G95 p11 v1) ∧ (
          let p12 : PM := F95 p11 v1
          True)))))))))))
noncomputable def g8_endAuction (p : PM) (v1 : Nat) : Prop := bg8_endAuction v1_isBeyondBand g1_isBeyondBand v6_openBook g6_openBook v8_tradeAll g8_tradeAll v8_findPrice g8_findPrice p v1
def R131 : List Row := [(0, .aload_n 0, 1, 0, (0, 0, 0, 0, 0, 0)), (1, .aload_n 1, 1, 0, (0, 0, 0, 0, 0, 0)), (2, .invokevirtual 159, 3, 0, (0, 2, 0, 0, 1, 0)), (5, .istore_n 2, 1, 0, (0, 0, 0, 0, 0, 0)), (6, .iload_n 2, 1, 0, (0, 0, 0, 0, 0, 0)), (7, .ldc 79, 2, 0, (0, 0, 0, 0, 0, -100000)), (9, .if_icmp .eq 38, 3, 0, (0, 0, 0, 0, 0, 0)), (12, .aload_n 1, 1, 0, (0, 0, 0, 0, 0, 0)), (13, .iload_n 2, 1, 0, (0, 0, 0, 0, 0, 0)), (14, .invokevirtual 63, 3, 0, (3, 2, 0, 0, 2, 0)), (17, .ifCond .eq 30, 3, 0, (0, 0, 0, 0, 0, 0)), (20, .aload_n 1, 1, 0, (0, 0, 0, 0, 0, 0)), (21, .getfield 163, 3, 0, (1, 6, 1, 0, 0, 0)), (24, .ifCond .ne 23, 3, 0, (0, 0, 0, 0, 0, 0)), (27, .aload_n 1, 1, 0, (0, 0, 0, 0, 0, 0)), (28, .aload_n 0, 1, 0, (0, 0, 0, 0, 0, 0)), (29, .getfield 21, 3, 0, (8, 0, 9, 2, 1, 0)), (32, .getfield 166, 3, 0, (6, 2, 0, 1, 0, 0)), (35, .iconst 5, 1, 0, (0, 0, 0, 0, 0, 5)), (36, .iadd, 1, 0, (0, 0, 0, 0, 0, 0)), (37, .putfield 169, 3, 0, (1, 7, 0, 0, 0, 0)), (40, .aload_n 1, 1, 0, (0, 0, 0, 0, 0, 0)), (41, .iconst 1, 1, 0, (0, 0, 0, 0, 0, 1)), (42, .putfield 163, 3, 0, (1, 6, 1, 0, 0, 0)), (45, .iconst 0, 1, 0, (0, 0, 0, 0, 0, 0)), (46, .ireturn, 1, 0, (1, 0, 0, 0, 0, 0)), (47, .iload_n 2, 1, 0, (0, 0, 0, 0, 0, 0)), (48, .ldc 79, 2, 0, (0, 0, 0, 0, 0, -100000)), (50, .if_icmp .eq 14, 3, 0, (0, 0, 0, 0, 0, 0)), (53, .aload_n 0, 1, 0, (0, 0, 0, 0, 0, 0)), (54, .aload_n 1, 1, 0, (0, 0, 0, 0, 0, 0)), (55, .iload_n 2, 1, 0, (0, 0, 0, 0, 0, 0)), (56, .invokevirtual 172, 3, 0, (2, 3, 0, 0, 1, 0)), (59, .aload_n 1, 1, 0, (0, 0, 0, 0, 0, 0)), (60, .iload_n 2, 1, 0, (0, 0, 0, 0, 0, 0)), (61, .putfield 176, 3, 0, (1, 4, 0, 0, 0, 0)), (64, .aload_n 0, 1, 0, (0, 0, 0, 0, 0, 0)), (65, .getfield 21, 3, 0, (8, 0, 9, 2, 1, 0)), (68, .aload_n 1, 1, 0, (0, 0, 0, 0, 0, 0)), (69, .invokevirtual 179, 3, 0, (1, 2, 0, 0, 1, 0)), (72, .iconst 1, 1, 0, (0, 0, 0, 0, 0, 1)), (73, .ireturn, 1, 0, (1, 0, 0, 0, 0, 0))]
set_option maxRecDepth 100000 in
theorem rk131 : R131.all (rok 0 131 1 [(135, [11, 4]), (95, [9, 4]), (132, [11, 4, 0]), (13, [4, 0])]) = true := by decide +kernel
set_option maxRecDepth 100000 in
theorem tab131 {F135 : PM → Nat → Int32} {G135 : PM → Nat → Prop} {F95 : PM → Nat → PM} {G95 : PM → Nat → Prop} {F132 : PM → Nat → Int32 → PM} {G132 : PM → Nat → Int32 → Prop} {F13 : PM → Nat → Int32 → Int32} {G13 : PM → Nat → Int32 → Prop} : TabOK 0 131 1 [CC135 F135 G135, CC95 F95 G95, CC132 F132 G132, CC13 F13 G13] R131 := tab_ok (K := K131) rfl rfl (fun h => d131 h) rk131 (by decide +kernel)
set_option maxRecDepth 100000 in
theorem pc131 : cutpc [] R131 = true := by decide +kernel
set_option maxRecDepth 100000 in
theorem r8_endAuction (F135 : PM → Nat → Int32) (G135 : PM → Nat → Prop) (o135 : CalOK 0 (CC135 F135 G135)) (F95 : PM → Nat → PM) (G95 : PM → Nat → Prop) (o95 : CalOK 0 (CC95 F95 G95)) (F132 : PM → Nat → Int32 → PM) (G132 : PM → Nat → Int32 → Prop) (o132 : CalOK 0 (CC132 F132 G132)) (F13 : PM → Nat → Int32 → Int32) (G13 : PM → Nat → Int32 → Prop) (o13 : CalOK 0 (CC13 F13 G13)) : ∀ (p : PM) (v1 : Nat), Gr 0 p → bg8_endAuction F13 G13 F95 G95 F132 G132 F135 G135 p v1 → ZJ 0 131 0 [zR 8 1, zR 1 v1, zJ] [] p (hwI (bv8_endAuction F13 F95 F132 F135 p v1)) := by
  intro p v1  hg H
  exact rwI (n := 3000) (q := 0) (la := [zR 8 1, zR 1 v1, zJ]) (sa := []) (ks := []) (gs := []) (fcons o135 (fcons o95 (fcons o132 (fcons o13 (fnil))))) tab131 pc131 trivial hg H
theorem t8_endAuction : ∀ (p : PM) (v1 : Nat), Gr 0 p → g8_endAuction p v1 → ZJ 0 131 0 [zR 8 1, zR 1 v1, zJ] [] p (hwI (v8_endAuction p v1)) := r8_endAuction v8_findPrice g8_findPrice ok135 v6_openBook g6_openBook ok95 v8_tradeAll g8_tradeAll ok132 v1_isBeyondBand g1_isBeyondBand ok13
def CC131 (F : PM → Nat → Int32 × PM) (G : PM → Nat → Prop) : Cal := (131, [11, 4], 1, false, fun as p => (zI (F p (ar as 1)).1, (F p (ar as 1)).2), fun as p => zsw (tc2 as [(108, 1), (5, 0)]) False (G p (ar as 1)))
set_option maxRecDepth 100000 in
theorem okr131 (F : PM → Nat → Int32 × PM) (G : PM → Nat → Prop) (h : ∀ (p : PM) (v1 : Nat), Gr 0 p → G p v1 → ZJ 0 131 0 [zR 8 1, zR 1 v1, zJ] [] p (hwI (F p v1))) : CalOK 0 (CC131 F G) := cal_ok (m := 3) (by unfold mL; rw [mX_131]) (fun as p hg H => h p (ar as 1) hg H)
theorem ok131 : CalOK 0 (CC131 v8_endAuction g8_endAuction) := okr131 v8_endAuction g8_endAuction t8_endAuction
noncomputable def bv10_isDue (p : PM) (v0 : Nat) : Int32 :=
  if (p.1 10 v0 1) = (cn 2) then (
    if (p.1 10 v0 2) = (cn 2) then (
      if (p.1 1 (p.2.2 10 v0 4) 5) = 0 then (
        if (p.1 10 v0 5) = 0 then (
          if (p.1 10 v0 14) < (p.1 1 (p.2.2 10 v0 4) 3) then (
            (cn 0))
          else (
            (cn 1)))
        else (
          if (p.1 1 (p.2.2 10 v0 4) 3) < (p.1 10 v0 14) then (
            (cn 0))
          else (
            (cn 1))))
      else (
        (cn 0)))
    else (
      (cn 0)))
  else (
    (cn 0))
noncomputable def v10_isDue (p : PM) (v0 : Nat) : Int32 := bv10_isDue p v0
noncomputable def bg10_isDue (p : PM) (v0 : Nat) : Prop :=
  (¬ v0 = 0) ∧ (
  if (p.1 10 v0 1) = (cn 2) then (
    (¬ v0 = 0) ∧ (
    if (p.1 10 v0 2) = (cn 2) then (
      (¬ v0 = 0) ∧ (
      (¬ (p.2.2 10 v0 4) = 0) ∧ (
      if (p.1 1 (p.2.2 10 v0 4) 5) = 0 then (
        (¬ v0 = 0) ∧ (
        if (p.1 10 v0 5) = 0 then (
          (¬ v0 = 0) ∧ (
          (¬ (p.2.2 10 v0 4) = 0) ∧ (
          (¬ v0 = 0) ∧ (
          if (p.1 10 v0 14) < (p.1 1 (p.2.2 10 v0 4) 3) then (
            True)
          else (
            True)))))
        else (
          (¬ v0 = 0) ∧ (
          (¬ (p.2.2 10 v0 4) = 0) ∧ (
          (¬ v0 = 0) ∧ (
          if (p.1 1 (p.2.2 10 v0 4) 3) < (p.1 10 v0 14) then (
            True)
          else (
            True)))))))
      else (
        True))))
    else (
      True)))
  else (
    True))
noncomputable def g10_isDue (p : PM) (v0 : Nat) : Prop := bg10_isDue p v0
def R148 : List Row := [(0, .aload_n 0, 1, 0, (0, 0, 0, 0, 0, 0)), (1, .getfield 23, 3, 0, (10, 1, 0, 0, 0, 0)), (4, .iconst 2, 1, 0, (0, 0, 0, 0, 0, 2)), (5, .if_icmp .ne 63, 3, 0, (0, 0, 0, 0, 0, 0)), (8, .aload_n 0, 1, 0, (0, 0, 0, 0, 0, 0)), (9, .getfield 26, 3, 0, (10, 2, 0, 0, 0, 0)), (12, .iconst 2, 1, 0, (0, 0, 0, 0, 0, 2)), (13, .if_icmp .ne 55, 3, 0, (0, 0, 0, 0, 0, 0)), (16, .aload_n 0, 1, 0, (0, 0, 0, 0, 0, 0)), (17, .getfield 15, 3, 0, (10, 4, 4, 0, 0, 0)), (20, .getfield 81, 3, 0, (1, 5, 1, 0, 0, 0)), (23, .ifCond .ne 45, 3, 0, (0, 0, 0, 0, 0, 0)), (26, .aload_n 0, 1, 0, (0, 0, 0, 0, 0, 0)), (27, .getfield 29, 3, 0, (10, 5, 1, 0, 0, 0)), (30, .ifCond .eq 20, 3, 0, (0, 0, 0, 0, 0, 0)), (33, .aload_n 0, 1, 0, (0, 0, 0, 0, 0, 0)), (34, .getfield 15, 3, 0, (10, 4, 4, 0, 0, 0)), (37, .getfield 84, 3, 0, (1, 3, 0, 0, 0, 0)), (40, .aload_n 0, 1, 0, (0, 0, 0, 0, 0, 0)), (41, .getfield 64, 3, 0, (10, 14, 0, 0, 0, 0)), (44, .if_icmp .lt 24, 3, 0, (0, 0, 0, 0, 0, 0)), (47, .goto 17, 3, 0, (0, 0, 0, 0, 0, 0)), (50, .aload_n 0, 1, 0, (0, 0, 0, 0, 0, 0)), (51, .getfield 15, 3, 0, (10, 4, 4, 0, 0, 0)), (54, .getfield 84, 3, 0, (1, 3, 0, 0, 0, 0)), (57, .aload_n 0, 1, 0, (0, 0, 0, 0, 0, 0)), (58, .getfield 64, 3, 0, (10, 14, 0, 0, 0, 0)), (61, .if_icmp .gt 7, 3, 0, (0, 0, 0, 0, 0, 0)), (64, .iconst 1, 1, 0, (0, 0, 0, 0, 0, 1)), (65, .goto 4, 3, 0, (0, 0, 0, 0, 0, 0)), (68, .iconst 0, 1, 0, (0, 0, 0, 0, 0, 0)), (69, .ireturn, 1, 0, (1, 0, 0, 0, 0, 0))]
set_option maxRecDepth 100000 in
theorem rk148 : R148.all (rok 0 148 1 []) = true := by decide +kernel
set_option maxRecDepth 100000 in
theorem tab148 : TabOK 0 148 1 [] R148 := tab_ok (K := K148) rfl rfl (fun h => d148 h) rk148 (by decide +kernel)
set_option maxRecDepth 100000 in
theorem pc148 : cutpc [] R148 = true := by decide +kernel
set_option maxRecDepth 100000 in
theorem r10_isDue (p : PM) (hg : Gr 0 p) : ∀ (v0 : Nat), bg10_isDue p v0 → ZJ 0 148 0 [zR 10 v0] [] p (hoI p (bv10_isDue p v0)) := by
  intro v0  H
  exact roI (n := 3000) (q := 0) (la := [zR 10 v0]) (sa := []) (ks := []) (gs := []) (fnil) tab148 pc148 trivial hg H
theorem t10_isDue (p : PM) (hg : Gr 0 p) : ∀ (v0 : Nat), g10_isDue p v0 → ZJ 0 148 0 [zR 10 v0] [] p (hoI p (v10_isDue p v0)) := r10_isDue p hg
def CC148 (F : PM → Nat → Int32) (G : PM → Nat → Prop) : Cal := (148, [13], 1, true, fun as p => (zI (F p (ar as 0)), p), fun as p => zsw (tc2 as [(14, 0)]) False (G p (ar as 0)))
set_option maxRecDepth 100000 in
theorem okr148 (F : PM → Nat → Int32) (G : PM → Nat → Prop) (h : ∀ (p : PM) (v0 : Nat), Gr 0 p → G p v0 → ZJ 0 148 0 [zR 10 v0] [] p (hoI p (F p v0))) : CalOK 0 (CC148 F G) := cal_ok (m := 1) (by unfold mL; rw [mX_148]) (fun as p hg H => h p (ar as 0) hg H)
theorem ok148 : CalOK 0 (CC148 v10_isDue g10_isDue) := okr148 v10_isDue g10_isDue (fun p v0 hg H => t10_isDue p hg v0 H)
noncomputable def bv6_dueStop_13 (p : PM) (F148 : PM → Nat → Int32) (kv13 : Nat → Int32 → Nat) (v1 : Nat) (v4 : Int32) : Nat :=
  if v4 < (cn 40) then (
    if (F148 p ((v4).toNatClampNeg + 1)) = 0 then (
      kv13 v1 (v4 + (cn 1)))
    else (
      if v1 = 0 then (
        kv13 ((v4).toNatClampNeg + 1) (v4 + (cn 1)))
      else (
        if (p.1 10 ((v4).toNatClampNeg + 1) 0) < (p.1 10 v1 0) then (
          kv13 ((v4).toNatClampNeg + 1) (v4 + (cn 1)))
        else (
          kv13 v1 (v4 + (cn 1))))))
  else (
    v1)
noncomputable def v6_dueStop_13 (p : PM) (n : Nat) : Nat → Int32 → Nat := Nat.rec (motive := fun _ => Nat → Int32 → Nat) (fun _ _ => 0) (fun _ ih => bv6_dueStop_13 p v10_isDue ih) n
theorem ev6_dueStop_13 (p : PM) (n : Nat) (v1 : Nat) (v4 : Int32) : v6_dueStop_13 p (n + 1) v1 v4 = bv6_dueStop_13 p v10_isDue (v6_dueStop_13 p n) v1 v4 := rfl
noncomputable def bg6_dueStop_13 (p : PM) (F148 : PM → Nat → Int32) (G148 : PM → Nat → Prop) (kg13 : Nat → Int32 → Prop) (v1 : Nat) (v4 : Int32) : Prop :=
  if v4 < (cn 40) then (
    (inb v4 40) ∧ (
    (G148 p ((v4).toNatClampNeg + 1)) ∧ (
    if (F148 p ((v4).toNatClampNeg + 1)) = 0 then (
      kg13 v1 (v4 + (cn 1)))
    else (
      if v1 = 0 then (
        kg13 ((v4).toNatClampNeg + 1) (v4 + (cn 1)))
      else (
        (¬ v1 = 0) ∧ (
        if (p.1 10 ((v4).toNatClampNeg + 1) 0) < (p.1 10 v1 0) then (
          kg13 ((v4).toNatClampNeg + 1) (v4 + (cn 1)))
        else (
          kg13 v1 (v4 + (cn 1)))))))))
  else (
    True)
noncomputable def g6_dueStop_13 (p : PM) (n : Nat) : Nat → Int32 → Prop := Nat.rec (motive := fun _ => Nat → Int32 → Prop) (fun _ _ => False) (fun _ ih => bg6_dueStop_13 p v10_isDue g10_isDue ih) n
theorem eg6_dueStop_13 (p : PM) (n : Nat) (v1 : Nat) (v4 : Int32) : g6_dueStop_13 p (n + 1) v1 v4 = bg6_dueStop_13 p v10_isDue g10_isDue (g6_dueStop_13 p n) v1 v4 := rfl
noncomputable def bv6_dueStop (p : PM) (kv13 : Nat → Int32 → Nat) : Nat :=
  kv13 0 (cn 0)
noncomputable def v6_dueStop (p : PM) : Nat := bv6_dueStop p (v6_dueStop_13 p FU)
noncomputable def bg6_dueStop (p : PM) (kg13 : Nat → Int32 → Prop) : Prop :=
  kg13 0 (cn 0)
noncomputable def g6_dueStop (p : PM) : Prop := bg6_dueStop p (g6_dueStop_13 p FU)
def R97 : List Row := [(0, .aconst_null, 1, 0, (10, 0, 0, 0, 0, 0)), (1, .astore_n 1, 1, 0, (0, 0, 0, 0, 0, 0)), (2, .aload_n 0, 1, 0, (0, 0, 0, 0, 0, 0)), (3, .getfield 11, 3, 0, (6, 1, 23, 2, 1, 0)), (6, .astore_n 2, 1, 0, (0, 0, 0, 0, 0, 0)), (7, .aload_n 2, 1, 0, (0, 0, 0, 0, 0, 0)), (8, .arraylength, 1, 0, (20, 40, 0, 0, 0, 40)), (9, .istore_n 3, 1, 0, (0, 0, 0, 0, 0, 0)), (10, .iconst 0, 1, 0, (0, 0, 0, 0, 0, 0)), (11, .istore 4, 2, 0, (0, 0, 0, 0, 0, 0)), (13, .iload 4, 2, 1, (0, 0, 0, 0, 0, 0)), (15, .iload_n 3, 1, 0, (0, 0, 0, 0, 0, 0)), (16, .if_icmp .ge 42, 3, 0, (0, 0, 0, 0, 0, 0)), (19, .aload_n 2, 1, 0, (0, 0, 0, 0, 0, 0)), (20, .iload 4, 2, 0, (0, 0, 0, 0, 0, 0)), (22, .aaload, 1, 0, (20, 40, 0, 1, 1, 0)), (23, .astore 5, 2, 0, (0, 0, 0, 0, 0, 0)), (25, .aload 5, 2, 0, (0, 0, 0, 0, 0, 0)), (27, .invokevirtual 182, 3, 0, (0, 1, 0, 0, 1, 0)), (30, .ifCond .eq 22, 3, 0, (0, 0, 0, 0, 0, 0)), (33, .aload_n 1, 1, 0, (0, 0, 0, 0, 0, 0)), (34, .ifnull 15, 3, 0, (0, 0, 0, 0, 0, 0)), (37, .aload 5, 2, 0, (0, 0, 0, 0, 0, 0)), (39, .getfield 45, 3, 0, (10, 0, 0, 1, 0, 0)), (42, .aload_n 1, 1, 0, (0, 0, 0, 0, 0, 0)), (43, .getfield 45, 3, 0, (10, 0, 0, 0, 0, 0)), (46, .if_icmp .ge 6, 3, 0, (0, 0, 0, 0, 0, 0)), (49, .aload 5, 2, 0, (0, 0, 0, 0, 0, 0)), (51, .astore_n 1, 1, 0, (0, 0, 0, 0, 0, 0)), (52, .iinc 4 1, 3, 0, (0, 0, 0, 0, 0, 1)), (55, .goto (-42), 3, 0, (0, 0, 0, 0, 0, 0)), (58, .aload_n 1, 1, 0, (0, 0, 0, 0, 0, 0)), (59, .areturn, 1, 0, (10, 0, 0, 0, 0, 0))]
set_option maxRecDepth 100000 in
theorem rk97 : R97.all (rok 0 97 (3 + 10) [(148, [13])]) = true := by decide +kernel
set_option maxRecDepth 100000 in
theorem tab97 {F148 : PM → Nat → Int32} {G148 : PM → Nat → Prop} : TabOK 0 97 (3 + 10) [CC148 F148 G148] R97 := tab_ok (K := K97) rfl rfl (fun h => d97 h) rk97 (by decide +kernel)
set_option maxRecDepth 100000 in
theorem pc97 : cutpc [13] R97 = true := by decide +kernel
set_option maxRecDepth 100000 in
theorem r6_dueStop_13 (p : PM) (hg : Gr 0 p) (F148 : PM → Nat → Int32) (G148 : PM → Nat → Prop) (o148 : CalOK 0 (CC148 F148 G148)) (kv13 : Nat → Int32 → Nat) (kg13 : Nat → Int32 → Prop) (hk13 : ∀ (v1 : Nat) (v4 : Int32) (d0 d5 : ZV), kg13 v1 v4 → ZJ 0 97 13 [d0, zR 10 v1, zR 20 1, zC 40, zI v4, d5] [] p (hoR 10 p (kv13 v1 v4))) : ∀ (v1 : Nat) (v4 : Int32) (d0 d5 : ZV), bg6_dueStop_13 p F148 G148 kg13 v1 v4 → ZJ 0 97 13 [d0, zR 10 v1, zR 20 1, zC 40, zI v4, d5] [] p (hoR 10 p (bv6_dueStop_13 p F148 kv13 v1 v4)) := by
  intro v1 v4 d0 d5 H
  exact roR 10 (n := 3000) (q := 13) (la := [d0, zR 10 v1, zR 20 1, zC 40, zI v4, d5]) (sa := []) (ks := [fun la sa _ => kv13 (ar la 1) (ai la 4)]) (gs := [fun la sa _ => zsw (tc2 la [(2, 0), (14, 0), (120, 1), (3, 40), (0, 0), (2, 0)] && tc2 sa []) False (kg13 (ar la 1) (ai la 4))]) (fcons o148 (fnil)) tab97 pc97 ⟨fun la sa s hg H => zcut H fun H => hk13 (ar la 1) (ai la 4) (zld la 0) (zld la 5) H, trivial⟩ hg H
theorem t6_dueStop_13 (p : PM) (hg : Gr 0 p) : ∀ (n : Nat), ∀ (v1 : Nat) (v4 : Int32) (d0 d5 : ZV), g6_dueStop_13 p n v1 v4 → ZJ 0 97 13 [d0, zR 10 v1, zR 20 1, zC 40, zI v4, d5] [] p (hoR 10 p (v6_dueStop_13 p n v1 v4)) := by
  intro n
  induction n with
  | zero =>
    intro v1 v4 d0 d5 H
    exact H.elim
  | succ n ih => exact r6_dueStop_13 p hg v10_isDue g10_isDue ok148 (v6_dueStop_13 p n) (g6_dueStop_13 p n) ih
set_option maxRecDepth 100000 in
theorem r6_dueStop (p : PM) (hg : Gr 0 p) (F148 : PM → Nat → Int32) (G148 : PM → Nat → Prop) (o148 : CalOK 0 (CC148 F148 G148)) (kv13 : Nat → Int32 → Nat) (kg13 : Nat → Int32 → Prop) (hk13 : ∀ (v1 : Nat) (v4 : Int32) (d0 d5 : ZV), kg13 v1 v4 → ZJ 0 97 13 [d0, zR 10 v1, zR 20 1, zC 40, zI v4, d5] [] p (hoR 10 p (kv13 v1 v4))) : bg6_dueStop p kg13 → ZJ 0 97 0 [zR 6 1, zJ, zJ, zJ, zJ, zJ] [] p (hoR 10 p (bv6_dueStop p kv13)) := by
  intro   H
  exact roR 10 (n := 3000) (q := 0) (la := [zR 6 1, zJ, zJ, zJ, zJ, zJ]) (sa := []) (ks := [fun la sa _ => kv13 (ar la 1) (ai la 4)]) (gs := [fun la sa _ => zsw (tc2 la [(2, 0), (14, 0), (120, 1), (3, 40), (0, 0), (2, 0)] && tc2 sa []) False (kg13 (ar la 1) (ai la 4))]) (fcons o148 (fnil)) tab97 pc97 ⟨fun la sa s hg H => zcut H fun H => hk13 (ar la 1) (ai la 4) (zld la 0) (zld la 5) H, trivial⟩ hg H
theorem t6_dueStop (p : PM) (hg : Gr 0 p) : g6_dueStop p → ZJ 0 97 0 [zR 6 1, zJ, zJ, zJ, zJ, zJ] [] p (hoR 10 p (v6_dueStop p)) := r6_dueStop p hg v10_isDue g10_isDue ok148 (v6_dueStop_13 p FU) (g6_dueStop_13 p FU) (t6_dueStop_13 p hg FU)
def CC97 (F : PM → Nat) (G : PM → Prop) : Cal := (97, [9], (3 + 10), true, fun as p => (zR 10 (F p ), p), fun as p => zsw (tc2 as [(106, 1)]) False (G p ))
set_option maxRecDepth 100000 in
theorem okr97 (F : PM → Nat) (G : PM → Prop) (h : ∀ (p : PM), Gr 0 p → G p  → ZJ 0 97 0 [zR 6 1, zJ, zJ, zJ, zJ, zJ] [] p (hoR 10 p (F p ))) : CalOK 0 (CC97 F G) := cal_ok (m := 6) (by unfold mL; rw [mX_97]) (fun as p hg H => h p  hg H)
theorem ok97 : CalOK 0 (CC97 v6_dueStop g6_dueStop) := okr97 v6_dueStop g6_dueStop (fun p  hg H => t6_dueStop p hg  H)
noncomputable def bv14_max_7cf53 (p : PM) (v0 : Int32) (v1 : Int32) : Int32 :=
  if v0 < v1 then (
    v1)
  else (
    v0)
noncomputable def v14_max_7cf53 (p : PM) (v0 : Int32) (v1 : Int32) : Int32 := bv14_max_7cf53 p v0 v1
noncomputable def bg14_max_7cf53 (p : PM) (v0 : Int32) (v1 : Int32) : Prop :=
  if v0 < v1 then (
    True)
  else (
    True)
noncomputable def g14_max_7cf53 (p : PM) (v0 : Int32) (v1 : Int32) : Prop := bg14_max_7cf53 p v0 v1
def R375 : List Row := [(0, .iload_n 0, 1, 0, (0, 0, 0, 0, 0, 0)), (1, .iload_n 1, 1, 0, (0, 0, 0, 0, 0, 0)), (2, .if_icmp .lt 7, 3, 0, (0, 0, 0, 0, 0, 0)), (5, .iload_n 0, 1, 0, (0, 0, 0, 0, 0, 0)), (6, .goto 4, 3, 0, (0, 0, 0, 0, 0, 0)), (9, .iload_n 1, 1, 0, (0, 0, 0, 0, 0, 0)), (10, .ireturn, 1, 0, (0, 0, 0, 0, 0, 0))]
set_option maxRecDepth 100000 in
theorem rk375 : R375.all (rok 0 375 1 []) = true := by decide +kernel
set_option maxRecDepth 100000 in
theorem tab375 : TabOK 0 375 1 [] R375 := tab_ok (K := K375) rfl rfl (fun h => d375 h) rk375 (by decide +kernel)
set_option maxRecDepth 100000 in
theorem pc375 : cutpc [] R375 = true := by decide +kernel
set_option maxRecDepth 100000 in
theorem r14_max_7cf53 (p : PM) (hg : Gr 0 p) : ∀ (v0 : Int32) (v1 : Int32), bg14_max_7cf53 p v0 v1 → ZJ 0 375 0 [zI v0, zI v1] [] p (hoI p (bv14_max_7cf53 p v0 v1)) := by
  intro v0 v1  H
  exact roI (n := 3000) (q := 0) (la := [zI v0, zI v1]) (sa := []) (ks := []) (gs := []) (fnil) tab375 pc375 trivial hg H
theorem t14_max_7cf53 (p : PM) (hg : Gr 0 p) : ∀ (v0 : Int32) (v1 : Int32), g14_max_7cf53 p v0 v1 → ZJ 0 375 0 [zI v0, zI v1] [] p (hoI p (v14_max_7cf53 p v0 v1)) := r14_max_7cf53 p hg
def CC375 (F : PM → Int32 → Int32 → Int32) (G : PM → Int32 → Int32 → Prop) : Cal := (375, [0, 0], 1, true, fun as p => (zI (F p (ai as 0) (ai as 1)), p), fun as p => zsw (tc2 as [(0, 0), (0, 0)]) False (G p (ai as 0) (ai as 1)))
set_option maxRecDepth 100000 in
theorem okr375 (F : PM → Int32 → Int32 → Int32) (G : PM → Int32 → Int32 → Prop) (h : ∀ (p : PM) (v0 : Int32) (v1 : Int32), Gr 0 p → G p v0 v1 → ZJ 0 375 0 [zI v0, zI v1] [] p (hoI p (F p v0 v1))) : CalOK 0 (CC375 F G) := cal_ok (m := 2) (by unfold mL; rw [mX_375]) (fun as p hg H => h p (ai as 0) (ai as 1) hg H)
theorem ok375 : CalOK 0 (CC375 v14_max_7cf53 g14_max_7cf53) := okr375 v14_max_7cf53 g14_max_7cf53 (fun p v0 v1 hg H => t14_max_7cf53 p hg v0 v1 H)
noncomputable def bv7_find (p : PM) (v1 : Int32) : Nat :=
  if v1 < 0 then (
    0)
  else (
    if v1 < (p.1 7 1 2) then (
      if v1 < ((p.1 7 1 2) - (cn 60)) then (
        0)
      else (
        if (irm v1 (cn 60)) < 0 then (
          0)
        else (
          if (irm v1 (cn 60)) < (cn 60) then (
            if (p.1 4 (((irm v1 (cn 60))).toNatClampNeg + 1) 6) = 0 then (
              0)
            else (
              (((irm v1 (cn 60))).toNatClampNeg + 1)))
          else (
            0))))
    else (
      0))
noncomputable def v7_find (p : PM) (v1 : Int32) : Nat := bv7_find p v1
noncomputable def bg7_find (p : PM) (v1 : Int32) : Prop :=
  if v1 < 0 then (
    True)
  else (
    if v1 < (p.1 7 1 2) then (
      if v1 < ((p.1 7 1 2) - (cn 60)) then (
        True)
      else (
        if (irm v1 (cn 60)) < 0 then (
          True)
        else (
          if (irm v1 (cn 60)) < (cn 60) then (
            (inb (irm v1 (cn 60)) 60) ∧ (
            if (p.1 4 (((irm v1 (cn 60))).toNatClampNeg + 1) 6) = 0 then (
              True)
            else (
              True)))
          else (
            True))))
    else (
      True))
noncomputable def g7_find (p : PM) (v1 : Int32) : Prop := bg7_find p v1
def R107 : List Row := [(0, .iload_n 1, 1, 0, (0, 0, 0, 0, 0, 0)), (1, .ifCond .lt 22, 3, 0, (0, 0, 0, 0, 0, 0)), (4, .iload_n 1, 1, 0, (0, 0, 0, 0, 0, 0)), (5, .aload_n 0, 1, 0, (0, 0, 0, 0, 0, 0)), (6, .getfield 36, 3, 0, (7, 2, 0, 1, 0, 0)), (9, .if_icmp .ge 14, 3, 0, (0, 0, 0, 0, 0, 0)), (12, .iload_n 1, 1, 0, (0, 0, 0, 0, 0, 0)), (13, .aload_n 0, 1, 0, (0, 0, 0, 0, 0, 0)), (14, .getfield 36, 3, 0, (7, 2, 0, 1, 0, 0)), (17, .bipush 60, 2, 0, (0, 0, 0, 0, 0, 60)), (19, .isub, 1, 0, (0, 0, 0, 0, 0, 0)), (20, .if_icmp .ge 5, 3, 0, (0, 0, 0, 0, 0, 0)), (23, .aconst_null, 1, 0, (4, 0, 0, 0, 0, 0)), (24, .areturn, 1, 0, (4, 0, 0, 0, 0, 0)), (25, .iload_n 1, 1, 0, (0, 0, 0, 0, 0, 0)), (26, .bipush 60, 2, 0, (0, 0, 0, 0, 0, 60)), (28, .irem, 1, 0, (0, 0, 0, 0, 0, 0)), (29, .istore_n 2, 1, 0, (0, 0, 0, 0, 0, 0)), (30, .iload_n 2, 1, 0, (0, 0, 0, 0, 0, 0)), (31, .ifCond .lt 12, 3, 0, (0, 0, 0, 0, 0, 0)), (34, .iload_n 2, 1, 0, (0, 0, 0, 0, 0, 0)), (35, .aload_n 0, 1, 0, (0, 0, 0, 0, 0, 0)), (36, .getfield 19, 3, 0, (7, 1, 21, 2, 1, 0)), (39, .arraylength, 1, 0, (18, 60, 0, 0, 0, 60)), (40, .if_icmp .lt 5, 3, 0, (0, 0, 0, 0, 0, 0)), (43, .aconst_null, 1, 0, (4, 0, 0, 0, 0, 0)), (44, .areturn, 1, 0, (4, 0, 0, 0, 0, 0)), (45, .aload_n 0, 1, 0, (0, 0, 0, 0, 0, 0)), (46, .getfield 19, 3, 0, (7, 1, 21, 2, 1, 0)), (49, .iload_n 2, 1, 0, (0, 0, 0, 0, 0, 0)), (50, .aaload, 1, 0, (18, 60, 0, 1, 1, 0)), (51, .astore_n 3, 1, 0, (0, 0, 0, 0, 0, 0)), (52, .aload_n 3, 1, 0, (0, 0, 0, 0, 0, 0)), (53, .getfield 32, 3, 0, (4, 6, 1, 1, 0, 0)), (56, .ifCond .eq 7, 3, 0, (0, 0, 0, 0, 0, 0)), (59, .aload_n 3, 1, 0, (0, 0, 0, 0, 0, 0)), (60, .goto 4, 3, 0, (0, 0, 0, 0, 0, 0)), (63, .aconst_null, 1, 0, (4, 0, 0, 0, 0, 0)), (64, .areturn, 1, 0, (4, 0, 0, 0, 0, 0))]
set_option maxRecDepth 100000 in
theorem rk107 : R107.all (rok 0 107 (3 + 4) []) = true := by decide +kernel
set_option maxRecDepth 100000 in
theorem tab107 : TabOK 0 107 (3 + 4) [] R107 := tab_ok (K := K107) rfl rfl (fun h => d107 h) rk107 (by decide +kernel)
set_option maxRecDepth 100000 in
theorem pc107 : cutpc [] R107 = true := by decide +kernel
set_option maxRecDepth 100000 in
theorem r7_find (p : PM) (hg : Gr 0 p) : ∀ (v1 : Int32), bg7_find p v1 → ZJ 0 107 0 [zR 7 1, zI v1, zJ, zJ] [] p (hoR 4 p (bv7_find p v1)) := by
  intro v1  H
  exact roR 4 (n := 3000) (q := 0) (la := [zR 7 1, zI v1, zJ, zJ]) (sa := []) (ks := []) (gs := []) (fnil) tab107 pc107 trivial hg H
theorem t7_find (p : PM) (hg : Gr 0 p) : ∀ (v1 : Int32), g7_find p v1 → ZJ 0 107 0 [zR 7 1, zI v1, zJ, zJ] [] p (hoR 4 p (v7_find p v1)) := r7_find p hg
def CC107 (F : PM → Int32 → Nat) (G : PM → Int32 → Prop) : Cal := (107, [10, 0], (3 + 4), true, fun as p => (zR 4 (F p (ai as 1)), p), fun as p => zsw (tc2 as [(107, 1), (0, 0)]) False (G p (ai as 1)))
set_option maxRecDepth 100000 in
theorem okr107 (F : PM → Int32 → Nat) (G : PM → Int32 → Prop) (h : ∀ (p : PM) (v1 : Int32), Gr 0 p → G p v1 → ZJ 0 107 0 [zR 7 1, zI v1, zJ, zJ] [] p (hoR 4 p (F p v1))) : CalOK 0 (CC107 F G) := cal_ok (m := 4) (by unfold mL; rw [mX_107]) (fun as p hg H => h p (ai as 1) hg H)
theorem ok107 : CalOK 0 (CC107 v7_find g7_find) := okr107 v7_find g7_find (fun p v1 hg H => t7_find p hg v1 H)
noncomputable def bv7_latestOf_19 (p : PM) (F107 : PM → Int32 → Nat) (kv19 : Nat → Int32 → Int32 → Int32) (v1 : Nat) (v2 : Int32) (v3 : Int32) : Int32 :=
  if v3 < v2 then (
    (cn (-100000)))
  else (
    if (F107 p v3) = 0 then (
      kv19 v1 v2 (v3 + (cn (-1))))
    else (
      if (p.2.2 4 (F107 p v3) 0) = v1 then (
        if (p.1 4 (F107 p v3) 5) = 0 then (
          v3)
        else (
          kv19 v1 v2 (v3 + (cn (-1)))))
      else (
        kv19 v1 v2 (v3 + (cn (-1))))))
noncomputable def v7_latestOf_19 (p : PM) (n : Nat) : Nat → Int32 → Int32 → Int32 := Nat.rec (motive := fun _ => Nat → Int32 → Int32 → Int32) (fun _ _ _ => 0) (fun _ ih => bv7_latestOf_19 p v7_find ih) n
theorem ev7_latestOf_19 (p : PM) (n : Nat) (v1 : Nat) (v2 : Int32) (v3 : Int32) : v7_latestOf_19 p (n + 1) v1 v2 v3 = bv7_latestOf_19 p v7_find (v7_latestOf_19 p n) v1 v2 v3 := rfl
noncomputable def bg7_latestOf_19 (p : PM) (F107 : PM → Int32 → Nat) (G107 : PM → Int32 → Prop) (kg19 : Nat → Int32 → Int32 → Prop) (v1 : Nat) (v2 : Int32) (v3 : Int32) : Prop :=
  if v3 < v2 then (
    True)
  else (
    (G107 p v3) ∧ (
    if (F107 p v3) = 0 then (
      kg19 v1 v2 (v3 + (cn (-1))))
    else (
      (¬ (F107 p v3) = 0) ∧ (
      if (p.2.2 4 (F107 p v3) 0) = v1 then (
        (¬ (F107 p v3) = 0) ∧ (
        if (p.1 4 (F107 p v3) 5) = 0 then (
          True)
        else (
          kg19 v1 v2 (v3 + (cn (-1))))))
      else (
        kg19 v1 v2 (v3 + (cn (-1))))))))
noncomputable def g7_latestOf_19 (p : PM) (n : Nat) : Nat → Int32 → Int32 → Prop := Nat.rec (motive := fun _ => Nat → Int32 → Int32 → Prop) (fun _ _ _ => False) (fun _ ih => bg7_latestOf_19 p v7_find g7_find ih) n
theorem eg7_latestOf_19 (p : PM) (n : Nat) (v1 : Nat) (v2 : Int32) (v3 : Int32) : g7_latestOf_19 p (n + 1) v1 v2 v3 = bg7_latestOf_19 p v7_find g7_find (g7_latestOf_19 p n) v1 v2 v3 := rfl
noncomputable def bv7_latestOf (p : PM) (F375 : PM → Int32 → Int32 → Int32) (kv19 : Nat → Int32 → Int32 → Int32) (v1 : Nat) : Int32 :=
  let x1 : Int32 := (F375 p (cn 0) ((p.1 7 1 2) - (cn 60)))
  kv19 v1 x1 ((p.1 7 1 2) - (cn 1))
noncomputable def v7_latestOf (p : PM) (v1 : Nat) : Int32 := bv7_latestOf p v14_max_7cf53 (v7_latestOf_19 p FU) v1
noncomputable def bg7_latestOf (p : PM) (F375 : PM → Int32 → Int32 → Int32) (G375 : PM → Int32 → Int32 → Prop) (kg19 : Nat → Int32 → Int32 → Prop) (v1 : Nat) : Prop :=
  (G375 p (cn 0) ((p.1 7 1 2) - (cn 60))) ∧ (
  let x1 : Int32 := (F375 p (cn 0) ((p.1 7 1 2) - (cn 60)))
  kg19 v1 x1 ((p.1 7 1 2) - (cn 1)))
noncomputable def g7_latestOf (p : PM) (v1 : Nat) : Prop := bg7_latestOf p v14_max_7cf53 g14_max_7cf53 (g7_latestOf_19 p FU) v1
def R108 : List Row := [(0, .iconst 0, 1, 0, (0, 0, 0, 0, 0, 0)), (1, .aload_n 0, 1, 0, (0, 0, 0, 0, 0, 0)), (2, .getfield 36, 3, 0, (7, 2, 0, 1, 0, 0)), (5, .bipush 60, 2, 0, (0, 0, 0, 0, 0, 60)), (7, .isub, 1, 0, (0, 0, 0, 0, 0, 0)), (8, .invokestatic 53, 3, 0, (0, 2, 0, 0, 0, 0)), (11, .istore_n 2, 1, 0, (0, 0, 0, 0, 0, 0)), (12, .aload_n 0, 1, 0, (0, 0, 0, 0, 0, 0)), (13, .getfield 36, 3, 0, (7, 2, 0, 1, 0, 0)), (16, .iconst 1, 1, 0, (0, 0, 0, 0, 0, 1)), (17, .isub, 1, 0, (0, 0, 0, 0, 0, 0)), (18, .istore_n 3, 1, 0, (0, 0, 0, 0, 0, 0)), (19, .iload_n 3, 1, 1, (0, 0, 0, 0, 0, 0)), (20, .iload_n 2, 1, 0, (0, 0, 0, 0, 0, 0)), (21, .if_icmp .lt 40, 3, 0, (0, 0, 0, 0, 0, 0)), (24, .aload_n 0, 1, 0, (0, 0, 0, 0, 0, 0)), (25, .iload_n 3, 1, 0, (0, 0, 0, 0, 0, 0)), (26, .invokevirtual 59, 3, 0, (1, 2, 0, 0, 1, 0)), (29, .astore 4, 2, 0, (0, 0, 0, 0, 0, 0)), (31, .aload 4, 2, 0, (0, 0, 0, 0, 0, 0)), (33, .ifnull 22, 3, 0, (0, 0, 0, 0, 0, 0)), (36, .aload 4, 2, 0, (0, 0, 0, 0, 0, 0)), (38, .getfield 63, 3, 0, (4, 0, 4, 0, 0, 0)), (41, .aload_n 1, 1, 0, (0, 0, 0, 0, 0, 0)), (42, .if_acmp .ne 13, 3, 0, (0, 0, 0, 0, 0, 0)), (45, .aload 4, 2, 0, (0, 0, 0, 0, 0, 0)), (47, .getfield 67, 3, 0, (4, 5, 1, 0, 0, 0)), (50, .ifCond .ne 5, 3, 0, (0, 0, 0, 0, 0, 0)), (53, .iload_n 3, 1, 0, (0, 0, 0, 0, 0, 0)), (54, .ireturn, 1, 0, (0, 0, 0, 0, 0, 0)), (55, .iinc 3 (-1), 3, 0, (0, 0, 0, 0, 0, -1)), (58, .goto (-39), 3, 0, (0, 0, 0, 0, 0, 0)), (61, .ldc 70, 2, 0, (0, 0, 0, 0, 0, -100000)), (63, .ireturn, 1, 0, (0, 0, 0, 0, 0, 0))]
set_option maxRecDepth 100000 in
theorem rk108 : R108.all (rok 0 108 1 [(375, [0, 0]), (107, [10, 0])]) = true := by decide +kernel
set_option maxRecDepth 100000 in
theorem tab108 {F375 : PM → Int32 → Int32 → Int32} {G375 : PM → Int32 → Int32 → Prop} {F107 : PM → Int32 → Nat} {G107 : PM → Int32 → Prop} : TabOK 0 108 1 [CC375 F375 G375, CC107 F107 G107] R108 := tab_ok (K := K108) rfl rfl (fun h => d108 h) rk108 (by decide +kernel)
set_option maxRecDepth 100000 in
theorem pc108 : cutpc [19] R108 = true := by decide +kernel
set_option maxRecDepth 100000 in
theorem r7_latestOf_19 (p : PM) (hg : Gr 0 p) (F375 : PM → Int32 → Int32 → Int32) (G375 : PM → Int32 → Int32 → Prop) (o375 : CalOK 0 (CC375 F375 G375)) (F107 : PM → Int32 → Nat) (G107 : PM → Int32 → Prop) (o107 : CalOK 0 (CC107 F107 G107)) (kv19 : Nat → Int32 → Int32 → Int32) (kg19 : Nat → Int32 → Int32 → Prop) (hk19 : ∀ (v1 : Nat) (v2 : Int32) (v3 : Int32) (d4 : ZV), kg19 v1 v2 v3 → ZJ 0 108 19 [zR 7 1, zR 1 v1, zI v2, zI v3, d4] [] p (hoI p (kv19 v1 v2 v3))) : ∀ (v1 : Nat) (v2 : Int32) (v3 : Int32) (d4 : ZV), bg7_latestOf_19 p F107 G107 kg19 v1 v2 v3 → ZJ 0 108 19 [zR 7 1, zR 1 v1, zI v2, zI v3, d4] [] p (hoI p (bv7_latestOf_19 p F107 kv19 v1 v2 v3)) := by
  intro v1 v2 v3 d4 H
  exact roI (n := 3000) (q := 19) (la := [zR 7 1, zR 1 v1, zI v2, zI v3, d4]) (sa := []) (ks := [fun la sa _ => kv19 (ar la 1) (ai la 2) (ai la 3)]) (gs := [fun la sa _ => zsw (tc2 la [(107, 1), (5, 0), (0, 0), (0, 0), (2, 0)] && tc2 sa []) False (kg19 (ar la 1) (ai la 2) (ai la 3))]) (fcons o375 (fcons o107 (fnil))) tab108 pc108 ⟨fun la sa s hg H => zcut H fun H => hk19 (ar la 1) (ai la 2) (ai la 3) (zld la 4) H, trivial⟩ hg H
theorem t7_latestOf_19 (p : PM) (hg : Gr 0 p) : ∀ (n : Nat), ∀ (v1 : Nat) (v2 : Int32) (v3 : Int32) (d4 : ZV), g7_latestOf_19 p n v1 v2 v3 → ZJ 0 108 19 [zR 7 1, zR 1 v1, zI v2, zI v3, d4] [] p (hoI p (v7_latestOf_19 p n v1 v2 v3)) := by
  intro n
  induction n with
  | zero =>
    intro v1 v2 v3 d4 H
    exact H.elim
  | succ n ih => exact r7_latestOf_19 p hg v14_max_7cf53 g14_max_7cf53 ok375 v7_find g7_find ok107 (v7_latestOf_19 p n) (g7_latestOf_19 p n) ih
set_option maxRecDepth 100000 in
theorem r7_latestOf (p : PM) (hg : Gr 0 p) (F375 : PM → Int32 → Int32 → Int32) (G375 : PM → Int32 → Int32 → Prop) (o375 : CalOK 0 (CC375 F375 G375)) (F107 : PM → Int32 → Nat) (G107 : PM → Int32 → Prop) (o107 : CalOK 0 (CC107 F107 G107)) (kv19 : Nat → Int32 → Int32 → Int32) (kg19 : Nat → Int32 → Int32 → Prop) (hk19 : ∀ (v1 : Nat) (v2 : Int32) (v3 : Int32) (d4 : ZV), kg19 v1 v2 v3 → ZJ 0 108 19 [zR 7 1, zR 1 v1, zI v2, zI v3, d4] [] p (hoI p (kv19 v1 v2 v3))) : ∀ (v1 : Nat), bg7_latestOf p F375 G375 kg19 v1 → ZJ 0 108 0 [zR 7 1, zR 1 v1, zJ, zJ, zJ] [] p (hoI p (bv7_latestOf p F375 kv19 v1)) := by
  intro v1  H
  exact roI (n := 3000) (q := 0) (la := [zR 7 1, zR 1 v1, zJ, zJ, zJ]) (sa := []) (ks := [fun la sa _ => kv19 (ar la 1) (ai la 2) (ai la 3)]) (gs := [fun la sa _ => zsw (tc2 la [(107, 1), (5, 0), (0, 0), (0, 0), (2, 0)] && tc2 sa []) False (kg19 (ar la 1) (ai la 2) (ai la 3))]) (fcons o375 (fcons o107 (fnil))) tab108 pc108 ⟨fun la sa s hg H => zcut H fun H => hk19 (ar la 1) (ai la 2) (ai la 3) (zld la 4) H, trivial⟩ hg H
theorem t7_latestOf (p : PM) (hg : Gr 0 p) : ∀ (v1 : Nat), g7_latestOf p v1 → ZJ 0 108 0 [zR 7 1, zR 1 v1, zJ, zJ, zJ] [] p (hoI p (v7_latestOf p v1)) := r7_latestOf p hg v14_max_7cf53 g14_max_7cf53 ok375 v7_find g7_find ok107 (v7_latestOf_19 p FU) (g7_latestOf_19 p FU) (t7_latestOf_19 p hg FU)
def CC108 (F : PM → Nat → Int32) (G : PM → Nat → Prop) : Cal := (108, [10, 4], 1, true, fun as p => (zI (F p (ar as 1)), p), fun as p => zsw (tc2 as [(107, 1), (5, 0)]) False (G p (ar as 1)))
set_option maxRecDepth 100000 in
theorem okr108 (F : PM → Nat → Int32) (G : PM → Nat → Prop) (h : ∀ (p : PM) (v1 : Nat), Gr 0 p → G p v1 → ZJ 0 108 0 [zR 7 1, zR 1 v1, zJ, zJ, zJ] [] p (hoI p (F p v1))) : CalOK 0 (CC108 F G) := cal_ok (m := 5) (by unfold mL; rw [mX_108]) (fun as p hg H => h p (ar as 1) hg H)
theorem ok108 : CalOK 0 (CC108 v7_latestOf g7_latestOf) := okr108 v7_latestOf g7_latestOf (fun p v1 hg H => t7_latestOf p hg v1 H)
noncomputable def bv6_nextPeg_14 (p : PM) (kv14 : Int32 → Nat → Int32 → Nat) (v1 : Int32) (v2 : Nat) (v5 : Int32) : Nat :=
  if v5 < (cn 40) then (
    if (p.1 10 ((v5).toNatClampNeg + 1) 2) = 0 then (
      kv14 v1 v2 (v5 + (cn 1)))
    else (
      if (p.1 10 ((v5).toNatClampNeg + 1) 1) = (cn 1) then (
        if v1 < (p.1 10 ((v5).toNatClampNeg + 1) 0) then (
          if v2 = 0 then (
            kv14 v1 ((v5).toNatClampNeg + 1) (v5 + (cn 1)))
          else (
            if (p.1 10 ((v5).toNatClampNeg + 1) 0) < (p.1 10 v2 0) then (
              kv14 v1 ((v5).toNatClampNeg + 1) (v5 + (cn 1)))
            else (
              kv14 v1 v2 (v5 + (cn 1)))))
        else (
          kv14 v1 v2 (v5 + (cn 1))))
      else (
        kv14 v1 v2 (v5 + (cn 1)))))
  else (
    v2)
noncomputable def v6_nextPeg_14 (p : PM) (n : Nat) : Int32 → Nat → Int32 → Nat := Nat.rec (motive := fun _ => Int32 → Nat → Int32 → Nat) (fun _ _ _ => 0) (fun _ ih => bv6_nextPeg_14 p ih) n
theorem ev6_nextPeg_14 (p : PM) (n : Nat) (v1 : Int32) (v2 : Nat) (v5 : Int32) : v6_nextPeg_14 p (n + 1) v1 v2 v5 = bv6_nextPeg_14 p (v6_nextPeg_14 p n) v1 v2 v5 := rfl
noncomputable def bg6_nextPeg_14 (p : PM) (kg14 : Int32 → Nat → Int32 → Prop) (v1 : Int32) (v2 : Nat) (v5 : Int32) : Prop :=
  if v5 < (cn 40) then (
    (inb v5 40) ∧ (
    if (p.1 10 ((v5).toNatClampNeg + 1) 2) = 0 then (
      kg14 v1 v2 (v5 + (cn 1)))
    else (
      if (p.1 10 ((v5).toNatClampNeg + 1) 1) = (cn 1) then (
        if v1 < (p.1 10 ((v5).toNatClampNeg + 1) 0) then (
          if v2 = 0 then (
            kg14 v1 ((v5).toNatClampNeg + 1) (v5 + (cn 1)))
          else (
            (¬ v2 = 0) ∧ (
            if (p.1 10 ((v5).toNatClampNeg + 1) 0) < (p.1 10 v2 0) then (
              kg14 v1 ((v5).toNatClampNeg + 1) (v5 + (cn 1)))
            else (
              kg14 v1 v2 (v5 + (cn 1))))))
        else (
          kg14 v1 v2 (v5 + (cn 1))))
      else (
        kg14 v1 v2 (v5 + (cn 1))))))
  else (
    True)
noncomputable def g6_nextPeg_14 (p : PM) (n : Nat) : Int32 → Nat → Int32 → Prop := Nat.rec (motive := fun _ => Int32 → Nat → Int32 → Prop) (fun _ _ _ => False) (fun _ ih => bg6_nextPeg_14 p ih) n
theorem eg6_nextPeg_14 (p : PM) (n : Nat) (v1 : Int32) (v2 : Nat) (v5 : Int32) : g6_nextPeg_14 p (n + 1) v1 v2 v5 = bg6_nextPeg_14 p (g6_nextPeg_14 p n) v1 v2 v5 := rfl
noncomputable def bv6_nextPeg (p : PM) (kv14 : Int32 → Nat → Int32 → Nat) (v1 : Int32) : Nat :=
  kv14 v1 0 (cn 0)
noncomputable def v6_nextPeg (p : PM) (v1 : Int32) : Nat := bv6_nextPeg p (v6_nextPeg_14 p FU) v1
noncomputable def bg6_nextPeg (p : PM) (kg14 : Int32 → Nat → Int32 → Prop) (v1 : Int32) : Prop :=
  kg14 v1 0 (cn 0)
noncomputable def g6_nextPeg (p : PM) (v1 : Int32) : Prop := bg6_nextPeg p (g6_nextPeg_14 p FU) v1
def R100 : List Row := [(0, .aconst_null, 1, 0, (10, 0, 0, 0, 0, 0)), (1, .astore_n 2, 1, 0, (0, 0, 0, 0, 0, 0)), (2, .aload_n 0, 1, 0, (0, 0, 0, 0, 0, 0)), (3, .getfield 11, 3, 0, (6, 1, 23, 2, 1, 0)), (6, .astore_n 3, 1, 0, (0, 0, 0, 0, 0, 0)), (7, .aload_n 3, 1, 0, (0, 0, 0, 0, 0, 0)), (8, .arraylength, 1, 0, (20, 40, 0, 0, 0, 40)), (9, .istore 4, 2, 0, (0, 0, 0, 0, 0, 0)), (11, .iconst 0, 1, 0, (0, 0, 0, 0, 0, 0)), (12, .istore 5, 2, 0, (0, 0, 0, 0, 0, 0)), (14, .iload 5, 2, 1, (0, 0, 0, 0, 0, 0)), (16, .iload 4, 2, 0, (0, 0, 0, 0, 0, 0)), (18, .if_icmp .ge 60, 3, 0, (0, 0, 0, 0, 0, 0)), (21, .aload_n 3, 1, 0, (0, 0, 0, 0, 0, 0)), (22, .iload 5, 2, 0, (0, 0, 0, 0, 0, 0)), (24, .aaload, 1, 0, (20, 40, 0, 1, 1, 0)), (25, .astore 6, 2, 0, (0, 0, 0, 0, 0, 0)), (27, .aload 6, 2, 0, (0, 0, 0, 0, 0, 0)), (29, .getfield 29, 3, 0, (10, 2, 0, 1, 0, 0)), (32, .ifCond .eq 40, 3, 0, (0, 0, 0, 0, 0, 0)), (35, .aload 6, 2, 0, (0, 0, 0, 0, 0, 0)), (37, .getfield 76, 3, 0, (10, 1, 0, 1, 0, 0)), (40, .iconst 1, 1, 0, (0, 0, 0, 0, 0, 1)), (41, .if_icmp .ne 31, 3, 0, (0, 0, 0, 0, 0, 0)), (44, .aload 6, 2, 0, (0, 0, 0, 0, 0, 0)), (46, .getfield 45, 3, 0, (10, 0, 0, 1, 0, 0)), (49, .iload_n 1, 1, 0, (0, 0, 0, 0, 0, 0)), (50, .if_icmp .le 22, 3, 0, (0, 0, 0, 0, 0, 0)), (53, .aload_n 2, 1, 0, (0, 0, 0, 0, 0, 0)), (54, .ifnull 15, 3, 0, (0, 0, 0, 0, 0, 0)), (57, .aload 6, 2, 0, (0, 0, 0, 0, 0, 0)), (59, .getfield 45, 3, 0, (10, 0, 0, 1, 0, 0)), (62, .aload_n 2, 1, 0, (0, 0, 0, 0, 0, 0)), (63, .getfield 45, 3, 0, (10, 0, 0, 0, 0, 0)), (66, .if_icmp .ge 6, 3, 0, (0, 0, 0, 0, 0, 0)), (69, .aload 6, 2, 0, (0, 0, 0, 0, 0, 0)), (71, .astore_n 2, 1, 0, (0, 0, 0, 0, 0, 0)), (72, .iinc 5 1, 3, 0, (0, 0, 0, 0, 0, 1)), (75, .goto (-61), 3, 0, (0, 0, 0, 0, 0, 0)), (78, .aload_n 2, 1, 0, (0, 0, 0, 0, 0, 0)), (79, .areturn, 1, 0, (10, 0, 0, 0, 0, 0))]
set_option maxRecDepth 100000 in
theorem rk100 : R100.all (rok 0 100 (3 + 10) []) = true := by decide +kernel
set_option maxRecDepth 100000 in
theorem tab100 : TabOK 0 100 (3 + 10) [] R100 := tab_ok (K := K100) rfl rfl (fun h => d100 h) rk100 (by decide +kernel)
set_option maxRecDepth 100000 in
theorem pc100 : cutpc [14] R100 = true := by decide +kernel
set_option maxRecDepth 100000 in
theorem r6_nextPeg_14 (p : PM) (hg : Gr 0 p) (kv14 : Int32 → Nat → Int32 → Nat) (kg14 : Int32 → Nat → Int32 → Prop) (hk14 : ∀ (v1 : Int32) (v2 : Nat) (v5 : Int32) (d0 d6 : ZV), kg14 v1 v2 v5 → ZJ 0 100 14 [d0, zI v1, zR 10 v2, zR 20 1, zC 40, zI v5, d6] [] p (hoR 10 p (kv14 v1 v2 v5))) : ∀ (v1 : Int32) (v2 : Nat) (v5 : Int32) (d0 d6 : ZV), bg6_nextPeg_14 p kg14 v1 v2 v5 → ZJ 0 100 14 [d0, zI v1, zR 10 v2, zR 20 1, zC 40, zI v5, d6] [] p (hoR 10 p (bv6_nextPeg_14 p kv14 v1 v2 v5)) := by
  intro v1 v2 v5 d0 d6 H
  exact roR 10 (n := 3000) (q := 14) (la := [d0, zI v1, zR 10 v2, zR 20 1, zC 40, zI v5, d6]) (sa := []) (ks := [fun la sa _ => kv14 (ai la 1) (ar la 2) (ai la 5)]) (gs := [fun la sa _ => zsw (tc2 la [(2, 0), (0, 0), (14, 0), (120, 1), (3, 40), (0, 0), (2, 0)] && tc2 sa []) False (kg14 (ai la 1) (ar la 2) (ai la 5))]) (fnil) tab100 pc100 ⟨fun la sa s hg H => zcut H fun H => hk14 (ai la 1) (ar la 2) (ai la 5) (zld la 0) (zld la 6) H, trivial⟩ hg H
theorem t6_nextPeg_14 (p : PM) (hg : Gr 0 p) : ∀ (n : Nat), ∀ (v1 : Int32) (v2 : Nat) (v5 : Int32) (d0 d6 : ZV), g6_nextPeg_14 p n v1 v2 v5 → ZJ 0 100 14 [d0, zI v1, zR 10 v2, zR 20 1, zC 40, zI v5, d6] [] p (hoR 10 p (v6_nextPeg_14 p n v1 v2 v5)) := by
  intro n
  induction n with
  | zero =>
    intro v1 v2 v5 d0 d6 H
    exact H.elim
  | succ n ih => exact r6_nextPeg_14 p hg (v6_nextPeg_14 p n) (g6_nextPeg_14 p n) ih
set_option maxRecDepth 100000 in
theorem r6_nextPeg (p : PM) (hg : Gr 0 p) (kv14 : Int32 → Nat → Int32 → Nat) (kg14 : Int32 → Nat → Int32 → Prop) (hk14 : ∀ (v1 : Int32) (v2 : Nat) (v5 : Int32) (d0 d6 : ZV), kg14 v1 v2 v5 → ZJ 0 100 14 [d0, zI v1, zR 10 v2, zR 20 1, zC 40, zI v5, d6] [] p (hoR 10 p (kv14 v1 v2 v5))) : ∀ (v1 : Int32), bg6_nextPeg p kg14 v1 → ZJ 0 100 0 [zR 6 1, zI v1, zJ, zJ, zJ, zJ, zJ] [] p (hoR 10 p (bv6_nextPeg p kv14 v1)) := by
  intro v1  H
  exact roR 10 (n := 3000) (q := 0) (la := [zR 6 1, zI v1, zJ, zJ, zJ, zJ, zJ]) (sa := []) (ks := [fun la sa _ => kv14 (ai la 1) (ar la 2) (ai la 5)]) (gs := [fun la sa _ => zsw (tc2 la [(2, 0), (0, 0), (14, 0), (120, 1), (3, 40), (0, 0), (2, 0)] && tc2 sa []) False (kg14 (ai la 1) (ar la 2) (ai la 5))]) (fnil) tab100 pc100 ⟨fun la sa s hg H => zcut H fun H => hk14 (ai la 1) (ar la 2) (ai la 5) (zld la 0) (zld la 6) H, trivial⟩ hg H
theorem t6_nextPeg (p : PM) (hg : Gr 0 p) : ∀ (v1 : Int32), g6_nextPeg p v1 → ZJ 0 100 0 [zR 6 1, zI v1, zJ, zJ, zJ, zJ, zJ] [] p (hoR 10 p (v6_nextPeg p v1)) := r6_nextPeg p hg (v6_nextPeg_14 p FU) (g6_nextPeg_14 p FU) (t6_nextPeg_14 p hg FU)
def CC100 (F : PM → Int32 → Nat) (G : PM → Int32 → Prop) : Cal := (100, [9, 0], (3 + 10), true, fun as p => (zR 10 (F p (ai as 1)), p), fun as p => zsw (tc2 as [(106, 1), (0, 0)]) False (G p (ai as 1)))
set_option maxRecDepth 100000 in
theorem okr100 (F : PM → Int32 → Nat) (G : PM → Int32 → Prop) (h : ∀ (p : PM) (v1 : Int32), Gr 0 p → G p v1 → ZJ 0 100 0 [zR 6 1, zI v1, zJ, zJ, zJ, zJ, zJ] [] p (hoR 10 p (F p v1))) : CalOK 0 (CC100 F G) := cal_ok (m := 7) (by unfold mL; rw [mX_100]) (fun as p hg H => h p (ai as 1) hg H)
theorem ok100 : CalOK 0 (CC100 v6_nextPeg g6_nextPeg) := okr100 v6_nextPeg g6_nextPeg (fun p v1 hg H => t6_nextPeg p hg v1 H)
noncomputable def bv6_pegPrice (p : PM) (F11 : PM → Nat → Int32 → Int32) (F81 : PM → Nat → Int32 → Int32 → Int32) (F375 : PM → Int32 → Int32 → Int32) (F377 : PM → Int32 → Int32 → Int32) (v1 : Nat) : Int32 :=
  if (p.1 1 (p.2.2 10 v1 4) 5) = 0 then (
    let x1 : Int32 := (F81 p (p.2.2 10 v1 4) (p.1 10 v1 5) (cn 0))
    if x1 = (cn (-100000)) then (
      (cn (-100000)))
    else (
      if (p.1 10 v1 5) = 0 then (
        let x2 : Int32 := (F375 p (p.1 10 v1 6) (x1 + (p.1 10 v1 13)))
        if (F11 p (p.2.2 10 v1 4) x2) = 0 then (
          (cn (-100000)))
        else (
          x2))
      else (
        let x3 : Int32 := (F377 p (p.1 10 v1 6) (x1 - (p.1 10 v1 13)))
        if (F11 p (p.2.2 10 v1 4) x3) = 0 then (
          (cn (-100000)))
        else (
          x3))))
  else (
    if (cn (-100000)) = (cn (-100000)) then (
      (cn (-100000)))
    else (
      if (p.1 10 v1 5) = 0 then (
        let x4 : Int32 := (F375 p (p.1 10 v1 6) ((cn (-100000)) + (p.1 10 v1 13)))
        if (F11 p (p.2.2 10 v1 4) x4) = 0 then (
          (cn (-100000)))
        else (
          x4))
      else (
        let x5 : Int32 := (F377 p (p.1 10 v1 6) ((cn (-100000)) - (p.1 10 v1 13)))
        if (F11 p (p.2.2 10 v1 4) x5) = 0 then (
          (cn (-100000)))
        else (
          x5))))
noncomputable def v6_pegPrice (p : PM) (v1 : Nat) : Int32 := bv6_pegPrice p v1_hasPrice v6_bestPrice v14_max_7cf53 v14_min_7cf53 v1
noncomputable def bg6_pegPrice (p : PM) (F11 : PM → Nat → Int32 → Int32) (G11 : PM → Nat → Int32 → Prop) (F81 : PM → Nat → Int32 → Int32 → Int32) (G81 : PM → Nat → Int32 → Int32 → Prop) (F375 : PM → Int32 → Int32 → Int32) (G375 : PM → Int32 → Int32 → Prop) (F377 : PM → Int32 → Int32 → Int32) (G377 : PM → Int32 → Int32 → Prop) (v1 : Nat) : Prop :=
  (¬ v1 = 0) ∧ (
  (¬ (p.2.2 10 v1 4) = 0) ∧ (
  if (p.1 1 (p.2.2 10 v1 4) 5) = 0 then (
    (¬ v1 = 0) ∧ (
    (¬ v1 = 0) ∧ (
    (G81 p (p.2.2 10 v1 4) (p.1 10 v1 5) (cn 0)) ∧ (
    let x1 : Int32 := (F81 p (p.2.2 10 v1 4) (p.1 10 v1 5) (cn 0))
    if x1 = (cn (-100000)) then (
      True)
    else (
      (¬ v1 = 0) ∧ (
      if (p.1 10 v1 5) = 0 then (
        (¬ v1 = 0) ∧ (
        (¬ v1 = 0) ∧ (
        (G375 p (p.1 10 v1 6) (x1 + (p.1 10 v1 13))) ∧ (
        let x2 : Int32 := (F375 p (p.1 10 v1 6) (x1 + (p.1 10 v1 13)))
        (¬ v1 = 0) ∧ (
        (¬ (p.2.2 10 v1 4) = 0) ∧ (
        (G11 p (p.2.2 10 v1 4) x2) ∧ (
        if (F11 p (p.2.2 10 v1 4) x2) = 0 then (
          True)
        else (
          True))))))))
      else (
        (¬ v1 = 0) ∧ (
        (¬ v1 = 0) ∧ (
        (G377 p (p.1 10 v1 6) (x1 - (p.1 10 v1 13))) ∧ (
        let x3 : Int32 := (F377 p (p.1 10 v1 6) (x1 - (p.1 10 v1 13)))
        (¬ v1 = 0) ∧ (
        (¬ (p.2.2 10 v1 4) = 0) ∧ (
        (G11 p (p.2.2 10 v1 4) x3) ∧ (
        if (F11 p (p.2.2 10 v1 4) x3) = 0 then (
          True)
        else (
          True))))))))))))))
  else (
    if (cn (-100000)) = (cn (-100000)) then (
      True)
    else (
      (¬ v1 = 0) ∧ (
      if (p.1 10 v1 5) = 0 then (
        (¬ v1 = 0) ∧ (
        (¬ v1 = 0) ∧ (
        (G375 p (p.1 10 v1 6) ((cn (-100000)) + (p.1 10 v1 13))) ∧ (
        let x4 : Int32 := (F375 p (p.1 10 v1 6) ((cn (-100000)) + (p.1 10 v1 13)))
        (¬ v1 = 0) ∧ (
        (¬ (p.2.2 10 v1 4) = 0) ∧ (
        (G11 p (p.2.2 10 v1 4) x4) ∧ (
        if (F11 p (p.2.2 10 v1 4) x4) = 0 then (
          True)
        else (
          True))))))))
      else (
        (¬ v1 = 0) ∧ (
        (¬ v1 = 0) ∧ (
        (G377 p (p.1 10 v1 6) ((cn (-100000)) - (p.1 10 v1 13))) ∧ (
        let x5 : Int32 := (F377 p (p.1 10 v1 6) ((cn (-100000)) - (p.1 10 v1 13)))
        (¬ v1 = 0) ∧ (
        (¬ (p.2.2 10 v1 4) = 0) ∧ (
        (G11 p (p.2.2 10 v1 4) x5) ∧ (
        if (F11 p (p.2.2 10 v1 4) x5) = 0 then (
          True)
        else (
          True)))))))))))))
noncomputable def g6_pegPrice (p : PM) (v1 : Nat) : Prop := bg6_pegPrice p v1_hasPrice g1_hasPrice v6_bestPrice g6_bestPrice v14_max_7cf53 g14_max_7cf53 v14_min_7cf53 g14_min_7cf53 v1
def R101 : List Row := [(0, .aload_n 1, 1, 0, (0, 0, 0, 0, 0, 0)), (1, .getfield 130, 3, 0, (10, 4, 4, 0, 0, 0)), (4, .getfield 154, 3, 0, (1, 5, 1, 0, 0, 0)), (7, .ifCond .eq 8, 3, 0, (0, 0, 0, 0, 0, 0)), (10, .ldc 71, 2, 0, (0, 0, 0, 0, 0, -100000)), (12, .goto 16, 3, 0, (0, 0, 0, 0, 0, 0)), (15, .aload_n 0, 1, 0, (0, 0, 0, 0, 0, 0)), (16, .aload_n 1, 1, 0, (0, 0, 0, 0, 0, 0)), (17, .getfield 130, 3, 0, (10, 4, 4, 0, 0, 0)), (20, .aload_n 1, 1, 0, (0, 0, 0, 0, 0, 0)), (21, .getfield 151, 3, 0, (10, 5, 1, 0, 0, 0)), (24, .iconst 0, 1, 0, (0, 0, 0, 0, 0, 0)), (25, .invokevirtual 83, 3, 0, (0, 4, 0, 0, 1, 0)), (28, .istore_n 2, 1, 0, (0, 0, 0, 0, 0, 0)), (29, .iload_n 2, 1, 0, (0, 0, 0, 0, 0, 0)), (30, .ldc 71, 2, 0, (0, 0, 0, 0, 0, -100000)), (32, .if_icmp .ne 6, 3, 0, (0, 0, 0, 0, 0, 0)), (35, .ldc 71, 2, 0, (0, 0, 0, 0, 0, -100000)), (37, .ireturn, 1, 0, (0, 0, 0, 0, 0, 0)), (38, .aload_n 1, 1, 0, (0, 0, 0, 0, 0, 0)), (39, .getfield 151, 3, 0, (10, 5, 1, 0, 0, 0)), (42, .ifCond .eq 19, 3, 0, (0, 0, 0, 0, 0, 0)), (45, .aload_n 1, 1, 0, (0, 0, 0, 0, 0, 0)), (46, .getfield 52, 3, 0, (10, 6, 0, 0, 0, 0)), (49, .iload_n 2, 1, 0, (0, 0, 0, 0, 0, 0)), (50, .aload_n 1, 1, 0, (0, 0, 0, 0, 0, 0)), (51, .getfield 205, 3, 0, (10, 13, 0, 0, 0, 0)), (54, .isub, 1, 0, (0, 0, 0, 0, 0, 0)), (55, .invokestatic 208, 3, 0, (3, 2, 0, 0, 0, 0)), (58, .goto 16, 3, 0, (0, 0, 0, 0, 0, 0)), (61, .aload_n 1, 1, 0, (0, 0, 0, 0, 0, 0)), (62, .getfield 52, 3, 0, (10, 6, 0, 0, 0, 0)), (65, .iload_n 2, 1, 0, (0, 0, 0, 0, 0, 0)), (66, .aload_n 1, 1, 0, (0, 0, 0, 0, 0, 0)), (67, .getfield 205, 3, 0, (10, 13, 0, 0, 0, 0)), (70, .iadd, 1, 0, (0, 0, 0, 0, 0, 0)), (71, .invokestatic 212, 3, 0, (1, 2, 0, 0, 0, 0)), (74, .istore_n 3, 1, 0, (0, 0, 0, 0, 0, 0)), (75, .aload_n 1, 1, 0, (0, 0, 0, 0, 0, 0)), (76, .getfield 130, 3, 0, (10, 4, 4, 0, 0, 0)), (79, .iload_n 3, 1, 0, (0, 0, 0, 0, 0, 0)), (80, .invokevirtual 215, 3, 0, (2, 2, 0, 0, 2, 0)), (83, .ifCond .eq 7, 3, 0, (0, 0, 0, 0, 0, 0)), (86, .iload_n 3, 1, 0, (0, 0, 0, 0, 0, 0)), (87, .goto 5, 3, 0, (0, 0, 0, 0, 0, 0)), (90, .ldc 71, 2, 0, (0, 0, 0, 0, 0, -100000)), (92, .ireturn, 1, 0, (0, 0, 0, 0, 0, 0))]
set_option maxRecDepth 100000 in
theorem rk101 : R101.all (rok 0 101 1 [(81, [9, 4, 0, 0]), (375, [0, 0]), (11, [4, 0]), (377, [0, 0])]) = true := by decide +kernel
set_option maxRecDepth 100000 in
theorem tab101 {F81 : PM → Nat → Int32 → Int32 → Int32} {G81 : PM → Nat → Int32 → Int32 → Prop} {F375 : PM → Int32 → Int32 → Int32} {G375 : PM → Int32 → Int32 → Prop} {F11 : PM → Nat → Int32 → Int32} {G11 : PM → Nat → Int32 → Prop} {F377 : PM → Int32 → Int32 → Int32} {G377 : PM → Int32 → Int32 → Prop} : TabOK 0 101 1 [CC81 F81 G81, CC375 F375 G375, CC11 F11 G11, CC377 F377 G377] R101 := tab_ok (K := K101) rfl rfl (fun h => d101 h) rk101 (by decide +kernel)
set_option maxRecDepth 100000 in
theorem pc101 : cutpc [] R101 = true := by decide +kernel
set_option maxRecDepth 100000 in
theorem r6_pegPrice (p : PM) (hg : Gr 0 p) (F81 : PM → Nat → Int32 → Int32 → Int32) (G81 : PM → Nat → Int32 → Int32 → Prop) (o81 : CalOK 0 (CC81 F81 G81)) (F375 : PM → Int32 → Int32 → Int32) (G375 : PM → Int32 → Int32 → Prop) (o375 : CalOK 0 (CC375 F375 G375)) (F11 : PM → Nat → Int32 → Int32) (G11 : PM → Nat → Int32 → Prop) (o11 : CalOK 0 (CC11 F11 G11)) (F377 : PM → Int32 → Int32 → Int32) (G377 : PM → Int32 → Int32 → Prop) (o377 : CalOK 0 (CC377 F377 G377)) : ∀ (v1 : Nat), bg6_pegPrice p F11 G11 F81 G81 F375 G375 F377 G377 v1 → ZJ 0 101 0 [zR 6 1, zR 10 v1, zJ, zJ] [] p (hoI p (bv6_pegPrice p F11 F81 F375 F377 v1)) := by
  intro v1  H
  exact roI (n := 3000) (q := 0) (la := [zR 6 1, zR 10 v1, zJ, zJ]) (sa := []) (ks := []) (gs := []) (fcons o81 (fcons o375 (fcons o11 (fcons o377 (fnil))))) tab101 pc101 trivial hg H
theorem t6_pegPrice (p : PM) (hg : Gr 0 p) : ∀ (v1 : Nat), g6_pegPrice p v1 → ZJ 0 101 0 [zR 6 1, zR 10 v1, zJ, zJ] [] p (hoI p (v6_pegPrice p v1)) := r6_pegPrice p hg v6_bestPrice g6_bestPrice ok81 v14_max_7cf53 g14_max_7cf53 ok375 v1_hasPrice g1_hasPrice ok11 v14_min_7cf53 g14_min_7cf53 ok377
def CC101 (F : PM → Nat → Int32) (G : PM → Nat → Prop) : Cal := (101, [9, 13], 1, true, fun as p => (zI (F p (ar as 1)), p), fun as p => zsw (tc2 as [(106, 1), (14, 0)]) False (G p (ar as 1)))
set_option maxRecDepth 100000 in
theorem okr101 (F : PM → Nat → Int32) (G : PM → Nat → Prop) (h : ∀ (p : PM) (v1 : Nat), Gr 0 p → G p v1 → ZJ 0 101 0 [zR 6 1, zR 10 v1, zJ, zJ] [] p (hoI p (F p v1))) : CalOK 0 (CC101 F G) := cal_ok (m := 4) (by unfold mL; rw [mX_101]) (fun as p hg H => h p (ar as 1) hg H)
theorem ok101 : CalOK 0 (CC101 v6_pegPrice g6_pegPrice) := okr101 v6_pegPrice g6_pegPrice (fun p v1 hg H => t6_pegPrice p hg v1 H)
noncomputable def bv10_hold (p : PM) (v0 : Nat) : PM :=
  let p1 : PM := pI p 10 v0 2 (cn 2)
  let p2 : PM := pI p1 10 v0 7 (cn (-100000))
  p2
noncomputable def v10_hold (p : PM) (v0 : Nat) : PM := bv10_hold p v0
noncomputable def bg10_hold (p : PM) (v0 : Nat) : Prop :=
  (¬ v0 = 0) ∧ (
  let p1 : PM := pI p 10 v0 2 (cn 2)
  (¬ v0 = 0) ∧ (
  let p2 : PM := pI p1 10 v0 7 (cn (-100000))
  True))
noncomputable def g10_hold (p : PM) (v0 : Nat) : Prop := bg10_hold p v0
def R149 : List Row := [(0, .aload_n 0, 1, 0, (0, 0, 0, 0, 0, 0)), (1, .iconst 2, 1, 0, (0, 0, 0, 0, 0, 2)), (2, .putfield 26, 3, 0, (10, 2, 0, 0, 0, 0)), (5, .aload_n 0, 1, 0, (0, 0, 0, 0, 0, 0)), (6, .ldc 36, 2, 0, (0, 0, 0, 0, 0, -100000)), (8, .putfield 37, 3, 0, (10, 7, 0, 0, 0, 0)), (11, .return_, 1, 0, (0, 0, 0, 0, 0, 0))]
set_option maxRecDepth 100000 in
theorem rk149 : R149.all (rok 0 149 0 []) = true := by decide +kernel
set_option maxRecDepth 100000 in
theorem tab149 : TabOK 0 149 0 [] R149 := tab_ok (K := K149) rfl rfl (fun h => d149 h) rk149 (by decide +kernel)
set_option maxRecDepth 100000 in
theorem pc149 : cutpc [] R149 = true := by decide +kernel
set_option maxRecDepth 100000 in
theorem r10_hold : ∀ (p : PM) (v0 : Nat), Gr 0 p → bg10_hold p v0 → ZJ 0 149 0 [zR 10 v0] [] p (hwV (bv10_hold p v0)) := by
  intro p v0  hg H
  exact rwV (n := 3000) (q := 0) (la := [zR 10 v0]) (sa := []) (ks := []) (gs := []) (fnil) tab149 pc149 trivial hg H
theorem t10_hold : ∀ (p : PM) (v0 : Nat), Gr 0 p → g10_hold p v0 → ZJ 0 149 0 [zR 10 v0] [] p (hwV (v10_hold p v0)) := r10_hold
def CC149 (F : PM → Nat → PM) (G : PM → Nat → Prop) : Cal := (149, [13], 0, false, fun as p => (zJ, (F p (ar as 0))), fun as p => zsw (tc2 as [(14, 0)]) False (G p (ar as 0)))
set_option maxRecDepth 100000 in
theorem okr149 (F : PM → Nat → PM) (G : PM → Nat → Prop) (h : ∀ (p : PM) (v0 : Nat), Gr 0 p → G p v0 → ZJ 0 149 0 [zR 10 v0] [] p (hwV (F p v0))) : CalOK 0 (CC149 F G) := cal_ok (m := 1) (by unfold mL; rw [mX_149]) (fun as p hg H => h p (ar as 0) hg H)
theorem ok149 : CalOK 0 (CC149 v10_hold g10_hold) := okr149 v10_hold g10_hold t10_hold
noncomputable def bv6_movePeg (F79 : PM → Int32 × PM) (F149 : PM → Nat → PM) (F150 : PM → Nat → Int32) (p : PM) (v1 : Nat) (v2 : Int32) : PM :=
  if v2 = (cn (-100000)) then (
    let p11 : PM := F149 p v1
    p11)
  else (
    if (p.1 10 v1 2) = (cn 2) then (
      let p1 : PM := pI p 10 v1 2 (cn 1)
      let p2 : PM := pI p1 10 v1 7 v2
      let p3 : PM := pI p2 10 v1 11 (F150 p2 v1)
      let r4 : Int32 × PM := F79 p3
      let p5 : PM := pI r4.2 10 v1 12 r4.1
      p5)
    else (
      if (p.1 10 v1 7) = v2 then (
        p)
      else (
        let p6 : PM := pI p 10 v1 2 (cn 1)
        let p7 : PM := pI p6 10 v1 7 v2
        let p8 : PM := pI p7 10 v1 11 (F150 p7 v1)
        let r9 : Int32 × PM := F79 p8
        let p10 : PM := pI r9.2 10 v1 12 r9.1
        p10)))
noncomputable def v6_movePeg (p : PM) (v1 : Nat) (v2 : Int32) : PM := bv6_movePeg v6_nextTurn v10_hold v10_showable p v1 v2
noncomputable def bg6_movePeg (F79 : PM → Int32 × PM) (G79 : PM → Prop) (F149 : PM → Nat → PM) (G149 : PM → Nat → Prop) (F150 : PM → Nat → Int32) (G150 : PM → Nat → Prop) (p : PM) (v1 : Nat) (v2 : Int32) : Prop :=
  if v2 = (cn (-100000)) then (
    (¬ v1 = 0) ∧ (
    (G149 p v1) ∧ (
    let p11 : PM := F149 p v1
    True)))
  else (
    (¬ v1 = 0) ∧ (
    if (p.1 10 v1 2) = (cn 2) then (
      (¬ v1 = 0) ∧ (
      let p1 : PM := pI p 10 v1 2 (cn 1)
      (¬ v1 = 0) ∧ (
      let p2 : PM := pI p1 10 v1 7 v2
      (¬ v1 = 0) ∧ (
      (G150 p2 v1) ∧ (
      (¬ v1 = 0) ∧ (
      let p3 : PM := pI p2 10 v1 11 (F150 p2 v1)
      (G79 p3) ∧ (
      let r4 : Int32 × PM := F79 p3
      (¬ v1 = 0) ∧ (
      let p5 : PM := pI r4.2 10 v1 12 r4.1
      True))))))))
    else (
      (¬ v1 = 0) ∧ (
      if (p.1 10 v1 7) = v2 then (
        True)
      else (
        (¬ v1 = 0) ∧ (
        let p6 : PM := pI p 10 v1 2 (cn 1)
        (¬ v1 = 0) ∧ (
        let p7 : PM := pI p6 10 v1 7 v2
        (¬ v1 = 0) ∧ (
        (G150 p7 v1) ∧ (
        (¬ v1 = 0) ∧ (
        let p8 : PM := pI p7 10 v1 11 (F150 p7 v1)
        (G79 p8) ∧ (
        let r9 : Int32 × PM := F79 p8
        (¬ v1 = 0) ∧ (
        let p10 : PM := pI r9.2 10 v1 12 r9.1
        True))))))))))))
noncomputable def g6_movePeg (p : PM) (v1 : Nat) (v2 : Int32) : Prop := bg6_movePeg v6_nextTurn g6_nextTurn v10_hold g10_hold v10_showable g10_showable p v1 v2
def R102 : List Row := [(0, .iload_n 2, 1, 0, (0, 0, 0, 0, 0, 0)), (1, .ldc 71, 2, 0, (0, 0, 0, 0, 0, -100000)), (3, .if_icmp .ne 10, 3, 0, (0, 0, 0, 0, 0, 0)), (6, .aload_n 1, 1, 0, (0, 0, 0, 0, 0, 0)), (7, .invokevirtual 191, 3, 0, (2, 1, 0, 0, 2, 0)), (10, .goto 45, 3, 0, (0, 0, 0, 0, 0, 0)), (13, .aload_n 1, 1, 0, (0, 0, 0, 0, 0, 0)), (14, .getfield 29, 3, 0, (10, 2, 0, 0, 0, 0)), (17, .iconst 2, 1, 0, (0, 0, 0, 0, 0, 2)), (18, .if_icmp .eq 11, 3, 0, (0, 0, 0, 0, 0, 0)), (21, .aload_n 1, 1, 0, (0, 0, 0, 0, 0, 0)), (22, .getfield 55, 3, 0, (10, 7, 0, 0, 0, 0)), (25, .iload_n 2, 1, 0, (0, 0, 0, 0, 0, 0)), (26, .if_icmp .eq 29, 3, 0, (0, 0, 0, 0, 0, 0)), (29, .aload_n 1, 1, 0, (0, 0, 0, 0, 0, 0)), (30, .iconst 1, 1, 0, (0, 0, 0, 0, 0, 1)), (31, .putfield 29, 3, 0, (10, 2, 0, 0, 0, 0)), (34, .aload_n 1, 1, 0, (0, 0, 0, 0, 0, 0)), (35, .iload_n 2, 1, 0, (0, 0, 0, 0, 0, 0)), (36, .putfield 55, 3, 0, (10, 7, 0, 0, 0, 0)), (39, .aload_n 1, 1, 0, (0, 0, 0, 0, 0, 0)), (40, .aload_n 1, 1, 0, (0, 0, 0, 0, 0, 0)), (41, .invokevirtual 58, 3, 0, (0, 1, 0, 0, 2, 0)), (44, .putfield 62, 3, 0, (10, 11, 0, 0, 0, 0)), (47, .aload_n 1, 1, 0, (0, 0, 0, 0, 0, 0)), (48, .aload_n 0, 1, 0, (0, 0, 0, 0, 0, 0)), (49, .invokevirtual 65, 3, 0, (1, 1, 0, 0, 1, 0)), (52, .putfield 68, 3, 0, (10, 12, 0, 0, 0, 0)), (55, .return_, 1, 0, (0, 0, 0, 0, 0, 0))]
set_option maxRecDepth 100000 in
theorem rk102 : R102.all (rok 0 102 0 [(150, [13]), (79, [9]), (149, [13])]) = true := by decide +kernel
set_option maxRecDepth 100000 in
theorem tab102 {F150 : PM → Nat → Int32} {G150 : PM → Nat → Prop} {F79 : PM → Int32 × PM} {G79 : PM → Prop} {F149 : PM → Nat → PM} {G149 : PM → Nat → Prop} : TabOK 0 102 0 [CC150 F150 G150, CC79 F79 G79, CC149 F149 G149] R102 := tab_ok (K := K102) rfl rfl (fun h => d102 h) rk102 (by decide +kernel)
set_option maxRecDepth 100000 in
theorem pc102 : cutpc [] R102 = true := by decide +kernel
set_option maxRecDepth 100000 in
theorem r6_movePeg (F150 : PM → Nat → Int32) (G150 : PM → Nat → Prop) (o150 : CalOK 0 (CC150 F150 G150)) (F79 : PM → Int32 × PM) (G79 : PM → Prop) (o79 : CalOK 0 (CC79 F79 G79)) (F149 : PM → Nat → PM) (G149 : PM → Nat → Prop) (o149 : CalOK 0 (CC149 F149 G149)) : ∀ (p : PM) (v1 : Nat) (v2 : Int32), Gr 0 p → bg6_movePeg F79 G79 F149 G149 F150 G150 p v1 v2 → ZJ 0 102 0 [zR 6 1, zR 10 v1, zI v2] [] p (hwV (bv6_movePeg F79 F149 F150 p v1 v2)) := by
  intro p v1 v2  hg H
  exact rwV (n := 3000) (q := 0) (la := [zR 6 1, zR 10 v1, zI v2]) (sa := []) (ks := []) (gs := []) (fcons o150 (fcons o79 (fcons o149 (fnil)))) tab102 pc102 trivial hg H
theorem t6_movePeg : ∀ (p : PM) (v1 : Nat) (v2 : Int32), Gr 0 p → g6_movePeg p v1 v2 → ZJ 0 102 0 [zR 6 1, zR 10 v1, zI v2] [] p (hwV (v6_movePeg p v1 v2)) := r6_movePeg v10_showable g10_showable ok150 v6_nextTurn g6_nextTurn ok79 v10_hold g10_hold ok149
def CC102 (F : PM → Nat → Int32 → PM) (G : PM → Nat → Int32 → Prop) : Cal := (102, [9, 13, 0], 0, false, fun as p => (zJ, (F p (ar as 1) (ai as 2))), fun as p => zsw (tc2 as [(106, 1), (14, 0), (0, 0)]) False (G p (ar as 1) (ai as 2)))
set_option maxRecDepth 100000 in
theorem okr102 (F : PM → Nat → Int32 → PM) (G : PM → Nat → Int32 → Prop) (h : ∀ (p : PM) (v1 : Nat) (v2 : Int32), Gr 0 p → G p v1 v2 → ZJ 0 102 0 [zR 6 1, zR 10 v1, zI v2] [] p (hwV (F p v1 v2))) : CalOK 0 (CC102 F G) := cal_ok (m := 3) (by unfold mL; rw [mX_102]) (fun as p hg H => h p (ar as 1) (ai as 2) hg H)
theorem ok102 : CalOK 0 (CC102 v6_movePeg g6_movePeg) := okr102 v6_movePeg g6_movePeg t6_movePeg
noncomputable def bv6_pricePegs_5 (F100 : PM → Int32 → Nat) (F101 : PM → Nat → Int32) (F102 : PM → Nat → Int32 → PM) (kv5 : PM → Int32 → Int32 → PM) (p : PM) (v1 : Int32) (v2 : Int32) : PM :=
  if v2 < (cn 40) then (
    if (F100 p v1) = 0 then (
      p)
    else (
      let x1 : Int32 := (p.1 10 (F100 p v1) 0)
      let p2 : PM := F102 p (F100 p v1) (F101 p (F100 p v1))
      kv5 p2 x1 (v2 + (cn 1))))
  else (
    p)
noncomputable def v6_pricePegs_5 (n : Nat) : PM → Int32 → Int32 → PM := Nat.rec (motive := fun _ => PM → Int32 → Int32 → PM) (fun p _ _ => p) (fun _ ih => bv6_pricePegs_5 v6_nextPeg v6_pegPrice v6_movePeg ih) n
theorem ev6_pricePegs_5 (n : Nat) (p : PM) (v1 : Int32) (v2 : Int32) : v6_pricePegs_5 (n + 1) p v1 v2 = bv6_pricePegs_5 v6_nextPeg v6_pegPrice v6_movePeg (v6_pricePegs_5 n) p v1 v2 := rfl
noncomputable def bg6_pricePegs_5 (F100 : PM → Int32 → Nat) (G100 : PM → Int32 → Prop) (F101 : PM → Nat → Int32) (G101 : PM → Nat → Prop) (F102 : PM → Nat → Int32 → PM) (G102 : PM → Nat → Int32 → Prop) (kg5 : PM → Int32 → Int32 → Prop) (p : PM) (v1 : Int32) (v2 : Int32) : Prop :=
  if v2 < (cn 40) then (
    (G100 p v1) ∧ (
    if (F100 p v1) = 0 then (
      True)
    else (
      (¬ (F100 p v1) = 0) ∧ (
      let x1 : Int32 := (p.1 10 (F100 p v1) 0)
      (G101 p (F100 p v1)) ∧ (
      (G102 p (F100 p v1) (F101 p (F100 p v1))) ∧ (
      let p2 : PM := F102 p (F100 p v1) (F101 p (F100 p v1))
      kg5 p2 x1 (v2 + (cn 1))))))))
  else (
    True)
noncomputable def g6_pricePegs_5 (n : Nat) : PM → Int32 → Int32 → Prop := Nat.rec (motive := fun _ => PM → Int32 → Int32 → Prop) (fun _ _ _ => False) (fun _ ih => bg6_pricePegs_5 v6_nextPeg g6_nextPeg v6_pegPrice g6_pegPrice v6_movePeg g6_movePeg ih) n
theorem eg6_pricePegs_5 (n : Nat) (p : PM) (v1 : Int32) (v2 : Int32) : g6_pricePegs_5 (n + 1) p v1 v2 = bg6_pricePegs_5 v6_nextPeg g6_nextPeg v6_pegPrice g6_pegPrice v6_movePeg g6_movePeg (g6_pricePegs_5 n) p v1 v2 := rfl
noncomputable def bv6_pricePegs (kv5 : PM → Int32 → Int32 → PM) (p : PM) : PM :=
  kv5 p (cn (-100000)) (cn 0)
noncomputable def v6_pricePegs (p : PM) : PM := bv6_pricePegs (v6_pricePegs_5 FU) p
noncomputable def bg6_pricePegs (kg5 : PM → Int32 → Int32 → Prop) (p : PM) : Prop :=
  kg5 p (cn (-100000)) (cn 0)
noncomputable def g6_pricePegs (p : PM) : Prop := bg6_pricePegs (g6_pricePegs_5 FU) p
def R99 : List Row := [(0, .ldc 71, 2, 0, (0, 0, 0, 0, 0, -100000)), (2, .istore_n 1, 1, 0, (0, 0, 0, 0, 0, 0)), (3, .iconst 0, 1, 0, (0, 0, 0, 0, 0, 0)), (4, .istore_n 2, 1, 0, (0, 0, 0, 0, 0, 0)), (5, .iload_n 2, 1, 1, (0, 0, 0, 0, 0, 0)), (6, .bipush 40, 2, 0, (0, 0, 0, 0, 0, 40)), (8, .if_icmp .ge 35, 3, 0, (0, 0, 0, 0, 0, 0)), (11, .aload_n 0, 1, 0, (0, 0, 0, 0, 0, 0)), (12, .iload_n 1, 1, 0, (0, 0, 0, 0, 0, 0)), (13, .invokevirtual 194, 3, 0, (0, 2, 0, 0, 1, 0)), (16, .astore_n 3, 1, 0, (0, 0, 0, 0, 0, 0)), (17, .aload_n 3, 1, 0, (0, 0, 0, 0, 0, 0)), (18, .ifnonnull 4, 3, 0, (0, 0, 0, 0, 0, 0)), (21, .return_, 1, 0, (0, 0, 0, 0, 0, 0)), (22, .aload_n 3, 1, 0, (0, 0, 0, 0, 0, 0)), (23, .getfield 45, 3, 0, (10, 0, 0, 0, 0, 0)), (26, .istore_n 1, 1, 0, (0, 0, 0, 0, 0, 0)), (27, .aload_n 0, 1, 0, (0, 0, 0, 0, 0, 0)), (28, .aload_n 3, 1, 0, (0, 0, 0, 0, 0, 0)), (29, .aload_n 0, 1, 0, (0, 0, 0, 0, 0, 0)), (30, .aload_n 3, 1, 0, (0, 0, 0, 0, 0, 0)), (31, .invokevirtual 197, 3, 0, (1, 2, 0, 0, 1, 0)), (34, .invokevirtual 201, 3, 0, (2, 3, 0, 0, 1, 0)), (37, .iinc 2 1, 3, 0, (0, 0, 0, 0, 0, 1)), (40, .goto (-35), 3, 0, (0, 0, 0, 0, 0, 0)), (43, .return_, 1, 0, (0, 0, 0, 0, 0, 0))]
set_option maxRecDepth 100000 in
theorem rk99 : R99.all (rok 0 99 0 [(100, [9, 0]), (101, [9, 13]), (102, [9, 13, 0])]) = true := by decide +kernel
set_option maxRecDepth 100000 in
theorem tab99 {F100 : PM → Int32 → Nat} {G100 : PM → Int32 → Prop} {F101 : PM → Nat → Int32} {G101 : PM → Nat → Prop} {F102 : PM → Nat → Int32 → PM} {G102 : PM → Nat → Int32 → Prop} : TabOK 0 99 0 [CC100 F100 G100, CC101 F101 G101, CC102 F102 G102] R99 := tab_ok (K := K99) rfl rfl (fun h => d99 h) rk99 (by decide +kernel)
set_option maxRecDepth 100000 in
theorem pc99 : cutpc [5] R99 = true := by decide +kernel
set_option maxRecDepth 100000 in
theorem r6_pricePegs_5 (F100 : PM → Int32 → Nat) (G100 : PM → Int32 → Prop) (o100 : CalOK 0 (CC100 F100 G100)) (F101 : PM → Nat → Int32) (G101 : PM → Nat → Prop) (o101 : CalOK 0 (CC101 F101 G101)) (F102 : PM → Nat → Int32 → PM) (G102 : PM → Nat → Int32 → Prop) (o102 : CalOK 0 (CC102 F102 G102)) (kv5 : PM → Int32 → Int32 → PM) (kg5 : PM → Int32 → Int32 → Prop) (hk5 : ∀ (p : PM) (v1 : Int32) (v2 : Int32) (d3 : ZV), Gr 0 p → kg5 p v1 v2 → ZJ 0 99 5 [zR 6 1, zI v1, zI v2, d3] [] p (hwV (kv5 p v1 v2))) : ∀ (p : PM) (v1 : Int32) (v2 : Int32) (d3 : ZV), Gr 0 p → bg6_pricePegs_5 F100 G100 F101 G101 F102 G102 kg5 p v1 v2 → ZJ 0 99 5 [zR 6 1, zI v1, zI v2, d3] [] p (hwV (bv6_pricePegs_5 F100 F101 F102 kv5 p v1 v2)) := by
  intro p v1 v2 d3 hg H
  exact rwV (n := 3000) (q := 5) (la := [zR 6 1, zI v1, zI v2, d3]) (sa := []) (ks := [fun la sa s => kv5 s (ai la 1) (ai la 2)]) (gs := [fun la sa s => zsw (tc2 la [(106, 1), (0, 0), (0, 0), (2, 0)] && tc2 sa []) False (kg5 s (ai la 1) (ai la 2))]) (fcons o100 (fcons o101 (fcons o102 (fnil)))) tab99 pc99 ⟨fun la sa s hg H => zcut H fun H => hk5 s (ai la 1) (ai la 2) (zld la 3) hg H, trivial⟩ hg H
theorem t6_pricePegs_5 : ∀ (n : Nat), ∀ (p : PM) (v1 : Int32) (v2 : Int32) (d3 : ZV), Gr 0 p → g6_pricePegs_5 n p v1 v2 → ZJ 0 99 5 [zR 6 1, zI v1, zI v2, d3] [] p (hwV (v6_pricePegs_5 n p v1 v2)) := by
  intro n
  induction n with
  | zero =>
    intro p v1 v2 d3 hg H
    exact H.elim
  | succ n ih => exact r6_pricePegs_5 v6_nextPeg g6_nextPeg ok100 v6_pegPrice g6_pegPrice ok101 v6_movePeg g6_movePeg ok102 (v6_pricePegs_5 n) (g6_pricePegs_5 n) ih
set_option maxRecDepth 100000 in
theorem r6_pricePegs (F100 : PM → Int32 → Nat) (G100 : PM → Int32 → Prop) (o100 : CalOK 0 (CC100 F100 G100)) (F101 : PM → Nat → Int32) (G101 : PM → Nat → Prop) (o101 : CalOK 0 (CC101 F101 G101)) (F102 : PM → Nat → Int32 → PM) (G102 : PM → Nat → Int32 → Prop) (o102 : CalOK 0 (CC102 F102 G102)) (kv5 : PM → Int32 → Int32 → PM) (kg5 : PM → Int32 → Int32 → Prop) (hk5 : ∀ (p : PM) (v1 : Int32) (v2 : Int32) (d3 : ZV), Gr 0 p → kg5 p v1 v2 → ZJ 0 99 5 [zR 6 1, zI v1, zI v2, d3] [] p (hwV (kv5 p v1 v2))) : ∀ (p : PM), Gr 0 p → bg6_pricePegs kg5 p → ZJ 0 99 0 [zR 6 1, zJ, zJ, zJ] [] p (hwV (bv6_pricePegs kv5 p)) := by
  intro p   hg H
  exact rwV (n := 3000) (q := 0) (la := [zR 6 1, zJ, zJ, zJ]) (sa := []) (ks := [fun la sa s => kv5 s (ai la 1) (ai la 2)]) (gs := [fun la sa s => zsw (tc2 la [(106, 1), (0, 0), (0, 0), (2, 0)] && tc2 sa []) False (kg5 s (ai la 1) (ai la 2))]) (fcons o100 (fcons o101 (fcons o102 (fnil)))) tab99 pc99 ⟨fun la sa s hg H => zcut H fun H => hk5 s (ai la 1) (ai la 2) (zld la 3) hg H, trivial⟩ hg H
theorem t6_pricePegs : ∀ (p : PM), Gr 0 p → g6_pricePegs p → ZJ 0 99 0 [zR 6 1, zJ, zJ, zJ] [] p (hwV (v6_pricePegs p)) := r6_pricePegs v6_nextPeg g6_nextPeg ok100 v6_pegPrice g6_pegPrice ok101 v6_movePeg g6_movePeg ok102 (v6_pricePegs_5 FU) (g6_pricePegs_5 FU) (t6_pricePegs_5 FU)
def CC99 (F : PM → PM) (G : PM → Prop) : Cal := (99, [9], 0, false, fun as p => (zJ, (F p )), fun as p => zsw (tc2 as [(106, 1)]) False (G p ))
set_option maxRecDepth 100000 in
theorem okr99 (F : PM → PM) (G : PM → Prop) (h : ∀ (p : PM), Gr 0 p → G p  → ZJ 0 99 0 [zR 6 1, zJ, zJ, zJ] [] p (hwV (F p ))) : CalOK 0 (CC99 F G) := cal_ok (m := 4) (by unfold mL; rw [mX_99]) (fun as p hg H => h p  hg H)
theorem ok99 : CalOK 0 (CC99 v6_pricePegs g6_pricePegs) := okr99 v6_pricePegs g6_pricePegs t6_pricePegs
noncomputable def bv5_work_2 (F47 : PM → Int32 → Int32 → Int32 × PM) (F48 : PM → Int32 → Int32 × PM) (F97 : PM → Nat) (F99 : PM → PM) (F108 : PM → Nat → Int32) (F123 : PM → Nat → PM) (kv2 : PM → Int32 → PM) (p : PM) (v1 : Int32) : PM :=
  if v1 < (cn 1000000) then (
    if (F97 p) = 0 then (
      let r2 : Int32 × PM := F47 p (cn 4) (cn 1)
      if r2.1 = 0 then (
        let r3 : Int32 × PM := F47 r2.2 (cn 4) (cn 0)
        if r3.1 = 0 then (
          let r4 : Int32 × PM := F47 r3.2 (cn 5) (cn 1)
          if r4.1 = 0 then (
            let r5 : Int32 × PM := F47 r4.2 (cn 5) (cn 0)
            if r5.1 = 0 then (
              let r6 : Int32 × PM := F48 r5.2 (cn 1)
              if r6.1 = 0 then (
                let r7 : Int32 × PM := F48 r6.2 (cn 0)
                if r7.1 = 0 then (
                  let p8 : PM := F99 r7.2
                  p8)
                else (
                  kv2 r7.2 (v1 + (cn 1))))
              else (
                kv2 r6.2 (v1 + (cn 1))))
            else (
              kv2 r5.2 (v1 + (cn 1))))
          else (
            kv2 r4.2 (v1 + (cn 1))))
        else (
          kv2 r3.2 (v1 + (cn 1))))
      else (
        kv2 r2.2 (v1 + (cn 1))))
    else (
      let p9 : PM := pI p 10 (F97 p) 15 (F108 p (p.2.2 10 (F97 p) 4))
      let p10 : PM := F123 p9 (F97 p)
      kv2 p10 (v1 + (cn 1))))
  else (
    let p1 : PM := F99 p
    p1)
noncomputable def v5_work_2 (n : Nat) : PM → Int32 → PM := Nat.rec (motive := fun _ => PM → Int32 → PM) (fun p _ => p) (fun _ ih => bv5_work_2 v3_makePair v3_makeChain v6_dueStop v6_pricePegs v7_latestOf v8_match ih) n
theorem ev5_work_2 (n : Nat) (p : PM) (v1 : Int32) : v5_work_2 (n + 1) p v1 = bv5_work_2 v3_makePair v3_makeChain v6_dueStop v6_pricePegs v7_latestOf v8_match (v5_work_2 n) p v1 := rfl
noncomputable def bg5_work_2 (F47 : PM → Int32 → Int32 → Int32 × PM) (G47 : PM → Int32 → Int32 → Prop) (F48 : PM → Int32 → Int32 × PM) (G48 : PM → Int32 → Prop) (F97 : PM → Nat) (G97 : PM → Prop) (F99 : PM → PM) (G99 : PM → Prop) (F108 : PM → Nat → Int32) (G108 : PM → Nat → Prop) (F123 : PM → Nat → PM) (G123 : PM → Nat → Prop) (kg2 : PM → Int32 → Prop) (p : PM) (v1 : Int32) : Prop :=
  if v1 < (cn 1000000) then (
    (G97 p) ∧ (
    if (F97 p) = 0 then (
      (G47 p (cn 4) (cn 1)) ∧ (
      let r2 : Int32 × PM := F47 p (cn 4) (cn 1)
      if r2.1 = 0 then (
        (G47 r2.2 (cn 4) (cn 0)) ∧ (
        let r3 : Int32 × PM := F47 r2.2 (cn 4) (cn 0)
        if r3.1 = 0 then (
          (G47 r3.2 (cn 5) (cn 1)) ∧ (
          let r4 : Int32 × PM := F47 r3.2 (cn 5) (cn 1)
          if r4.1 = 0 then (
            (G47 r4.2 (cn 5) (cn 0)) ∧ (
            let r5 : Int32 × PM := F47 r4.2 (cn 5) (cn 0)
            if r5.1 = 0 then (
              (G48 r5.2 (cn 1)) ∧ (
              let r6 : Int32 × PM := F48 r5.2 (cn 1)
              if r6.1 = 0 then (
                (G48 r6.2 (cn 0)) ∧ (
                let r7 : Int32 × PM := F48 r6.2 (cn 0)
                if r7.1 = 0 then (
                  (G99 r7.2) ∧ (
                  let p8 : PM := F99 r7.2
                  True))
                else (
                  kg2 r7.2 (v1 + (cn 1)))))
              else (
                kg2 r6.2 (v1 + (cn 1)))))
            else (
              kg2 r5.2 (v1 + (cn 1)))))
          else (
            kg2 r4.2 (v1 + (cn 1)))))
        else (
          kg2 r3.2 (v1 + (cn 1)))))
      else (
        kg2 r2.2 (v1 + (cn 1)))))
    else (
      (¬ (F97 p) = 0) ∧ (
      (G108 p (p.2.2 10 (F97 p) 4)) ∧ (
      (¬ (F97 p) = 0) ∧ (
      let p9 : PM := pI p 10 (F97 p) 15 (F108 p (p.2.2 10 (F97 p) 4))
      (G123 p9 (F97 p)) ∧ (
      let p10 : PM := F123 p9 (F97 p)
      kg2 p10 (v1 + (cn 1)))))))))
  else (
    (G99 p) ∧ (
    let p1 : PM := F99 p
    True))
noncomputable def g5_work_2 (n : Nat) : PM → Int32 → Prop := Nat.rec (motive := fun _ => PM → Int32 → Prop) (fun _ _ => False) (fun _ ih => bg5_work_2 v3_makePair g3_makePair v3_makeChain g3_makeChain v6_dueStop g6_dueStop v6_pricePegs g6_pricePegs v7_latestOf g7_latestOf v8_match g8_match ih) n
theorem eg5_work_2 (n : Nat) (p : PM) (v1 : Int32) : g5_work_2 (n + 1) p v1 = bg5_work_2 v3_makePair g3_makePair v3_makeChain g3_makeChain v6_dueStop g6_dueStop v6_pricePegs g6_pricePegs v7_latestOf g7_latestOf v8_match g8_match (g5_work_2 n) p v1 := rfl
noncomputable def bv5_work (kv2 : PM → Int32 → PM) (p : PM) : PM :=
  kv2 p (cn 0)
noncomputable def v5_work (p : PM) : PM := bv5_work (v5_work_2 FU) p
noncomputable def bg5_work (kg2 : PM → Int32 → Prop) (p : PM) : Prop :=
  kg2 p (cn 0)
noncomputable def g5_work (p : PM) : Prop := bg5_work (g5_work_2 FU) p
def R71 : List Row := [(0, .iconst 0, 1, 0, (0, 0, 0, 0, 0, 0)), (1, .istore_n 1, 1, 0, (0, 0, 0, 0, 0, 0)), (2, .iload_n 1, 1, 1, (0, 0, 0, 0, 0, 0)), (3, .ldc 227, 2, 0, (0, 0, 0, 0, 0, 1000000)), (5, .if_icmp .ge 120, 3, 0, (0, 0, 0, 0, 0, 0)), (8, .aload_n 0, 1, 0, (0, 0, 0, 0, 0, 0)), (9, .getfield 34, 3, 0, (5, 0, 9, 2, 1, 0)), (12, .invokevirtual 228, 3, 0, (1, 1, 0, 0, 1, 0)), (15, .astore_n 2, 1, 0, (0, 0, 0, 0, 0, 0)), (16, .aload_n 2, 1, 0, (0, 0, 0, 0, 0, 0)), (17, .ifnull 29, 3, 0, (0, 0, 0, 0, 0, 0)), (20, .aload_n 2, 1, 0, (0, 0, 0, 0, 0, 0)), (21, .aload_n 0, 1, 0, (0, 0, 0, 0, 0, 0)), (22, .getfield 19, 3, 0, (5, 1, 10, 2, 1, 0)), (25, .aload_n 2, 1, 0, (0, 0, 0, 0, 0, 0)), (26, .getfield 144, 3, 0, (10, 4, 4, 0, 0, 0)), (29, .invokevirtual 232, 3, 0, (4, 2, 0, 0, 1, 0)), (32, .putfield 236, 3, 0, (10, 15, 0, 0, 0, 0)), (35, .aload_n 0, 1, 0, (0, 0, 0, 0, 0, 0)), (36, .getfield 43, 3, 0, (5, 2, 11, 2, 1, 0)), (39, .aload_n 2, 1, 0, (0, 0, 0, 0, 0, 0)), (40, .invokevirtual 154, 3, 0, (5, 2, 0, 0, 1, 0)), (43, .goto 76, 3, 0, (0, 0, 0, 0, 0, 0)), (46, .aload_n 0, 1, 0, (0, 0, 0, 0, 0, 0)), (47, .getfield 50, 3, 0, (5, 3, 6, 2, 1, 0)), (50, .iconst 4, 1, 0, (0, 0, 0, 0, 0, 4)), (51, .iconst 1, 1, 0, (0, 0, 0, 0, 0, 1)), (52, .invokevirtual 239, 3, 0, (2, 3, 0, 0, 1, 0)), (55, .ifCond .ne 64, 3, 0, (0, 0, 0, 0, 0, 0)), (58, .aload_n 0, 1, 0, (0, 0, 0, 0, 0, 0)), (59, .getfield 50, 3, 0, (5, 3, 6, 2, 1, 0)), (62, .iconst 4, 1, 0, (0, 0, 0, 0, 0, 4)), (63, .iconst 0, 1, 0, (0, 0, 0, 0, 0, 0)), (64, .invokevirtual 239, 3, 0, (2, 3, 0, 0, 1, 0)), (67, .ifCond .ne 52, 3, 0, (0, 0, 0, 0, 0, 0)), (70, .aload_n 0, 1, 0, (0, 0, 0, 0, 0, 0)), (71, .getfield 50, 3, 0, (5, 3, 6, 2, 1, 0)), (74, .iconst 5, 1, 0, (0, 0, 0, 0, 0, 5)), (75, .iconst 1, 1, 0, (0, 0, 0, 0, 0, 1)), (76, .invokevirtual 239, 3, 0, (2, 3, 0, 0, 1, 0)), (79, .ifCond .ne 40, 3, 0, (0, 0, 0, 0, 0, 0)), (82, .aload_n 0, 1, 0, (0, 0, 0, 0, 0, 0)), (83, .getfield 50, 3, 0, (5, 3, 6, 2, 1, 0)), (86, .iconst 5, 1, 0, (0, 0, 0, 0, 0, 5)), (87, .iconst 0, 1, 0, (0, 0, 0, 0, 0, 0)), (88, .invokevirtual 239, 3, 0, (2, 3, 0, 0, 1, 0)), (91, .ifCond .ne 28, 3, 0, (0, 0, 0, 0, 0, 0)), (94, .aload_n 0, 1, 0, (0, 0, 0, 0, 0, 0)), (95, .getfield 50, 3, 0, (5, 3, 6, 2, 1, 0)), (98, .iconst 1, 1, 0, (0, 0, 0, 0, 0, 1)), (99, .invokevirtual 243, 3, 0, (3, 2, 0, 0, 1, 0)), (102, .ifCond .ne 17, 3, 0, (0, 0, 0, 0, 0, 0)), (105, .aload_n 0, 1, 0, (0, 0, 0, 0, 0, 0)), (106, .getfield 50, 3, 0, (5, 3, 6, 2, 1, 0)), (109, .iconst 0, 1, 0, (0, 0, 0, 0, 0, 0)), (110, .invokevirtual 243, 3, 0, (3, 2, 0, 0, 1, 0)), (113, .ifCond .ne 6, 3, 0, (0, 0, 0, 0, 0, 0)), (116, .goto 9, 3, 0, (0, 0, 0, 0, 0, 0)), (119, .iinc 1 1, 3, 0, (0, 0, 0, 0, 0, 1)), (122, .goto (-120), 3, 0, (0, 0, 0, 0, 0, 0)), (125, .aload_n 0, 1, 0, (0, 0, 0, 0, 0, 0)), (126, .getfield 34, 3, 0, (5, 0, 9, 2, 1, 0)), (129, .invokevirtual 247, 3, 0, (0, 1, 0, 0, 1, 0)), (132, .return_, 1, 0, (0, 0, 0, 0, 0, 0))]
set_option maxRecDepth 100000 in
theorem rk71 : R71.all (rok 0 71 0 [(99, [9]), (97, [9]), (47, [6, 0, 0]), (48, [6, 0]), (108, [10, 4]), (123, [11, 13])]) = true := by decide +kernel
set_option maxRecDepth 100000 in
theorem tab71 {F99 : PM → PM} {G99 : PM → Prop} {F97 : PM → Nat} {G97 : PM → Prop} {F47 : PM → Int32 → Int32 → Int32 × PM} {G47 : PM → Int32 → Int32 → Prop} {F48 : PM → Int32 → Int32 × PM} {G48 : PM → Int32 → Prop} {F108 : PM → Nat → Int32} {G108 : PM → Nat → Prop} {F123 : PM → Nat → PM} {G123 : PM → Nat → Prop} : TabOK 0 71 0 [CC99 F99 G99, CC97 F97 G97, CC47 F47 G47, CC48 F48 G48, CC108 F108 G108, CC123 F123 G123] R71 := tab_ok (K := K71) rfl rfl (fun h => d71 h) rk71 (by decide +kernel)
set_option maxRecDepth 100000 in
theorem pc71 : cutpc [2] R71 = true := by decide +kernel
set_option maxRecDepth 100000 in
theorem r5_work_2 (F99 : PM → PM) (G99 : PM → Prop) (o99 : CalOK 0 (CC99 F99 G99)) (F97 : PM → Nat) (G97 : PM → Prop) (o97 : CalOK 0 (CC97 F97 G97)) (F47 : PM → Int32 → Int32 → Int32 × PM) (G47 : PM → Int32 → Int32 → Prop) (o47 : CalOK 0 (CC47 F47 G47)) (F48 : PM → Int32 → Int32 × PM) (G48 : PM → Int32 → Prop) (o48 : CalOK 0 (CC48 F48 G48)) (F108 : PM → Nat → Int32) (G108 : PM → Nat → Prop) (o108 : CalOK 0 (CC108 F108 G108)) (F123 : PM → Nat → PM) (G123 : PM → Nat → Prop) (o123 : CalOK 0 (CC123 F123 G123)) (kv2 : PM → Int32 → PM) (kg2 : PM → Int32 → Prop) (hk2 : ∀ (p : PM) (v1 : Int32) (d2 : ZV), Gr 0 p → kg2 p v1 → ZJ 0 71 2 [zR 5 1, zI v1, d2] [] p (hwV (kv2 p v1))) : ∀ (p : PM) (v1 : Int32) (d2 : ZV), Gr 0 p → bg5_work_2 F47 G47 F48 G48 F97 G97 F99 G99 F108 G108 F123 G123 kg2 p v1 → ZJ 0 71 2 [zR 5 1, zI v1, d2] [] p (hwV (bv5_work_2 F47 F48 F97 F99 F108 F123 kv2 p v1)) := by
  intro p v1 d2 hg H
  exact rwV (n := 3000) (q := 2) (la := [zR 5 1, zI v1, d2]) (sa := []) (ks := [fun la sa s => kv2 s (ai la 1)]) (gs := [fun la sa s => zsw (tc2 la [(105, 1), (0, 0), (2, 0)] && tc2 sa []) False (kg2 s (ai la 1))]) (fcons o99 (fcons o97 (fcons o47 (fcons o48 (fcons o108 (fcons o123 (fnil))))))) tab71 pc71 ⟨fun la sa s hg H => zcut H fun H => hk2 s (ai la 1) (zld la 2) hg H, trivial⟩ hg H
theorem t5_work_2 : ∀ (n : Nat), ∀ (p : PM) (v1 : Int32) (d2 : ZV), Gr 0 p → g5_work_2 n p v1 → ZJ 0 71 2 [zR 5 1, zI v1, d2] [] p (hwV (v5_work_2 n p v1)) := by
  intro n
  induction n with
  | zero =>
    intro p v1 d2 hg H
    exact H.elim
  | succ n ih => exact r5_work_2 v6_pricePegs g6_pricePegs ok99 v6_dueStop g6_dueStop ok97 v3_makePair g3_makePair ok47 v3_makeChain g3_makeChain ok48 v7_latestOf g7_latestOf ok108 v8_match g8_match ok123 (v5_work_2 n) (g5_work_2 n) ih
set_option maxRecDepth 100000 in
theorem r5_work (F99 : PM → PM) (G99 : PM → Prop) (o99 : CalOK 0 (CC99 F99 G99)) (F97 : PM → Nat) (G97 : PM → Prop) (o97 : CalOK 0 (CC97 F97 G97)) (F47 : PM → Int32 → Int32 → Int32 × PM) (G47 : PM → Int32 → Int32 → Prop) (o47 : CalOK 0 (CC47 F47 G47)) (F48 : PM → Int32 → Int32 × PM) (G48 : PM → Int32 → Prop) (o48 : CalOK 0 (CC48 F48 G48)) (F108 : PM → Nat → Int32) (G108 : PM → Nat → Prop) (o108 : CalOK 0 (CC108 F108 G108)) (F123 : PM → Nat → PM) (G123 : PM → Nat → Prop) (o123 : CalOK 0 (CC123 F123 G123)) (kv2 : PM → Int32 → PM) (kg2 : PM → Int32 → Prop) (hk2 : ∀ (p : PM) (v1 : Int32) (d2 : ZV), Gr 0 p → kg2 p v1 → ZJ 0 71 2 [zR 5 1, zI v1, d2] [] p (hwV (kv2 p v1))) : ∀ (p : PM), Gr 0 p → bg5_work kg2 p → ZJ 0 71 0 [zR 5 1, zJ, zJ] [] p (hwV (bv5_work kv2 p)) := by
  intro p   hg H
  exact rwV (n := 3000) (q := 0) (la := [zR 5 1, zJ, zJ]) (sa := []) (ks := [fun la sa s => kv2 s (ai la 1)]) (gs := [fun la sa s => zsw (tc2 la [(105, 1), (0, 0), (2, 0)] && tc2 sa []) False (kg2 s (ai la 1))]) (fcons o99 (fcons o97 (fcons o47 (fcons o48 (fcons o108 (fcons o123 (fnil))))))) tab71 pc71 ⟨fun la sa s hg H => zcut H fun H => hk2 s (ai la 1) (zld la 2) hg H, trivial⟩ hg H
theorem t5_work : ∀ (p : PM), Gr 0 p → g5_work p → ZJ 0 71 0 [zR 5 1, zJ, zJ] [] p (hwV (v5_work p)) := r5_work v6_pricePegs g6_pricePegs ok99 v6_dueStop g6_dueStop ok97 v3_makePair g3_makePair ok47 v3_makeChain g3_makeChain ok48 v7_latestOf g7_latestOf ok108 v8_match g8_match ok123 (v5_work_2 FU) (g5_work_2 FU) (t5_work_2 FU)
def CC71 (F : PM → PM) (G : PM → Prop) : Cal := (71, [8], 0, false, fun as p => (zJ, (F p )), fun as p => zsw (tc2 as [(105, 1)]) False (G p ))
set_option maxRecDepth 100000 in
theorem okr71 (F : PM → PM) (G : PM → Prop) (h : ∀ (p : PM), Gr 0 p → G p  → ZJ 0 71 0 [zR 5 1, zJ, zJ] [] p (hwV (F p ))) : CalOK 0 (CC71 F G) := cal_ok (m := 3) (by unfold mL; rw [mX_71]) (fun as p hg H => h p  hg H)
theorem ok71 : CalOK 0 (CC71 v5_work g5_work) := okr71 v5_work g5_work t5_work
noncomputable def bv5_letPass_42 (F71 : PM → PM) (F131 : PM → Nat → Int32 × PM) (kv2 : PM → Int32 → Int32 → Int32 × PM) (kv42 : PM → Int32 → Int32 → Int32 → Int32 × PM) (p : PM) (v1 : Int32) (v2 : Int32) (v5 : Int32) : Int32 × PM :=
  if v5 < (cn 6) then (
    if (p.1 1 ((v5).toNatClampNeg + 1) 5) = 0 then (
      kv42 p v1 v2 (v5 + (cn 1)))
    else (
      if (p.1 6 1 2) < (p.1 1 ((v5).toNatClampNeg + 1) 7) then (
        kv42 p v1 v2 (v5 + (cn 1)))
      else (
        let r1 : Int32 × PM := F131 p ((v5).toNatClampNeg + 1)
        if r1.1 = 0 then (
          kv42 r1.2 v1 v2 (v5 + (cn 1)))
        else (
          let p2 : PM := F71 r1.2
          kv42 p2 v1 v2 (v5 + (cn 1))))))
  else (
    kv2 p v1 (v2 + (cn 1)))
noncomputable def v5_letPass_42 (kv2 : PM → Int32 → Int32 → Int32 × PM) (n : Nat) : PM → Int32 → Int32 → Int32 → Int32 × PM := Nat.rec (motive := fun _ => PM → Int32 → Int32 → Int32 → Int32 × PM) (fun p _ _ _ => (0, p)) (fun _ ih => bv5_letPass_42 v5_work v8_endAuction kv2 ih) n
theorem ev5_letPass_42 (kv2 : PM → Int32 → Int32 → Int32 × PM) (n : Nat) (p : PM) (v1 : Int32) (v2 : Int32) (v5 : Int32) : v5_letPass_42 kv2 (n + 1) p v1 v2 v5 = bv5_letPass_42 v5_work v8_endAuction kv2 (v5_letPass_42 kv2 n) p v1 v2 v5 := rfl
noncomputable def bg5_letPass_42 (F71 : PM → PM) (G71 : PM → Prop) (F131 : PM → Nat → Int32 × PM) (G131 : PM → Nat → Prop) (kg2 : PM → Int32 → Int32 → Prop) (kg42 : PM → Int32 → Int32 → Int32 → Prop) (p : PM) (v1 : Int32) (v2 : Int32) (v5 : Int32) : Prop :=
  if v5 < (cn 6) then (
    (inb v5 6) ∧ (
    if (p.1 1 ((v5).toNatClampNeg + 1) 5) = 0 then (
      kg42 p v1 v2 (v5 + (cn 1)))
    else (
      if (p.1 6 1 2) < (p.1 1 ((v5).toNatClampNeg + 1) 7) then (
        kg42 p v1 v2 (v5 + (cn 1)))
      else (
        (G131 p ((v5).toNatClampNeg + 1)) ∧ (
        let r1 : Int32 × PM := F131 p ((v5).toNatClampNeg + 1)
        if r1.1 = 0 then (
          kg42 r1.2 v1 v2 (v5 + (cn 1)))
        else (
          (G71 r1.2) ∧ (
          let p2 : PM := F71 r1.2
          kg42 p2 v1 v2 (v5 + (cn 1)))))))))
  else (
    kg2 p v1 (v2 + (cn 1)))
noncomputable def g5_letPass_42 (kg2 : PM → Int32 → Int32 → Prop) (n : Nat) : PM → Int32 → Int32 → Int32 → Prop := Nat.rec (motive := fun _ => PM → Int32 → Int32 → Int32 → Prop) (fun _ _ _ _ => False) (fun _ ih => bg5_letPass_42 v5_work g5_work v8_endAuction g8_endAuction kg2 ih) n
theorem eg5_letPass_42 (kg2 : PM → Int32 → Int32 → Prop) (n : Nat) (p : PM) (v1 : Int32) (v2 : Int32) (v5 : Int32) : g5_letPass_42 kg2 (n + 1) p v1 v2 v5 = bg5_letPass_42 v5_work g5_work v8_endAuction g8_endAuction kg2 (g5_letPass_42 kg2 n) p v1 v2 v5 := rfl
noncomputable def bv5_letPass_2 (F91 : PM → PM) (kv42 : PM → Int32 → Int32 → Int32 → Int32 × PM) (p : PM) (v1 : Int32) (v2 : Int32) : Int32 × PM :=
  if v2 < v1 then (
    let p1 : PM := pI p 6 1 2 ((p.1 6 1 2) + (cn 1))
    let p2 : PM := F91 p1
    kv42 p2 v1 v2 (cn 0))
  else (
    ((p.1 6 1 2), p))
noncomputable def v5_letPass_2 (n : Nat) : PM → Int32 → Int32 → Int32 × PM := Nat.rec (motive := fun _ => PM → Int32 → Int32 → Int32 × PM) (fun p _ _ => (0, p)) (fun _ ih => bv5_letPass_2 v6_countQuotes (v5_letPass_42 ih FU)) n
theorem ev5_letPass_2 (n : Nat) (p : PM) (v1 : Int32) (v2 : Int32) : v5_letPass_2 (n + 1) p v1 v2 = bv5_letPass_2 v6_countQuotes (v5_letPass_42 (v5_letPass_2 n) FU) p v1 v2 := rfl
noncomputable def bg5_letPass_2 (F91 : PM → PM) (G91 : PM → Prop) (kg42 : PM → Int32 → Int32 → Int32 → Prop) (p : PM) (v1 : Int32) (v2 : Int32) : Prop :=
  if v2 < v1 then (
    let p1 : PM := pI p 6 1 2 ((p.1 6 1 2) + (cn 1))
    (G91 p1) ∧ (
    let p2 : PM := F91 p1
    kg42 p2 v1 v2 (cn 0)))
  else (
    True)
noncomputable def g5_letPass_2 (n : Nat) : PM → Int32 → Int32 → Prop := Nat.rec (motive := fun _ => PM → Int32 → Int32 → Prop) (fun _ _ _ => False) (fun _ ih => bg5_letPass_2 v6_countQuotes g6_countQuotes (g5_letPass_42 ih FU)) n
theorem eg5_letPass_2 (n : Nat) (p : PM) (v1 : Int32) (v2 : Int32) : g5_letPass_2 (n + 1) p v1 v2 = bg5_letPass_2 v6_countQuotes g6_countQuotes (g5_letPass_42 (g5_letPass_2 n) FU) p v1 v2 := rfl
noncomputable def bv5_letPass (kv2 : PM → Int32 → Int32 → Int32 × PM) (p : PM) (v1 : Int32) : Int32 × PM :=
  kv2 p v1 (cn 0)
noncomputable def v5_letPass (p : PM) (v1 : Int32) : Int32 × PM := bv5_letPass (v5_letPass_2 FU) p v1
noncomputable def bg5_letPass (kg2 : PM → Int32 → Int32 → Prop) (p : PM) (v1 : Int32) : Prop :=
  kg2 p v1 (cn 0)
noncomputable def g5_letPass (p : PM) (v1 : Int32) : Prop := bg5_letPass (g5_letPass_2 FU) p v1
def R66 : List Row := [(0, .iconst 0, 1, 0, (0, 0, 0, 0, 0, 0)), (1, .istore_n 2, 1, 0, (0, 0, 0, 0, 0, 0)), (2, .iload_n 2, 1, 1, (0, 0, 0, 0, 0, 0)), (3, .iload_n 1, 1, 0, (0, 0, 0, 0, 0, 0)), (4, .if_icmp .ge 102, 3, 0, (0, 0, 0, 0, 0, 0)), (7, .aload_n 0, 1, 0, (0, 0, 0, 0, 0, 0)), (8, .getfield 34, 3, 0, (5, 0, 9, 2, 1, 0)), (11, .dup, 1, 0, (0, 0, 0, 0, 0, 0)), (12, .getfield 157, 3, 0, (6, 2, 0, 1, 0, 0)), (15, .iconst 1, 1, 0, (0, 0, 0, 0, 0, 1)), (16, .iadd, 1, 0, (0, 0, 0, 0, 0, 0)), (17, .putfield 157, 3, 0, (6, 2, 0, 1, 0, 0)), (20, .aload_n 0, 1, 0, (0, 0, 0, 0, 0, 0)), (21, .getfield 34, 3, 0, (5, 0, 9, 2, 1, 0)), (24, .invokevirtual 160, 3, 0, (0, 1, 0, 0, 1, 0)), (27, .aload_n 0, 1, 0, (0, 0, 0, 0, 0, 0)), (28, .getfield 34, 3, 0, (5, 0, 9, 2, 1, 0)), (31, .getfield 163, 3, 0, (6, 0, 20, 2, 1, 0)), (34, .astore_n 3, 1, 0, (0, 0, 0, 0, 0, 0)), (35, .aload_n 3, 1, 0, (0, 0, 0, 0, 0, 0)), (36, .arraylength, 1, 0, (17, 6, 0, 0, 0, 6)), (37, .istore 4, 2, 0, (0, 0, 0, 0, 0, 0)), (39, .iconst 0, 1, 0, (0, 0, 0, 0, 0, 0)), (40, .istore 5, 2, 0, (0, 0, 0, 0, 0, 0)), (42, .iload 5, 2, 2, (0, 0, 0, 0, 0, 0)), (44, .iload 4, 2, 0, (0, 0, 0, 0, 0, 0)), (46, .if_icmp .ge 54, 3, 0, (0, 0, 0, 0, 0, 0)), (49, .aload_n 3, 1, 0, (0, 0, 0, 0, 0, 0)), (50, .iload 5, 2, 0, (0, 0, 0, 0, 0, 0)), (52, .aaload, 1, 0, (17, 6, 0, 1, 1, 0)), (53, .astore 6, 2, 0, (0, 0, 0, 0, 0, 0)), (55, .aload 6, 2, 0, (0, 0, 0, 0, 0, 0)), (57, .getfield 148, 3, 0, (1, 5, 1, 1, 0, 0)), (60, .ifCond .eq 34, 3, 0, (0, 0, 0, 0, 0, 0)), (63, .aload 6, 2, 0, (0, 0, 0, 0, 0, 0)), (65, .getfield 167, 3, 0, (1, 7, 0, 1, 0, 0)), (68, .aload_n 0, 1, 0, (0, 0, 0, 0, 0, 0)), (69, .getfield 34, 3, 0, (5, 0, 9, 2, 1, 0)), (72, .getfield 157, 3, 0, (6, 2, 0, 1, 0, 0)), (75, .if_icmp .gt 19, 3, 0, (0, 0, 0, 0, 0, 0)), (78, .aload_n 0, 1, 0, (0, 0, 0, 0, 0, 0)), (79, .getfield 43, 3, 0, (5, 2, 11, 2, 1, 0)), (82, .aload 6, 2, 0, (0, 0, 0, 0, 0, 0)), (84, .invokevirtual 170, 3, 0, (1, 2, 0, 0, 1, 0)), (87, .ifCond .eq 7, 3, 0, (0, 0, 0, 0, 0, 0)), (90, .aload_n 0, 1, 0, (0, 0, 0, 0, 0, 0)), (91, .invokevirtual 174, 3, 0, (2, 1, 0, 0, 1, 0)), (94, .iinc 5 1, 3, 0, (0, 0, 0, 0, 0, 1)), (97, .goto (-55), 3, 0, (0, 0, 0, 0, 0, 0)), (100, .iinc 2 1, 3, 0, (0, 0, 0, 0, 0, 1)), (103, .goto (-101), 3, 0, (0, 0, 0, 0, 0, 0)), (106, .aload_n 0, 1, 0, (0, 0, 0, 0, 0, 0)), (107, .getfield 34, 3, 0, (5, 0, 9, 2, 1, 0)), (110, .getfield 157, 3, 0, (6, 2, 0, 1, 0, 0)), (113, .ireturn, 1, 0, (0, 0, 0, 0, 0, 0))]
set_option maxRecDepth 100000 in
theorem rk66 : R66.all (rok 0 66 1 [(91, [9]), (131, [11, 4]), (71, [8])]) = true := by decide +kernel
set_option maxRecDepth 100000 in
theorem tab66 {F91 : PM → PM} {G91 : PM → Prop} {F131 : PM → Nat → Int32 × PM} {G131 : PM → Nat → Prop} {F71 : PM → PM} {G71 : PM → Prop} : TabOK 0 66 1 [CC91 F91 G91, CC131 F131 G131, CC71 F71 G71] R66 := tab_ok (K := K66) rfl rfl (fun h => d66 h) rk66 (by decide +kernel)
set_option maxRecDepth 100000 in
theorem pc66 : cutpc [2, 42] R66 = true := by decide +kernel
set_option maxRecDepth 100000 in
theorem r5_letPass_42 (F91 : PM → PM) (G91 : PM → Prop) (o91 : CalOK 0 (CC91 F91 G91)) (F131 : PM → Nat → Int32 × PM) (G131 : PM → Nat → Prop) (o131 : CalOK 0 (CC131 F131 G131)) (F71 : PM → PM) (G71 : PM → Prop) (o71 : CalOK 0 (CC71 F71 G71)) (kv2 : PM → Int32 → Int32 → Int32 × PM) (kg2 : PM → Int32 → Int32 → Prop) (hk2 : ∀ (p : PM) (v1 : Int32) (v2 : Int32) (d3 d4 d5 d6 : ZV), Gr 0 p → kg2 p v1 v2 → ZJ 0 66 2 [zR 5 1, zI v1, zI v2, d3, d4, d5, d6] [] p (hwI (kv2 p v1 v2))) (kv42 : PM → Int32 → Int32 → Int32 → Int32 × PM) (kg42 : PM → Int32 → Int32 → Int32 → Prop) (hk42 : ∀ (p : PM) (v1 : Int32) (v2 : Int32) (v5 : Int32) (d6 : ZV), Gr 0 p → kg42 p v1 v2 v5 → ZJ 0 66 42 [zR 5 1, zI v1, zI v2, zR 17 1, zC 6, zI v5, d6] [] p (hwI (kv42 p v1 v2 v5))) : ∀ (p : PM) (v1 : Int32) (v2 : Int32) (v5 : Int32) (d6 : ZV), Gr 0 p → bg5_letPass_42 F71 G71 F131 G131 kg2 kg42 p v1 v2 v5 → ZJ 0 66 42 [zR 5 1, zI v1, zI v2, zR 17 1, zC 6, zI v5, d6] [] p (hwI (bv5_letPass_42 F71 F131 kv2 kv42 p v1 v2 v5)) := by
  intro p v1 v2 v5 d6 hg H
  exact rwI (n := 3000) (q := 42) (la := [zR 5 1, zI v1, zI v2, zR 17 1, zC 6, zI v5, d6]) (sa := []) (ks := [fun la sa s => kv2 s (ai la 1) (ai la 2), fun la sa s => kv42 s (ai la 1) (ai la 2) (ai la 5)]) (gs := [fun la sa s => zsw (tc2 la [(105, 1), (0, 0), (0, 0), (2, 0), (2, 0), (2, 0), (2, 0)] && tc2 sa []) False (kg2 s (ai la 1) (ai la 2)), fun la sa s => zsw (tc2 la [(105, 1), (0, 0), (0, 0), (117, 1), (3, 6), (0, 0), (2, 0)] && tc2 sa []) False (kg42 s (ai la 1) (ai la 2) (ai la 5))]) (fcons o91 (fcons o131 (fcons o71 (fnil)))) tab66 pc66 ⟨fun la sa s hg H => zcut H fun H => hk2 s (ai la 1) (ai la 2) (zld la 3) (zld la 4) (zld la 5) (zld la 6) hg H, fun la sa s hg H => zcut H fun H => hk42 s (ai la 1) (ai la 2) (ai la 5) (zld la 6) hg H, trivial⟩ hg H
theorem t5_letPass_42 (kv2 : PM → Int32 → Int32 → Int32 × PM) (kg2 : PM → Int32 → Int32 → Prop) (hk2 : ∀ (p : PM) (v1 : Int32) (v2 : Int32) (d3 d4 d5 d6 : ZV), Gr 0 p → kg2 p v1 v2 → ZJ 0 66 2 [zR 5 1, zI v1, zI v2, d3, d4, d5, d6] [] p (hwI (kv2 p v1 v2))) : ∀ (n : Nat), ∀ (p : PM) (v1 : Int32) (v2 : Int32) (v5 : Int32) (d6 : ZV), Gr 0 p → g5_letPass_42 kg2 n p v1 v2 v5 → ZJ 0 66 42 [zR 5 1, zI v1, zI v2, zR 17 1, zC 6, zI v5, d6] [] p (hwI (v5_letPass_42 kv2 n p v1 v2 v5)) := by
  intro n
  induction n with
  | zero =>
    intro p v1 v2 v5 d6 hg H
    exact H.elim
  | succ n ih => exact r5_letPass_42 v6_countQuotes g6_countQuotes ok91 v8_endAuction g8_endAuction ok131 v5_work g5_work ok71 kv2 kg2 hk2 (v5_letPass_42 kv2 n) (g5_letPass_42 kg2 n) ih
set_option maxRecDepth 100000 in
theorem r5_letPass_2 (F91 : PM → PM) (G91 : PM → Prop) (o91 : CalOK 0 (CC91 F91 G91)) (F131 : PM → Nat → Int32 × PM) (G131 : PM → Nat → Prop) (o131 : CalOK 0 (CC131 F131 G131)) (F71 : PM → PM) (G71 : PM → Prop) (o71 : CalOK 0 (CC71 F71 G71)) (kv42 : PM → Int32 → Int32 → Int32 → Int32 × PM) (kg42 : PM → Int32 → Int32 → Int32 → Prop) (hk42 : ∀ (p : PM) (v1 : Int32) (v2 : Int32) (v5 : Int32) (d6 : ZV), Gr 0 p → kg42 p v1 v2 v5 → ZJ 0 66 42 [zR 5 1, zI v1, zI v2, zR 17 1, zC 6, zI v5, d6] [] p (hwI (kv42 p v1 v2 v5))) : ∀ (p : PM) (v1 : Int32) (v2 : Int32) (d3 d4 d5 d6 : ZV), Gr 0 p → bg5_letPass_2 F91 G91 kg42 p v1 v2 → ZJ 0 66 2 [zR 5 1, zI v1, zI v2, d3, d4, d5, d6] [] p (hwI (bv5_letPass_2 F91 kv42 p v1 v2)) := by
  intro p v1 v2 d3 d4 d5 d6 hg H
  exact rwI (n := 3000) (q := 2) (la := [zR 5 1, zI v1, zI v2, d3, d4, d5, d6]) (sa := []) (ks := [fun _ _ s => (0, s), fun la sa s => kv42 s (ai la 1) (ai la 2) (ai la 5)]) (gs := [fun _ _ _ => False, fun la sa s => zsw (tc2 la [(105, 1), (0, 0), (0, 0), (117, 1), (3, 6), (0, 0), (2, 0)] && tc2 sa []) False (kg42 s (ai la 1) (ai la 2) (ai la 5))]) (fcons o91 (fcons o131 (fcons o71 (fnil)))) tab66 pc66 ⟨fun _ _ _ _ H => H.elim, fun la sa s hg H => zcut H fun H => hk42 s (ai la 1) (ai la 2) (ai la 5) (zld la 6) hg H, trivial⟩ hg H
theorem t5_letPass_2 : ∀ (n : Nat), ∀ (p : PM) (v1 : Int32) (v2 : Int32) (d3 d4 d5 d6 : ZV), Gr 0 p → g5_letPass_2 n p v1 v2 → ZJ 0 66 2 [zR 5 1, zI v1, zI v2, d3, d4, d5, d6] [] p (hwI (v5_letPass_2 n p v1 v2)) := by
  intro n
  induction n with
  | zero =>
    intro p v1 v2 d3 d4 d5 d6 hg H
    exact H.elim
  | succ n ih => exact r5_letPass_2 v6_countQuotes g6_countQuotes ok91 v8_endAuction g8_endAuction ok131 v5_work g5_work ok71 (v5_letPass_42 (v5_letPass_2 n) FU) (g5_letPass_42 (g5_letPass_2 n) FU) (t5_letPass_42 (v5_letPass_2 n) (g5_letPass_2 n) ih FU)
set_option maxRecDepth 100000 in
theorem r5_letPass (F91 : PM → PM) (G91 : PM → Prop) (o91 : CalOK 0 (CC91 F91 G91)) (F131 : PM → Nat → Int32 × PM) (G131 : PM → Nat → Prop) (o131 : CalOK 0 (CC131 F131 G131)) (F71 : PM → PM) (G71 : PM → Prop) (o71 : CalOK 0 (CC71 F71 G71)) (kv2 : PM → Int32 → Int32 → Int32 × PM) (kg2 : PM → Int32 → Int32 → Prop) (hk2 : ∀ (p : PM) (v1 : Int32) (v2 : Int32) (d3 d4 d5 d6 : ZV), Gr 0 p → kg2 p v1 v2 → ZJ 0 66 2 [zR 5 1, zI v1, zI v2, d3, d4, d5, d6] [] p (hwI (kv2 p v1 v2))) : ∀ (p : PM) (v1 : Int32), Gr 0 p → bg5_letPass kg2 p v1 → ZJ 0 66 0 [zR 5 1, zI v1, zJ, zJ, zJ, zJ, zJ] [] p (hwI (bv5_letPass kv2 p v1)) := by
  intro p v1  hg H
  exact rwI (n := 3000) (q := 0) (la := [zR 5 1, zI v1, zJ, zJ, zJ, zJ, zJ]) (sa := []) (ks := [fun la sa s => kv2 s (ai la 1) (ai la 2), fun _ _ s => (0, s)]) (gs := [fun la sa s => zsw (tc2 la [(105, 1), (0, 0), (0, 0), (2, 0), (2, 0), (2, 0), (2, 0)] && tc2 sa []) False (kg2 s (ai la 1) (ai la 2)), fun _ _ _ => False]) (fcons o91 (fcons o131 (fcons o71 (fnil)))) tab66 pc66 ⟨fun la sa s hg H => zcut H fun H => hk2 s (ai la 1) (ai la 2) (zld la 3) (zld la 4) (zld la 5) (zld la 6) hg H, fun _ _ _ _ H => H.elim, trivial⟩ hg H
theorem t5_letPass : ∀ (p : PM) (v1 : Int32), Gr 0 p → g5_letPass p v1 → ZJ 0 66 0 [zR 5 1, zI v1, zJ, zJ, zJ, zJ, zJ] [] p (hwI (v5_letPass p v1)) := r5_letPass v6_countQuotes g6_countQuotes ok91 v8_endAuction g8_endAuction ok131 v5_work g5_work ok71 (v5_letPass_2 FU) (g5_letPass_2 FU) (t5_letPass_2 FU)
def CC66 (F : PM → Int32 → Int32 × PM) (G : PM → Int32 → Prop) : Cal := (66, [8, 0], 1, false, fun as p => (zI (F p (ai as 1)).1, (F p (ai as 1)).2), fun as p => zsw (tc2 as [(105, 1), (0, 0)]) False (G p (ai as 1)))
set_option maxRecDepth 100000 in
theorem okr66 (F : PM → Int32 → Int32 × PM) (G : PM → Int32 → Prop) (h : ∀ (p : PM) (v1 : Int32), Gr 0 p → G p v1 → ZJ 0 66 0 [zR 5 1, zI v1, zJ, zJ, zJ, zJ, zJ] [] p (hwI (F p v1))) : CalOK 0 (CC66 F G) := cal_ok (m := 7) (by unfold mL; rw [mX_66]) (fun as p hg H => h p (ai as 1) hg H)
theorem ok66 : CalOK 0 (CC66 v5_letPass g5_letPass) := okr66 v5_letPass g5_letPass t5_letPass
noncomputable def bv7_reverse (F5 : PM → Nat → Nat → Int32 → Int32 → PM) (F107 : PM → Int32 → Nat) (F108 : PM → Nat → Int32) (p : PM) (v1 : Int32) : Int32 × PM :=
  if (F107 p v1) = 0 then (
    ((cn 0), p))
  else (
    let x1 : Nat := (p.2.2 4 (F107 p v1) 0)
    if (F108 p x1) = v1 then (
      let p5 : PM := pI p 4 (F107 p v1) 5 (cn 1)
      let p6 : PM := F5 p5 (p5.2.2 4 (F107 p v1) 1) x1 (-(p5.1 4 (F107 p v1) 4)) (p5.1 4 (F107 p v1) 3)
      let p7 : PM := F5 p6 (p6.2.2 4 (F107 p v1) 2) x1 (p6.1 4 (F107 p v1) 4) (p6.1 4 (F107 p v1) 3)
      let x8 : Nat := (F107 p7 (F108 p7 x1))
      if x8 = 0 then (
        let p10 : PM := pI p7 1 x1 3 (p7.1 1 x1 4)
        ((p10.1 1 x1 3), p10))
      else (
        let p9 : PM := pI p7 1 x1 3 (p7.1 4 x8 3)
        ((p9.1 1 x1 3), p9)))
    else (
      let p2 : PM := pI p 4 (F107 p v1) 5 (cn 1)
      let p3 : PM := F5 p2 (p2.2.2 4 (F107 p v1) 1) x1 (-(p2.1 4 (F107 p v1) 4)) (p2.1 4 (F107 p v1) 3)
      let p4 : PM := F5 p3 (p3.2.2 4 (F107 p v1) 2) x1 (p3.1 4 (F107 p v1) 4) (p3.1 4 (F107 p v1) 3)
      ((p4.1 1 x1 3), p4)))
noncomputable def v7_reverse (p : PM) (v1 : Int32) : Int32 × PM := bv7_reverse v0_take v7_find v7_latestOf p v1
noncomputable def bg7_reverse (F5 : PM → Nat → Nat → Int32 → Int32 → PM) (G5 : PM → Nat → Nat → Int32 → Int32 → Prop) (F107 : PM → Int32 → Nat) (G107 : PM → Int32 → Prop) (F108 : PM → Nat → Int32) (G108 : PM → Nat → Prop) (p : PM) (v1 : Int32) : Prop :=
  (G107 p v1) ∧ (
  if (F107 p v1) = 0 then (
    True)
  else (
    (¬ (F107 p v1) = 0) ∧ (
    let x1 : Nat := (p.2.2 4 (F107 p v1) 0)
    (G108 p x1) ∧ (
    if (F108 p x1) = v1 then (
      (¬ (F107 p v1) = 0) ∧ (
      let p5 : PM := pI p 4 (F107 p v1) 5 (cn 1)
      (¬ (F107 p v1) = 0) ∧ (
      (¬ (F107 p v1) = 0) ∧ (
      (¬ (F107 p v1) = 0) ∧ (
      (¬ (p5.2.2 4 (F107 p v1) 1) = 0) ∧ (
      (G5 p5 (p5.2.2 4 (F107 p v1) 1) x1 (-(p5.1 4 (F107 p v1) 4)) (p5.1 4 (F107 p v1) 3)) ∧ (
      let p6 : PM := F5 p5 (p5.2.2 4 (F107 p v1) 1) x1 (-(p5.1 4 (F107 p v1) 4)) (p5.1 4 (F107 p v1) 3)
      (¬ (F107 p v1) = 0) ∧ (
      (¬ (F107 p v1) = 0) ∧ (
      (¬ (F107 p v1) = 0) ∧ (
      (¬ (p6.2.2 4 (F107 p v1) 2) = 0) ∧ (
      (G5 p6 (p6.2.2 4 (F107 p v1) 2) x1 (p6.1 4 (F107 p v1) 4) (p6.1 4 (F107 p v1) 3)) ∧ (
      let p7 : PM := F5 p6 (p6.2.2 4 (F107 p v1) 2) x1 (p6.1 4 (F107 p v1) 4) (p6.1 4 (F107 p v1) 3)
      (G108 p7 x1) ∧ (
      (G107 p7 (F108 p7 x1)) ∧ (
      let x8 : Nat := (F107 p7 (F108 p7 x1))
      if x8 = 0 then (
        (¬ x1 = 0) ∧ (
        (¬ x1 = 0) ∧ (
        let p10 : PM := pI p7 1 x1 3 (p7.1 1 x1 4)
        (¬ x1 = 0) ∧ (
        True))))
      else (
        (¬ x8 = 0) ∧ (
        (¬ x1 = 0) ∧ (
        let p9 : PM := pI p7 1 x1 3 (p7.1 4 x8 3)
        (¬ x1 = 0) ∧ (
        True))))))))))))))))))
    else (
      (¬ (F107 p v1) = 0) ∧ (
      let p2 : PM := pI p 4 (F107 p v1) 5 (cn 1)
      (¬ (F107 p v1) = 0) ∧ (
      (¬ (F107 p v1) = 0) ∧ (
      (¬ (F107 p v1) = 0) ∧ (
      (¬ (p2.2.2 4 (F107 p v1) 1) = 0) ∧ (
      (G5 p2 (p2.2.2 4 (F107 p v1) 1) x1 (-(p2.1 4 (F107 p v1) 4)) (p2.1 4 (F107 p v1) 3)) ∧ (
      let p3 : PM := F5 p2 (p2.2.2 4 (F107 p v1) 1) x1 (-(p2.1 4 (F107 p v1) 4)) (p2.1 4 (F107 p v1) 3)
      (¬ (F107 p v1) = 0) ∧ (
      (¬ (F107 p v1) = 0) ∧ (
      (¬ (F107 p v1) = 0) ∧ (
      (¬ (p3.2.2 4 (F107 p v1) 2) = 0) ∧ (
      (G5 p3 (p3.2.2 4 (F107 p v1) 2) x1 (p3.1 4 (F107 p v1) 4) (p3.1 4 (F107 p v1) 3)) ∧ (
      let p4 : PM := F5 p3 (p3.2.2 4 (F107 p v1) 2) x1 (p3.1 4 (F107 p v1) 4) (p3.1 4 (F107 p v1) 3)
      (¬ x1 = 0) ∧ (
      True)))))))))))))))))
noncomputable def g7_reverse (p : PM) (v1 : Int32) : Prop := bg7_reverse v0_take g0_take v7_find g7_find v7_latestOf g7_latestOf p v1
def R109 : List Row := [(0, .aload_n 0, 1, 0, (0, 0, 0, 0, 0, 0)), (1, .iload_n 1, 1, 0, (0, 0, 0, 0, 0, 0)), (2, .invokevirtual 59, 3, 0, (0, 2, 0, 0, 1, 0)), (5, .astore_n 2, 1, 0, (0, 0, 0, 0, 0, 0)), (6, .aload_n 2, 1, 0, (0, 0, 0, 0, 0, 0)), (7, .ifnonnull 5, 3, 0, (0, 0, 0, 0, 0, 0)), (10, .iconst 0, 1, 0, (0, 0, 0, 0, 0, 0)), (11, .ireturn, 1, 0, (0, 0, 0, 0, 0, 0)), (12, .aload_n 2, 1, 0, (0, 0, 0, 0, 0, 0)), (13, .getfield 63, 3, 0, (4, 0, 4, 0, 0, 0)), (16, .astore_n 3, 1, 0, (0, 0, 0, 0, 0, 0)), (17, .aload_n 0, 1, 0, (0, 0, 0, 0, 0, 0)), (18, .aload_n 3, 1, 0, (0, 0, 0, 0, 0, 0)), (19, .invokevirtual 71, 3, 0, (1, 2, 0, 0, 1, 0)), (22, .iload_n 1, 1, 0, (0, 0, 0, 0, 0, 0)), (23, .if_icmp .ne 7, 3, 0, (0, 0, 0, 0, 0, 0)), (26, .iconst 1, 1, 0, (0, 0, 0, 0, 0, 1)), (27, .goto 4, 3, 0, (0, 0, 0, 0, 0, 0)), (30, .iconst 0, 1, 0, (0, 0, 0, 0, 0, 0)), (31, .istore 4, 2, 0, (0, 0, 0, 0, 0, 0)), (33, .aload_n 2, 1, 0, (0, 0, 0, 0, 0, 0)), (34, .iconst 1, 1, 0, (0, 0, 0, 0, 0, 1)), (35, .putfield 67, 3, 0, (4, 5, 1, 0, 0, 0)), (38, .aload_n 2, 1, 0, (0, 0, 0, 0, 0, 0)), (39, .getfield 75, 3, 0, (4, 1, 3, 0, 0, 0)), (42, .aload_n 3, 1, 0, (0, 0, 0, 0, 0, 0)), (43, .aload_n 2, 1, 0, (0, 0, 0, 0, 0, 0)), (44, .getfield 79, 3, 0, (4, 4, 0, 0, 0, 0)), (47, .ineg, 1, 0, (0, 0, 0, 0, 0, 0)), (48, .aload_n 2, 1, 0, (0, 0, 0, 0, 0, 0)), (49, .getfield 82, 3, 0, (4, 3, 0, 0, 0, 0)), (52, .invokevirtual 49, 3, 0, (2, 4, 0, 0, 2, 0)), (55, .aload_n 2, 1, 0, (0, 0, 0, 0, 0, 0)), (56, .getfield 85, 3, 0, (4, 2, 3, 0, 0, 0)), (59, .aload_n 3, 1, 0, (0, 0, 0, 0, 0, 0)), (60, .aload_n 2, 1, 0, (0, 0, 0, 0, 0, 0)), (61, .getfield 79, 3, 0, (4, 4, 0, 0, 0, 0)), (64, .aload_n 2, 1, 0, (0, 0, 0, 0, 0, 0)), (65, .getfield 82, 3, 0, (4, 3, 0, 0, 0, 0)), (68, .invokevirtual 49, 3, 0, (2, 4, 0, 0, 2, 0)), (71, .iload 4, 2, 0, (0, 0, 0, 0, 0, 0)), (73, .ifCond .eq 35, 3, 0, (0, 0, 0, 0, 0, 0)), (76, .aload_n 0, 1, 0, (0, 0, 0, 0, 0, 0)), (77, .aload_n 0, 1, 0, (0, 0, 0, 0, 0, 0)), (78, .aload_n 3, 1, 0, (0, 0, 0, 0, 0, 0)), (79, .invokevirtual 71, 3, 0, (1, 2, 0, 0, 1, 0)), (82, .invokevirtual 59, 3, 0, (0, 2, 0, 0, 1, 0)), (85, .astore 5, 2, 0, (0, 0, 0, 0, 0, 0)), (87, .aload_n 3, 1, 0, (0, 0, 0, 0, 0, 0)), (88, .aload 5, 2, 0, (0, 0, 0, 0, 0, 0)), (90, .ifnonnull 10, 3, 0, (0, 0, 0, 0, 0, 0)), (93, .aload_n 3, 1, 0, (0, 0, 0, 0, 0, 0)), (94, .getfield 88, 3, 0, (1, 4, 0, 0, 0, 0)), (97, .goto 8, 3, 0, (0, 0, 0, 0, 0, 0)), (100, .aload 5, 2, 0, (0, 0, 0, 0, 0, 0)), (102, .getfield 82, 3, 0, (4, 3, 0, 0, 0, 0)), (105, .putfield 44, 3, 0, (1, 3, 0, 0, 0, 0)), (108, .aload_n 3, 1, 0, (0, 0, 0, 0, 0, 0)), (109, .getfield 44, 3, 0, (1, 3, 0, 0, 0, 0)), (112, .ireturn, 1, 0, (0, 0, 0, 0, 0, 0))]
set_option maxRecDepth 100000 in
theorem rk109 : R109.all (rok 0 109 1 [(107, [10, 0]), (108, [10, 4]), (5, [3, 4, 0, 0])]) = true := by decide +kernel
set_option maxRecDepth 100000 in
theorem tab109 {F107 : PM → Int32 → Nat} {G107 : PM → Int32 → Prop} {F108 : PM → Nat → Int32} {G108 : PM → Nat → Prop} {F5 : PM → Nat → Nat → Int32 → Int32 → PM} {G5 : PM → Nat → Nat → Int32 → Int32 → Prop} : TabOK 0 109 1 [CC107 F107 G107, CC108 F108 G108, CC5 F5 G5] R109 := tab_ok (K := K109) rfl rfl (fun h => d109 h) rk109 (by decide +kernel)
set_option maxRecDepth 100000 in
theorem pc109 : cutpc [] R109 = true := by decide +kernel
set_option maxRecDepth 100000 in
theorem r7_reverse (F107 : PM → Int32 → Nat) (G107 : PM → Int32 → Prop) (o107 : CalOK 0 (CC107 F107 G107)) (F108 : PM → Nat → Int32) (G108 : PM → Nat → Prop) (o108 : CalOK 0 (CC108 F108 G108)) (F5 : PM → Nat → Nat → Int32 → Int32 → PM) (G5 : PM → Nat → Nat → Int32 → Int32 → Prop) (o5 : CalOK 0 (CC5 F5 G5)) : ∀ (p : PM) (v1 : Int32), Gr 0 p → bg7_reverse F5 G5 F107 G107 F108 G108 p v1 → ZJ 0 109 0 [zR 7 1, zI v1, zJ, zJ, zJ, zJ] [] p (hwI (bv7_reverse F5 F107 F108 p v1)) := by
  intro p v1  hg H
  exact rwI (n := 3000) (q := 0) (la := [zR 7 1, zI v1, zJ, zJ, zJ, zJ]) (sa := []) (ks := []) (gs := []) (fcons o107 (fcons o108 (fcons o5 (fnil)))) tab109 pc109 trivial hg H
theorem t7_reverse : ∀ (p : PM) (v1 : Int32), Gr 0 p → g7_reverse p v1 → ZJ 0 109 0 [zR 7 1, zI v1, zJ, zJ, zJ, zJ] [] p (hwI (v7_reverse p v1)) := r7_reverse v7_find g7_find ok107 v7_latestOf g7_latestOf ok108 v0_take g0_take ok5
def CC109 (F : PM → Int32 → Int32 × PM) (G : PM → Int32 → Prop) : Cal := (109, [10, 0], 1, false, fun as p => (zI (F p (ai as 1)).1, (F p (ai as 1)).2), fun as p => zsw (tc2 as [(107, 1), (0, 0)]) False (G p (ai as 1)))
set_option maxRecDepth 100000 in
theorem okr109 (F : PM → Int32 → Int32 × PM) (G : PM → Int32 → Prop) (h : ∀ (p : PM) (v1 : Int32), Gr 0 p → G p v1 → ZJ 0 109 0 [zR 7 1, zI v1, zJ, zJ, zJ, zJ] [] p (hwI (F p v1))) : CalOK 0 (CC109 F G) := cal_ok (m := 6) (by unfold mL; rw [mX_109]) (fun as p hg H => h p (ai as 1) hg H)
theorem ok109 : CalOK 0 (CC109 v7_reverse g7_reverse) := okr109 v7_reverse g7_reverse t7_reverse
noncomputable def bv6_holdStops_12 (F149 : PM → Nat → PM) (kv12 : PM → Nat → Int32 → Int32 → PM) (p : PM) (v1 : Nat) (v2 : Int32) (v5 : Int32) : PM :=
  if v5 < (cn 40) then (
    if (p.1 10 ((v5).toNatClampNeg + 1) 1) = (cn 2) then (
      if (p.1 10 ((v5).toNatClampNeg + 1) 2) = (cn 1) then (
        if (p.2.2 10 ((v5).toNatClampNeg + 1) 4) = v1 then (
          if (p.1 10 ((v5).toNatClampNeg + 1) 15) = v2 then (
            if (p.1 10 ((v5).toNatClampNeg + 1) 16) = 0 then (
              let p1 : PM := F149 p ((v5).toNatClampNeg + 1)
              kv12 p1 v1 v2 (v5 + (cn 1)))
            else (
              kv12 p v1 v2 (v5 + (cn 1))))
          else (
            kv12 p v1 v2 (v5 + (cn 1))))
        else (
          kv12 p v1 v2 (v5 + (cn 1))))
      else (
        kv12 p v1 v2 (v5 + (cn 1))))
    else (
      kv12 p v1 v2 (v5 + (cn 1))))
  else (
    p)
noncomputable def v6_holdStops_12 (n : Nat) : PM → Nat → Int32 → Int32 → PM := Nat.rec (motive := fun _ => PM → Nat → Int32 → Int32 → PM) (fun p _ _ _ => p) (fun _ ih => bv6_holdStops_12 v10_hold ih) n
theorem ev6_holdStops_12 (n : Nat) (p : PM) (v1 : Nat) (v2 : Int32) (v5 : Int32) : v6_holdStops_12 (n + 1) p v1 v2 v5 = bv6_holdStops_12 v10_hold (v6_holdStops_12 n) p v1 v2 v5 := rfl
noncomputable def bg6_holdStops_12 (F149 : PM → Nat → PM) (G149 : PM → Nat → Prop) (kg12 : PM → Nat → Int32 → Int32 → Prop) (p : PM) (v1 : Nat) (v2 : Int32) (v5 : Int32) : Prop :=
  if v5 < (cn 40) then (
    (inb v5 40) ∧ (
    if (p.1 10 ((v5).toNatClampNeg + 1) 1) = (cn 2) then (
      if (p.1 10 ((v5).toNatClampNeg + 1) 2) = (cn 1) then (
        if (p.2.2 10 ((v5).toNatClampNeg + 1) 4) = v1 then (
          if (p.1 10 ((v5).toNatClampNeg + 1) 15) = v2 then (
            if (p.1 10 ((v5).toNatClampNeg + 1) 16) = 0 then (
              (G149 p ((v5).toNatClampNeg + 1)) ∧ (
              let p1 : PM := F149 p ((v5).toNatClampNeg + 1)
              kg12 p1 v1 v2 (v5 + (cn 1))))
            else (
              kg12 p v1 v2 (v5 + (cn 1))))
          else (
            kg12 p v1 v2 (v5 + (cn 1))))
        else (
          kg12 p v1 v2 (v5 + (cn 1))))
      else (
        kg12 p v1 v2 (v5 + (cn 1))))
    else (
      kg12 p v1 v2 (v5 + (cn 1)))))
  else (
    True)
noncomputable def g6_holdStops_12 (n : Nat) : PM → Nat → Int32 → Int32 → Prop := Nat.rec (motive := fun _ => PM → Nat → Int32 → Int32 → Prop) (fun _ _ _ _ => False) (fun _ ih => bg6_holdStops_12 v10_hold g10_hold ih) n
theorem eg6_holdStops_12 (n : Nat) (p : PM) (v1 : Nat) (v2 : Int32) (v5 : Int32) : g6_holdStops_12 (n + 1) p v1 v2 v5 = bg6_holdStops_12 v10_hold g10_hold (g6_holdStops_12 n) p v1 v2 v5 := rfl
noncomputable def bv6_holdStops (kv12 : PM → Nat → Int32 → Int32 → PM) (p : PM) (v1 : Nat) (v2 : Int32) : PM :=
  kv12 p v1 v2 (cn 0)
noncomputable def v6_holdStops (p : PM) (v1 : Nat) (v2 : Int32) : PM := bv6_holdStops (v6_holdStops_12 FU) p v1 v2
noncomputable def bg6_holdStops (kg12 : PM → Nat → Int32 → Int32 → Prop) (p : PM) (v1 : Nat) (v2 : Int32) : Prop :=
  kg12 p v1 v2 (cn 0)
noncomputable def g6_holdStops (p : PM) (v1 : Nat) (v2 : Int32) : Prop := bg6_holdStops (g6_holdStops_12 FU) p v1 v2
def R98 : List Row := [(0, .aload_n 0, 1, 0, (0, 0, 0, 0, 0, 0)), (1, .getfield 11, 3, 0, (6, 1, 23, 2, 1, 0)), (4, .astore_n 3, 1, 0, (0, 0, 0, 0, 0, 0)), (5, .aload_n 3, 1, 0, (0, 0, 0, 0, 0, 0)), (6, .arraylength, 1, 0, (20, 40, 0, 0, 0, 40)), (7, .istore 4, 2, 0, (0, 0, 0, 0, 0, 0)), (9, .iconst 0, 1, 0, (0, 0, 0, 0, 0, 0)), (10, .istore 5, 2, 0, (0, 0, 0, 0, 0, 0)), (12, .iload 5, 2, 1, (0, 0, 0, 0, 0, 0)), (14, .iload 4, 2, 0, (0, 0, 0, 0, 0, 0)), (16, .if_icmp .ge 64, 3, 0, (0, 0, 0, 0, 0, 0)), (19, .aload_n 3, 1, 0, (0, 0, 0, 0, 0, 0)), (20, .iload 5, 2, 0, (0, 0, 0, 0, 0, 0)), (22, .aaload, 1, 0, (20, 40, 0, 1, 1, 0)), (23, .astore 6, 2, 0, (0, 0, 0, 0, 0, 0)), (25, .aload 6, 2, 0, (0, 0, 0, 0, 0, 0)), (27, .getfield 76, 3, 0, (10, 1, 0, 1, 0, 0)), (30, .iconst 2, 1, 0, (0, 0, 0, 0, 0, 2)), (31, .if_icmp .ne 43, 3, 0, (0, 0, 0, 0, 0, 0)), (34, .aload 6, 2, 0, (0, 0, 0, 0, 0, 0)), (36, .getfield 29, 3, 0, (10, 2, 0, 1, 0, 0)), (39, .iconst 1, 1, 0, (0, 0, 0, 0, 0, 1)), (40, .if_icmp .ne 34, 3, 0, (0, 0, 0, 0, 0, 0)), (43, .aload 6, 2, 0, (0, 0, 0, 0, 0, 0)), (45, .getfield 130, 3, 0, (10, 4, 4, 1, 0, 0)), (48, .aload_n 1, 1, 0, (0, 0, 0, 0, 0, 0)), (49, .if_acmp .ne 25, 3, 0, (0, 0, 0, 0, 0, 0)), (52, .aload 6, 2, 0, (0, 0, 0, 0, 0, 0)), (54, .getfield 185, 3, 0, (10, 15, 0, 1, 0, 0)), (57, .iload_n 2, 1, 0, (0, 0, 0, 0, 0, 0)), (58, .if_icmp .ne 16, 3, 0, (0, 0, 0, 0, 0, 0)), (61, .aload 6, 2, 0, (0, 0, 0, 0, 0, 0)), (63, .getfield 188, 3, 0, (10, 16, 1, 1, 0, 0)), (66, .ifCond .ne 8, 3, 0, (0, 0, 0, 0, 0, 0)), (69, .aload 6, 2, 0, (0, 0, 0, 0, 0, 0)), (71, .invokevirtual 191, 3, 0, (0, 1, 0, 0, 1, 0)), (74, .iinc 5 1, 3, 0, (0, 0, 0, 0, 0, 1)), (77, .goto (-65), 3, 0, (0, 0, 0, 0, 0, 0)), (80, .return_, 1, 0, (0, 0, 0, 0, 0, 0))]
set_option maxRecDepth 100000 in
theorem rk98 : R98.all (rok 0 98 0 [(149, [13])]) = true := by decide +kernel
set_option maxRecDepth 100000 in
theorem tab98 {F149 : PM → Nat → PM} {G149 : PM → Nat → Prop} : TabOK 0 98 0 [CC149 F149 G149] R98 := tab_ok (K := K98) rfl rfl (fun h => d98 h) rk98 (by decide +kernel)
set_option maxRecDepth 100000 in
theorem pc98 : cutpc [12] R98 = true := by decide +kernel
set_option maxRecDepth 100000 in
theorem r6_holdStops_12 (F149 : PM → Nat → PM) (G149 : PM → Nat → Prop) (o149 : CalOK 0 (CC149 F149 G149)) (kv12 : PM → Nat → Int32 → Int32 → PM) (kg12 : PM → Nat → Int32 → Int32 → Prop) (hk12 : ∀ (p : PM) (v1 : Nat) (v2 : Int32) (v5 : Int32) (d0 d6 : ZV), Gr 0 p → kg12 p v1 v2 v5 → ZJ 0 98 12 [d0, zR 1 v1, zI v2, zR 20 1, zC 40, zI v5, d6] [] p (hwV (kv12 p v1 v2 v5))) : ∀ (p : PM) (v1 : Nat) (v2 : Int32) (v5 : Int32) (d0 d6 : ZV), Gr 0 p → bg6_holdStops_12 F149 G149 kg12 p v1 v2 v5 → ZJ 0 98 12 [d0, zR 1 v1, zI v2, zR 20 1, zC 40, zI v5, d6] [] p (hwV (bv6_holdStops_12 F149 kv12 p v1 v2 v5)) := by
  intro p v1 v2 v5 d0 d6 hg H
  exact rwV (n := 3000) (q := 12) (la := [d0, zR 1 v1, zI v2, zR 20 1, zC 40, zI v5, d6]) (sa := []) (ks := [fun la sa s => kv12 s (ar la 1) (ai la 2) (ai la 5)]) (gs := [fun la sa s => zsw (tc2 la [(2, 0), (5, 0), (0, 0), (120, 1), (3, 40), (0, 0), (2, 0)] && tc2 sa []) False (kg12 s (ar la 1) (ai la 2) (ai la 5))]) (fcons o149 (fnil)) tab98 pc98 ⟨fun la sa s hg H => zcut H fun H => hk12 s (ar la 1) (ai la 2) (ai la 5) (zld la 0) (zld la 6) hg H, trivial⟩ hg H
theorem t6_holdStops_12 : ∀ (n : Nat), ∀ (p : PM) (v1 : Nat) (v2 : Int32) (v5 : Int32) (d0 d6 : ZV), Gr 0 p → g6_holdStops_12 n p v1 v2 v5 → ZJ 0 98 12 [d0, zR 1 v1, zI v2, zR 20 1, zC 40, zI v5, d6] [] p (hwV (v6_holdStops_12 n p v1 v2 v5)) := by
  intro n
  induction n with
  | zero =>
    intro p v1 v2 v5 d0 d6 hg H
    exact H.elim
  | succ n ih => exact r6_holdStops_12 v10_hold g10_hold ok149 (v6_holdStops_12 n) (g6_holdStops_12 n) ih
set_option maxRecDepth 100000 in
theorem r6_holdStops (F149 : PM → Nat → PM) (G149 : PM → Nat → Prop) (o149 : CalOK 0 (CC149 F149 G149)) (kv12 : PM → Nat → Int32 → Int32 → PM) (kg12 : PM → Nat → Int32 → Int32 → Prop) (hk12 : ∀ (p : PM) (v1 : Nat) (v2 : Int32) (v5 : Int32) (d0 d6 : ZV), Gr 0 p → kg12 p v1 v2 v5 → ZJ 0 98 12 [d0, zR 1 v1, zI v2, zR 20 1, zC 40, zI v5, d6] [] p (hwV (kv12 p v1 v2 v5))) : ∀ (p : PM) (v1 : Nat) (v2 : Int32), Gr 0 p → bg6_holdStops kg12 p v1 v2 → ZJ 0 98 0 [zR 6 1, zR 1 v1, zI v2, zJ, zJ, zJ, zJ] [] p (hwV (bv6_holdStops kv12 p v1 v2)) := by
  intro p v1 v2  hg H
  exact rwV (n := 3000) (q := 0) (la := [zR 6 1, zR 1 v1, zI v2, zJ, zJ, zJ, zJ]) (sa := []) (ks := [fun la sa s => kv12 s (ar la 1) (ai la 2) (ai la 5)]) (gs := [fun la sa s => zsw (tc2 la [(2, 0), (5, 0), (0, 0), (120, 1), (3, 40), (0, 0), (2, 0)] && tc2 sa []) False (kg12 s (ar la 1) (ai la 2) (ai la 5))]) (fcons o149 (fnil)) tab98 pc98 ⟨fun la sa s hg H => zcut H fun H => hk12 s (ar la 1) (ai la 2) (ai la 5) (zld la 0) (zld la 6) hg H, trivial⟩ hg H
theorem t6_holdStops : ∀ (p : PM) (v1 : Nat) (v2 : Int32), Gr 0 p → g6_holdStops p v1 v2 → ZJ 0 98 0 [zR 6 1, zR 1 v1, zI v2, zJ, zJ, zJ, zJ] [] p (hwV (v6_holdStops p v1 v2)) := r6_holdStops v10_hold g10_hold ok149 (v6_holdStops_12 FU) (g6_holdStops_12 FU) (t6_holdStops_12 FU)
def CC98 (F : PM → Nat → Int32 → PM) (G : PM → Nat → Int32 → Prop) : Cal := (98, [9, 4, 0], 0, false, fun as p => (zJ, (F p (ar as 1) (ai as 2))), fun as p => zsw (tc2 as [(106, 1), (5, 0), (0, 0)]) False (G p (ar as 1) (ai as 2)))
set_option maxRecDepth 100000 in
theorem okr98 (F : PM → Nat → Int32 → PM) (G : PM → Nat → Int32 → Prop) (h : ∀ (p : PM) (v1 : Nat) (v2 : Int32), Gr 0 p → G p v1 v2 → ZJ 0 98 0 [zR 6 1, zR 1 v1, zI v2, zJ, zJ, zJ, zJ] [] p (hwV (F p v1 v2))) : CalOK 0 (CC98 F G) := cal_ok (m := 7) (by unfold mL; rw [mX_98]) (fun as p hg H => h p (ar as 1) (ai as 2) hg H)
theorem ok98 : CalOK 0 (CC98 v6_holdStops g6_holdStops) := okr98 v6_holdStops g6_holdStops t6_holdStops
