/-! methods as functions over one part, by program (wip/whole/lift.py) -/
noncomputable def v12_isThere (p : PM) (v1 : Int32) (v2 : Int32) (v3 : Int32) : Int32 :=
  if (p.1 15 3 (v1).toNatClampNeg) = 0 then (
    (cn 0))
  else (
    if (p.1 13 24 (v1).toNatClampNeg) = (cn 1) then (
      if (p.1 13 16 (v1).toNatClampNeg) = v2 then (
        if (p.1 15 4 (v1).toNatClampNeg) = v3 then (
          (cn 1))
        else (
          (cn 0)))
      else (
        (cn 0)))
    else (
      (cn 0)))
noncomputable def g12_isThere (p : PM) (v1 : Int32) (v2 : Int32) (v3 : Int32) : Prop :=
  (inb v1 44) ∧ (
  if (p.1 15 3 (v1).toNatClampNeg) = 0 then (
    True)
  else (
    (inb v1 44) ∧ (
    if (p.1 13 24 (v1).toNatClampNeg) = (cn 1) then (
      (inb v1 44) ∧ (
      if (p.1 13 16 (v1).toNatClampNeg) = v2 then (
        (inb v1 44) ∧ (
        if (p.1 15 4 (v1).toNatClampNeg) = v3 then (
          True)
        else (
          True)))
      else (
        True)))
    else (
      True))))
def R238 : List Row := [(0, .aload_n 0, 1, 0, (0, 0, 0, 0, 0, 0)), (1, .getfield 60, 3, 0, (12, 19, 18, 2, 3, 0)), (4, .iload_n 1, 1, 0, (0, 0, 0, 0, 0, 0)), (5, .baload, 1, 0, (15, 44, 0, 0, 0, 0)), (6, .ifCond .eq 37, 3, 0, (0, 0, 0, 0, 0, 0)), (9, .aload_n 0, 1, 0, (0, 0, 0, 0, 0, 0)), (10, .getfield 99, 3, 0, (12, 32, 16, 2, 24, 0)), (13, .iload_n 1, 1, 0, (0, 0, 0, 0, 0, 0)), (14, .iaload, 1, 0, (13, 44, 0, 0, 0, 0)), (15, .iconst 1, 1, 0, (0, 0, 0, 0, 0, 1)), (16, .if_icmp .ne 27, 3, 0, (0, 0, 0, 0, 0, 0)), (19, .aload_n 0, 1, 0, (0, 0, 0, 0, 0, 0)), (20, .getfield 69, 3, 0, (12, 22, 16, 2, 16, 0)), (23, .iload_n 1, 1, 0, (0, 0, 0, 0, 0, 0)), (24, .iaload, 1, 0, (13, 44, 0, 0, 0, 0)), (25, .iload_n 2, 1, 0, (0, 0, 0, 0, 0, 0)), (26, .if_icmp .ne 17, 3, 0, (0, 0, 0, 0, 0, 0)), (29, .aload_n 0, 1, 0, (0, 0, 0, 0, 0, 0)), (30, .getfield 72, 3, 0, (12, 23, 18, 2, 4, 0)), (33, .iload_n 1, 1, 0, (0, 0, 0, 0, 0, 0)), (34, .baload, 1, 0, (15, 44, 0, 0, 0, 0)), (35, .iload_n 3, 1, 0, (0, 0, 0, 0, 0, 0)), (36, .if_icmp .ne 7, 3, 0, (0, 0, 0, 0, 0, 0)), (39, .iconst 1, 1, 0, (0, 0, 0, 0, 0, 1)), (40, .goto 4, 3, 0, (0, 0, 0, 0, 0, 0)), (43, .iconst 0, 1, 0, (0, 0, 0, 0, 0, 0)), (44, .ireturn, 1, 0, (1, 0, 0, 0, 0, 0))]
set_option maxRecDepth 100000 in
theorem tab238 : TabOK 2 238 1 [] R238 := tab_ok (K := K238) rfl (fun h => d238 h) (by decide +kernel) (by decide +kernel)
theorem hc238 : ∀ C ∈ ([] : List Cal), CalOK 2 C := fnil
set_option maxRecDepth 100000 in
theorem pc238 : cutpc [] R238 = true := by decide +kernel
set_option maxRecDepth 100000 in
theorem t12_isThere (p : PM) (hg : Gr 2 p) : ∀ (v1 : Int32) (v2 : Int32) (v3 : Int32), g12_isThere p v1 v2 v3 → ZJ 2 238 0 [zR 12 1, zI v1, zI v2, zI v3] [] p (hoI p (v12_isThere p v1 v2 v3)) := by
  intro v1 v2 v3  H
  exact roI (n := 3000) (q := 0) (la := [zR 12 1, zI v1, zI v2, zI v3]) (sa := []) (ks := []) (gs := []) hc238 tab238 pc238 trivial hg H
noncomputable def C238 : Cal := (238, [15, 0, 0, 0], 1, true, fun as p => (zI (v12_isThere p (ai as 1) (ai as 2) (ai as 3)), p), fun as p => zsw (tc2 as [(112, 1), (0, 0), (0, 0), (0, 0)]) False (g12_isThere p (ai as 1) (ai as 2) (ai as 3)))
set_option maxRecDepth 100000 in
theorem ok238 : CalOK 2 C238 := cal_ok (m := 4) (by unfold mL; rw [mX_238]) (fun as p hg H => t12_isThere p hg (ai as 1) (ai as 2) (ai as 3) H)
noncomputable def v12_isBetter (p : PM) (v0 : Int32) (v1 : Int32) (v2 : Int32) : Int32 :=
  if v2 = 0 then (
    if v0 < v1 then (
      (cn 1))
    else (
      (cn 0)))
  else (
    if v1 < v0 then (
      (cn 1))
    else (
      (cn 0)))
noncomputable def g12_isBetter (p : PM) (v0 : Int32) (v1 : Int32) (v2 : Int32) : Prop :=
  if v2 = 0 then (
    if v0 < v1 then (
      True)
    else (
      True))
  else (
    if v1 < v0 then (
      True)
    else (
      True))
def R239 : List Row := [(0, .iload_n 2, 1, 0, (0, 0, 0, 0, 0, 0)), (1, .ifCond .eq 16, 3, 0, (0, 0, 0, 0, 0, 0)), (4, .iload_n 0, 1, 0, (0, 0, 0, 0, 0, 0)), (5, .iload_n 1, 1, 0, (0, 0, 0, 0, 0, 0)), (6, .if_icmp .le 7, 3, 0, (0, 0, 0, 0, 0, 0)), (9, .iconst 1, 1, 0, (0, 0, 0, 0, 0, 1)), (10, .goto 17, 3, 0, (0, 0, 0, 0, 0, 0)), (13, .iconst 0, 1, 0, (0, 0, 0, 0, 0, 0)), (14, .goto 13, 3, 0, (0, 0, 0, 0, 0, 0)), (17, .iload_n 0, 1, 0, (0, 0, 0, 0, 0, 0)), (18, .iload_n 1, 1, 0, (0, 0, 0, 0, 0, 0)), (19, .if_icmp .ge 7, 3, 0, (0, 0, 0, 0, 0, 0)), (22, .iconst 1, 1, 0, (0, 0, 0, 0, 0, 1)), (23, .goto 4, 3, 0, (0, 0, 0, 0, 0, 0)), (26, .iconst 0, 1, 0, (0, 0, 0, 0, 0, 0)), (27, .ireturn, 1, 0, (1, 0, 0, 0, 0, 0))]
set_option maxRecDepth 100000 in
theorem tab239 : TabOK 2 239 1 [] R239 := tab_ok (K := K239) rfl (fun h => d239 h) (by decide +kernel) (by decide +kernel)
theorem hc239 : ∀ C ∈ ([] : List Cal), CalOK 2 C := fnil
set_option maxRecDepth 100000 in
theorem pc239 : cutpc [] R239 = true := by decide +kernel
set_option maxRecDepth 100000 in
theorem t12_isBetter (p : PM) (hg : Gr 2 p) : ∀ (v0 : Int32) (v1 : Int32) (v2 : Int32), g12_isBetter p v0 v1 v2 → ZJ 2 239 0 [zI v0, zI v1, zI v2] [] p (hoI p (v12_isBetter p v0 v1 v2)) := by
  intro v0 v1 v2  H
  exact roI (n := 3000) (q := 0) (la := [zI v0, zI v1, zI v2]) (sa := []) (ks := []) (gs := []) hc239 tab239 pc239 trivial hg H
noncomputable def C239 : Cal := (239, [0, 0, 0], 1, true, fun as p => (zI (v12_isBetter p (ai as 0) (ai as 1) (ai as 2)), p), fun as p => zsw (tc2 as [(0, 0), (0, 0), (0, 0)]) False (g12_isBetter p (ai as 0) (ai as 1) (ai as 2)))
set_option maxRecDepth 100000 in
theorem ok239 : CalOK 2 C239 := cal_ok (m := 3) (by unfold mL; rw [mX_239]) (fun as p hg H => t12_isBetter p hg (ai as 0) (ai as 1) (ai as 2) H)
noncomputable def bv12_bestOf_7 (p : PM) (ih : Int32 → Int32 → Int32 → Int32 → Int32 → Int32) (v1 : Int32) (v2 : Int32) (v3 : Int32) (v4 : Int32) (v5 : Int32) : Int32 :=
  if v5 < (cn 44) then (
    if (v12_isThere p v5 v1 v2) = 0 then (
      ih v1 v2 v3 v4 (v5 + (cn 1)))
    else (
      if (p.1 15 5 (v5).toNatClampNeg) = 0 then (
        if v3 = 0 then (
          if (p.1 13 19 (v5).toNatClampNeg) = (cn 2) then (
            ih v1 v2 v3 v4 (v5 + (cn 1)))
          else (
            if v4 = (cn (-100000)) then (
              let x3 : Int32 := (p.1 13 25 (v5).toNatClampNeg)
              ih v1 v2 v3 x3 (v5 + (cn 1)))
            else (
              if (v12_isBetter p (p.1 13 25 (v5).toNatClampNeg) v4 v2) = 0 then (
                ih v1 v2 v3 v4 (v5 + (cn 1)))
              else (
                let x4 : Int32 := (p.1 13 25 (v5).toNatClampNeg)
                ih v1 v2 v3 x4 (v5 + (cn 1))))))
        else (
          if v4 = (cn (-100000)) then (
            let x1 : Int32 := (p.1 13 25 (v5).toNatClampNeg)
            ih v1 v2 v3 x1 (v5 + (cn 1)))
          else (
            if (v12_isBetter p (p.1 13 25 (v5).toNatClampNeg) v4 v2) = 0 then (
              ih v1 v2 v3 v4 (v5 + (cn 1)))
            else (
              let x2 : Int32 := (p.1 13 25 (v5).toNatClampNeg)
              ih v1 v2 v3 x2 (v5 + (cn 1))))))
      else (
        ih v1 v2 v3 v4 (v5 + (cn 1)))))
  else (
    v4)
noncomputable def v12_bestOf_7 (p : PM) (n : Nat) : Int32 → Int32 → Int32 → Int32 → Int32 → Int32 := Nat.rec (motive := fun _ => Int32 → Int32 → Int32 → Int32 → Int32 → Int32) (fun _ _ _ _ _ => 0) (fun _ ih => bv12_bestOf_7 p ih) n
noncomputable def bg12_bestOf_7 (p : PM) (ih : Int32 → Int32 → Int32 → Int32 → Int32 → Prop) (v1 : Int32) (v2 : Int32) (v3 : Int32) (v4 : Int32) (v5 : Int32) : Prop :=
  if v5 < (cn 44) then (
    (g12_isThere p v5 v1 v2) ∧ (
    if (v12_isThere p v5 v1 v2) = 0 then (
      ih v1 v2 v3 v4 (v5 + (cn 1)))
    else (
      (inb v5 44) ∧ (
      if (p.1 15 5 (v5).toNatClampNeg) = 0 then (
        if v3 = 0 then (
          (inb v5 44) ∧ (
          if (p.1 13 19 (v5).toNatClampNeg) = (cn 2) then (
            ih v1 v2 v3 v4 (v5 + (cn 1)))
          else (
            if v4 = (cn (-100000)) then (
              (inb v5 44) ∧ (
              let x3 : Int32 := (p.1 13 25 (v5).toNatClampNeg)
              ih v1 v2 v3 x3 (v5 + (cn 1))))
            else (
              (inb v5 44) ∧ (
              (g12_isBetter p (p.1 13 25 (v5).toNatClampNeg) v4 v2) ∧ (
              if (v12_isBetter p (p.1 13 25 (v5).toNatClampNeg) v4 v2) = 0 then (
                ih v1 v2 v3 v4 (v5 + (cn 1)))
              else (
                (inb v5 44) ∧ (
                let x4 : Int32 := (p.1 13 25 (v5).toNatClampNeg)
                ih v1 v2 v3 x4 (v5 + (cn 1))))))))))
        else (
          if v4 = (cn (-100000)) then (
            (inb v5 44) ∧ (
            let x1 : Int32 := (p.1 13 25 (v5).toNatClampNeg)
            ih v1 v2 v3 x1 (v5 + (cn 1))))
          else (
            (inb v5 44) ∧ (
            (g12_isBetter p (p.1 13 25 (v5).toNatClampNeg) v4 v2) ∧ (
            if (v12_isBetter p (p.1 13 25 (v5).toNatClampNeg) v4 v2) = 0 then (
              ih v1 v2 v3 v4 (v5 + (cn 1)))
            else (
              (inb v5 44) ∧ (
              let x2 : Int32 := (p.1 13 25 (v5).toNatClampNeg)
              ih v1 v2 v3 x2 (v5 + (cn 1)))))))))
      else (
        ih v1 v2 v3 v4 (v5 + (cn 1)))))))
  else (
    True)
noncomputable def g12_bestOf_7 (p : PM) (n : Nat) : Int32 → Int32 → Int32 → Int32 → Int32 → Prop := Nat.rec (motive := fun _ => Int32 → Int32 → Int32 → Int32 → Int32 → Prop) (fun _ _ _ _ _ => False) (fun _ ih => bg12_bestOf_7 p ih) n
noncomputable def v12_bestOf (p : PM) (v1 : Int32) (v2 : Int32) (v3 : Int32) : Int32 :=
  v12_bestOf_7 p FU v1 v2 v3 (cn (-100000)) (cn 0)
noncomputable def g12_bestOf (p : PM) (v1 : Int32) (v2 : Int32) (v3 : Int32) : Prop :=
  g12_bestOf_7 p FU v1 v2 v3 (cn (-100000)) (cn 0)
def R240 : List Row := [(0, .ldc 184, 2, 0, (0, 0, 0, 0, 0, -100000)), (2, .istore 4, 2, 0, (0, 0, 0, 0, 0, 0)), (4, .iconst 0, 1, 0, (0, 0, 0, 0, 0, 0)), (5, .istore 5, 2, 0, (0, 0, 0, 0, 0, 0)), (7, .iload 5, 2, 1, (0, 0, 0, 0, 0, 0)), (9, .bipush 44, 2, 0, (0, 0, 0, 0, 0, 44)), (11, .if_icmp .ge 82, 3, 0, (0, 0, 0, 0, 0, 0)), (14, .aload_n 0, 1, 0, (0, 0, 0, 0, 0, 0)), (15, .iload 5, 2, 0, (0, 0, 0, 0, 0, 0)), (17, .iload_n 1, 1, 0, (0, 0, 0, 0, 0, 0)), (18, .iload_n 2, 1, 0, (0, 0, 0, 0, 0, 0)), (19, .invokevirtual 244, 3, 0, (0, 4, 0, 0, 1, 0)), (22, .ifCond .eq 65, 3, 0, (0, 0, 0, 0, 0, 0)), (25, .aload_n 0, 1, 0, (0, 0, 0, 0, 0, 0)), (26, .getfield 78, 3, 0, (12, 25, 18, 2, 5, 0)), (29, .iload 5, 2, 0, (0, 0, 0, 0, 0, 0)), (31, .baload, 1, 0, (15, 44, 0, 0, 0, 0)), (32, .ifCond .ne 55, 3, 0, (0, 0, 0, 0, 0, 0)), (35, .iload_n 3, 1, 0, (0, 0, 0, 0, 0, 0)), (36, .ifCond .ne 14, 3, 0, (0, 0, 0, 0, 0, 0)), (39, .aload_n 0, 1, 0, (0, 0, 0, 0, 0, 0)), (40, .getfield 84, 3, 0, (12, 27, 16, 2, 19, 0)), (43, .iload 5, 2, 0, (0, 0, 0, 0, 0, 0)), (45, .iaload, 1, 0, (13, 44, 0, 0, 0, 0)), (46, .iconst 2, 1, 0, (0, 0, 0, 0, 0, 2)), (47, .if_icmp .eq 40, 3, 0, (0, 0, 0, 0, 0, 0)), (50, .iload 4, 2, 0, (0, 0, 0, 0, 0, 0)), (52, .ldc 184, 2, 0, (0, 0, 0, 0, 0, -100000)), (54, .if_icmp .eq 19, 3, 0, (0, 0, 0, 0, 0, 0)), (57, .aload_n 0, 1, 0, (0, 0, 0, 0, 0, 0)), (58, .getfield 102, 3, 0, (12, 33, 16, 2, 25, 0)), (61, .iload 5, 2, 0, (0, 0, 0, 0, 0, 0)), (63, .iaload, 1, 0, (13, 44, 0, 0, 0, 0)), (64, .iload 4, 2, 0, (0, 0, 0, 0, 0, 0)), (66, .iload_n 2, 1, 0, (0, 0, 0, 0, 0, 0)), (67, .invokestatic 248, 3, 0, (1, 3, 0, 0, 0, 0)), (70, .ifCond .eq 13, 3, 0, (0, 0, 0, 0, 0, 0)), (73, .aload_n 0, 1, 0, (0, 0, 0, 0, 0, 0)), (74, .getfield 102, 3, 0, (12, 33, 16, 2, 25, 0)), (77, .iload 5, 2, 0, (0, 0, 0, 0, 0, 0)), (79, .iaload, 1, 0, (13, 44, 0, 0, 0, 0)), (80, .goto 5, 3, 0, (0, 0, 0, 0, 0, 0)), (83, .iload 4, 2, 0, (0, 0, 0, 0, 0, 0)), (85, .istore 4, 2, 0, (0, 0, 0, 0, 0, 0)), (87, .iinc 5 1, 3, 0, (0, 0, 0, 0, 0, 1)), (90, .goto (-83), 3, 0, (0, 0, 0, 0, 0, 0)), (93, .iload 4, 2, 0, (0, 0, 0, 0, 0, 0)), (95, .ireturn, 1, 0, (0, 0, 0, 0, 0, 0))]
set_option maxRecDepth 100000 in
theorem tab240 : TabOK 2 240 1 [C238, C239] R240 := tab_ok (K := K240) rfl (fun h => d240 h) (by decide +kernel) (by decide +kernel)
theorem hc240 : ∀ C ∈ ([C238, C239] : List Cal), CalOK 2 C := fcons ok238 (fcons ok239 (fnil))
set_option maxRecDepth 100000 in
theorem pc240 : cutpc [7] R240 = true := by decide +kernel
set_option maxRecDepth 100000 in
theorem t12_bestOf_7 (p : PM) (hg : Gr 2 p) : ∀ (n : Nat), ∀ (v1 : Int32) (v2 : Int32) (v3 : Int32) (v4 : Int32) (v5 : Int32), g12_bestOf_7 p n v1 v2 v3 v4 v5 → ZJ 2 240 7 [zR 12 1, zI v1, zI v2, zI v3, zI v4, zI v5] [] p (hoI p (v12_bestOf_7 p n v1 v2 v3 v4 v5)) := by
  intro n
  induction n with
  | zero =>
    intro v1 v2 v3 v4 v5  H
    exact H.elim
  | succ n ih =>
    intro v1 v2 v3 v4 v5  H
    exact roI (n := 3000) (q := 7) (la := [zR 12 1, zI v1, zI v2, zI v3, zI v4, zI v5]) (sa := []) (ks := [fun la sa _ => (v12_bestOf_7 p n) (ai la 1) (ai la 2) (ai la 3) (ai la 4) (ai la 5)]) (gs := [fun la sa _ => zsw (tc2 la [(112, 1), (0, 0), (0, 0), (0, 0), (0, 0), (0, 0)] && tc2 sa []) False ((g12_bestOf_7 p n) (ai la 1) (ai la 2) (ai la 3) (ai la 4) (ai la 5))]) hc240 tab240 pc240 ⟨fun la sa s hg H => zcut H fun H => ih (ai la 1) (ai la 2) (ai la 3) (ai la 4) (ai la 5) H, trivial⟩ hg H
set_option maxRecDepth 100000 in
theorem t12_bestOf (p : PM) (hg : Gr 2 p) : ∀ (v1 : Int32) (v2 : Int32) (v3 : Int32), g12_bestOf p v1 v2 v3 → ZJ 2 240 0 [zR 12 1, zI v1, zI v2, zI v3, zJ, zJ] [] p (hoI p (v12_bestOf p v1 v2 v3)) := by
  intro v1 v2 v3  H
  exact roI (n := 3000) (q := 0) (la := [zR 12 1, zI v1, zI v2, zI v3, zJ, zJ]) (sa := []) (ks := [fun la sa _ => v12_bestOf_7 p FU (ai la 1) (ai la 2) (ai la 3) (ai la 4) (ai la 5)]) (gs := [fun la sa _ => zsw (tc2 la [(112, 1), (0, 0), (0, 0), (0, 0), (0, 0), (0, 0)] && tc2 sa []) False (g12_bestOf_7 p FU (ai la 1) (ai la 2) (ai la 3) (ai la 4) (ai la 5))]) hc240 tab240 pc240 ⟨fun la sa s hg H => zcut H fun H => t12_bestOf_7 p hg FU (ai la 1) (ai la 2) (ai la 3) (ai la 4) (ai la 5) H, trivial⟩ hg H
noncomputable def C240 : Cal := (240, [15, 0, 0, 0], 1, true, fun as p => (zI (v12_bestOf p (ai as 1) (ai as 2) (ai as 3)), p), fun as p => zsw (tc2 as [(112, 1), (0, 0), (0, 0), (0, 0)]) False (g12_bestOf p (ai as 1) (ai as 2) (ai as 3)))
set_option maxRecDepth 100000 in
theorem ok240 : CalOK 2 C240 := cal_ok (m := 6) (by unfold mL; rw [mX_240]) (fun as p hg H => t12_bestOf p hg (ai as 1) (ai as 2) (ai as 3) H)
noncomputable def v0_holds (p : PM) (v0 : Nat) (v1 : Int32) : Int32 :=
  if v1 < 0 then (
    (cn 0))
  else (
    if v1 < (cn 4) then (
      (p.1 13 (2 * v0 - 1) (v1).toNatClampNeg))
    else (
      (cn 0)))
noncomputable def g0_holds (p : PM) (v0 : Nat) (v1 : Int32) : Prop :=
  if v1 < 0 then (
    True)
  else (
    ((¬ v0 = 0 ∧ v0 ≤ 9)) ∧ (
    ((¬ (2 * v0 - 1) = 0 ∧ (2 * v0 - 1) ≤ 18)) ∧ (
    if v1 < (cn 4) then (
      ((¬ v0 = 0 ∧ v0 ≤ 9)) ∧ (
      (((¬ (2 * v0 - 1) = 0 ∧ (2 * v0 - 1) ≤ 18) ∧ inb v1 4)) ∧ (
      True)))
    else (
      True))))
def R2 : List Row := [(0, .iload_n 1, 1, 0, (0, 0, 0, 0, 0, 0)), (1, .ifCond .lt 21, 3, 0, (0, 0, 0, 0, 0, 0)), (4, .iload_n 1, 1, 0, (0, 0, 0, 0, 0, 0)), (5, .aload_n 0, 1, 0, (0, 0, 0, 0, 0, 0)), (6, .getfield 9, 3, 0, (0, 2, 16, 3, 0, 0)), (9, .arraylength, 1, 0, (13, 4, 1, 0, 0, 4)), (10, .if_icmp .ge 12, 3, 0, (0, 0, 0, 0, 0, 0)), (13, .aload_n 0, 1, 0, (0, 0, 0, 0, 0, 0)), (14, .getfield 9, 3, 0, (0, 2, 16, 3, 0, 0)), (17, .iload_n 1, 1, 0, (0, 0, 0, 0, 0, 0)), (18, .iaload, 1, 0, (13, 4, 1, 0, 0, 0)), (19, .goto 4, 3, 0, (0, 0, 0, 0, 0, 0)), (22, .iconst 0, 1, 0, (0, 0, 0, 0, 0, 0)), (23, .ireturn, 1, 0, (0, 0, 0, 0, 0, 0))]
set_option maxRecDepth 100000 in
theorem tab2 : TabOK 0 2 1 [] R2 := tab_ok (K := K2) rfl (fun h => d2 h) (by decide +kernel) (by decide +kernel)
theorem hc2 : ∀ C ∈ ([] : List Cal), CalOK 0 C := fnil
set_option maxRecDepth 100000 in
theorem pc2 : cutpc [] R2 = true := by decide +kernel
set_option maxRecDepth 100000 in
theorem t0_holds (p : PM) (hg : Gr 0 p) : ∀ (v0 : Nat) (v1 : Int32), g0_holds p v0 v1 → ZJ 0 2 0 [zR 0 v0, zI v1] [] p (hoI p (v0_holds p v0 v1)) := by
  intro v0 v1  H
  exact roI (n := 3000) (q := 0) (la := [zR 0 v0, zI v1]) (sa := []) (ks := []) (gs := []) hc2 tab2 pc2 trivial hg H
noncomputable def C2 : Cal := (2, [3, 0], 1, true, fun as p => (zI (v0_holds p (ar as 0) (ai as 1)), p), fun as p => zsw (tc2 as [(4, 0), (0, 0)]) False (g0_holds p (ar as 0) (ai as 1)))
set_option maxRecDepth 100000 in
theorem ok2 : CalOK 0 C2 := cal_ok (m := 2) (by unfold mL; rw [mX_2]) (fun as p hg H => t0_holds p hg (ar as 0) (ai as 1) H)
