/-! methods as functions over one part, by program (wip/whole/lift.py) -/
noncomputable def bv12_isThere (p : PM) (v1 : Int32) (v2 : Int32) (v3 : Int32) : Int32 :=
  if (p.1 15 3 (v1).toNatClampNeg) = 0 then (
    (cn 0))
  else (
    if (p.1 13 24 (v1).toNatClampNeg) = (cn 1) then (
      if (p.1 13 16 (v1).toNatClampNeg) = v2 then (
        if (p.1 15 4 (v1).toNatClampNeg) = v3 then (
          (cn 1))
        else (
          (cn 0)))
      else (
        (cn 0)))
    else (
      (cn 0)))
noncomputable def v12_isThere (p : PM) (v1 : Int32) (v2 : Int32) (v3 : Int32) : Int32 := bv12_isThere p v1 v2 v3
noncomputable def bg12_isThere (p : PM) (v1 : Int32) (v2 : Int32) (v3 : Int32) : Prop :=
  (inb v1 44) ∧ (
  if (p.1 15 3 (v1).toNatClampNeg) = 0 then (
    True)
  else (
    (inb v1 44) ∧ (
    if (p.1 13 24 (v1).toNatClampNeg) = (cn 1) then (
      (inb v1 44) ∧ (
      if (p.1 13 16 (v1).toNatClampNeg) = v2 then (
        (inb v1 44) ∧ (
        if (p.1 15 4 (v1).toNatClampNeg) = v3 then (
          True)
        else (
          True)))
      else (
        True)))
    else (
      True))))
noncomputable def g12_isThere (p : PM) (v1 : Int32) (v2 : Int32) (v3 : Int32) : Prop := bg12_isThere p v1 v2 v3
def R238 : List Row := [(0, .aload_n 0, 1, 0, (0, 0, 0, 0, 0, 0)), (1, .getfield 60, 3, 0, (12, 19, 18, 2, 3, 0)), (4, .iload_n 1, 1, 0, (0, 0, 0, 0, 0, 0)), (5, .baload, 1, 0, (15, 44, 0, 0, 0, 0)), (6, .ifCond .eq 37, 3, 0, (0, 0, 0, 0, 0, 0)), (9, .aload_n 0, 1, 0, (0, 0, 0, 0, 0, 0)), (10, .getfield 99, 3, 0, (12, 32, 16, 2, 24, 0)), (13, .iload_n 1, 1, 0, (0, 0, 0, 0, 0, 0)), (14, .iaload, 1, 0, (13, 44, 0, 0, 0, 0)), (15, .iconst 1, 1, 0, (0, 0, 0, 0, 0, 1)), (16, .if_icmp .ne 27, 3, 0, (0, 0, 0, 0, 0, 0)), (19, .aload_n 0, 1, 0, (0, 0, 0, 0, 0, 0)), (20, .getfield 69, 3, 0, (12, 22, 16, 2, 16, 0)), (23, .iload_n 1, 1, 0, (0, 0, 0, 0, 0, 0)), (24, .iaload, 1, 0, (13, 44, 0, 0, 0, 0)), (25, .iload_n 2, 1, 0, (0, 0, 0, 0, 0, 0)), (26, .if_icmp .ne 17, 3, 0, (0, 0, 0, 0, 0, 0)), (29, .aload_n 0, 1, 0, (0, 0, 0, 0, 0, 0)), (30, .getfield 72, 3, 0, (12, 23, 18, 2, 4, 0)), (33, .iload_n 1, 1, 0, (0, 0, 0, 0, 0, 0)), (34, .baload, 1, 0, (15, 44, 0, 0, 0, 0)), (35, .iload_n 3, 1, 0, (0, 0, 0, 0, 0, 0)), (36, .if_icmp .ne 7, 3, 0, (0, 0, 0, 0, 0, 0)), (39, .iconst 1, 1, 0, (0, 0, 0, 0, 0, 1)), (40, .goto 4, 3, 0, (0, 0, 0, 0, 0, 0)), (43, .iconst 0, 1, 0, (0, 0, 0, 0, 0, 0)), (44, .ireturn, 1, 0, (1, 0, 0, 0, 0, 0))]
set_option maxRecDepth 100000 in
theorem rk238 : R238.all (rok 2 238 1 []) = true := by decide +kernel
set_option maxRecDepth 100000 in
theorem tab238 : TabOK 2 238 1 [] R238 := tab_ok (K := K238) rfl rfl (fun h => d238 h) rk238 (by decide +kernel)
set_option maxRecDepth 100000 in
theorem pc238 : cutpc [] R238 = true := by decide +kernel
set_option maxRecDepth 100000 in
theorem r12_isThere (p : PM) (hg : Gr 2 p) : ∀ (v1 : Int32) (v2 : Int32) (v3 : Int32), bg12_isThere p v1 v2 v3 → ZJ 2 238 0 [zR 12 1, zI v1, zI v2, zI v3] [] p (hoI p (bv12_isThere p v1 v2 v3)) := by
  intro v1 v2 v3  H
  exact roI (n := 3000) (q := 0) (la := [zR 12 1, zI v1, zI v2, zI v3]) (sa := []) (ks := []) (gs := []) (fnil) tab238 pc238 trivial hg H
theorem t12_isThere (p : PM) (hg : Gr 2 p) : ∀ (v1 : Int32) (v2 : Int32) (v3 : Int32), g12_isThere p v1 v2 v3 → ZJ 2 238 0 [zR 12 1, zI v1, zI v2, zI v3] [] p (hoI p (v12_isThere p v1 v2 v3)) := r12_isThere p hg
def CC238 (F : PM → Int32 → Int32 → Int32 → Int32) (G : PM → Int32 → Int32 → Int32 → Prop) : Cal := (238, [15, 0, 0, 0], 1, true, fun as p => (zI (F p (ai as 1) (ai as 2) (ai as 3)), p), fun as p => zsw (tc2 as [(112, 1), (0, 0), (0, 0), (0, 0)]) False (G p (ai as 1) (ai as 2) (ai as 3)))
set_option maxRecDepth 100000 in
theorem okr238 (F : PM → Int32 → Int32 → Int32 → Int32) (G : PM → Int32 → Int32 → Int32 → Prop) (h : ∀ (p : PM) (v1 : Int32) (v2 : Int32) (v3 : Int32), Gr 2 p → G p v1 v2 v3 → ZJ 2 238 0 [zR 12 1, zI v1, zI v2, zI v3] [] p (hoI p (F p v1 v2 v3))) : CalOK 2 (CC238 F G) := cal_ok (m := 4) (by unfold mL; rw [mX_238]) (fun as p hg H => h p (ai as 1) (ai as 2) (ai as 3) hg H)
theorem ok238 : CalOK 2 (CC238 v12_isThere g12_isThere) := okr238 v12_isThere g12_isThere (fun p v1 v2 v3 hg H => t12_isThere p hg v1 v2 v3 H)
noncomputable def bv12_isBetter (p : PM) (v0 : Int32) (v1 : Int32) (v2 : Int32) : Int32 :=
  if v2 = 0 then (
    if v0 < v1 then (
      (cn 1))
    else (
      (cn 0)))
  else (
    if v1 < v0 then (
      (cn 1))
    else (
      (cn 0)))
noncomputable def v12_isBetter (p : PM) (v0 : Int32) (v1 : Int32) (v2 : Int32) : Int32 := bv12_isBetter p v0 v1 v2
noncomputable def bg12_isBetter (p : PM) (v0 : Int32) (v1 : Int32) (v2 : Int32) : Prop :=
  if v2 = 0 then (
    if v0 < v1 then (
      True)
    else (
      True))
  else (
    if v1 < v0 then (
      True)
    else (
      True))
noncomputable def g12_isBetter (p : PM) (v0 : Int32) (v1 : Int32) (v2 : Int32) : Prop := bg12_isBetter p v0 v1 v2
def R239 : List Row := [(0, .iload_n 2, 1, 0, (0, 0, 0, 0, 0, 0)), (1, .ifCond .eq 16, 3, 0, (0, 0, 0, 0, 0, 0)), (4, .iload_n 0, 1, 0, (0, 0, 0, 0, 0, 0)), (5, .iload_n 1, 1, 0, (0, 0, 0, 0, 0, 0)), (6, .if_icmp .le 7, 3, 0, (0, 0, 0, 0, 0, 0)), (9, .iconst 1, 1, 0, (0, 0, 0, 0, 0, 1)), (10, .goto 17, 3, 0, (0, 0, 0, 0, 0, 0)), (13, .iconst 0, 1, 0, (0, 0, 0, 0, 0, 0)), (14, .goto 13, 3, 0, (0, 0, 0, 0, 0, 0)), (17, .iload_n 0, 1, 0, (0, 0, 0, 0, 0, 0)), (18, .iload_n 1, 1, 0, (0, 0, 0, 0, 0, 0)), (19, .if_icmp .ge 7, 3, 0, (0, 0, 0, 0, 0, 0)), (22, .iconst 1, 1, 0, (0, 0, 0, 0, 0, 1)), (23, .goto 4, 3, 0, (0, 0, 0, 0, 0, 0)), (26, .iconst 0, 1, 0, (0, 0, 0, 0, 0, 0)), (27, .ireturn, 1, 0, (1, 0, 0, 0, 0, 0))]
set_option maxRecDepth 100000 in
theorem rk239 : R239.all (rok 2 239 1 []) = true := by decide +kernel
set_option maxRecDepth 100000 in
theorem tab239 : TabOK 2 239 1 [] R239 := tab_ok (K := K239) rfl rfl (fun h => d239 h) rk239 (by decide +kernel)
set_option maxRecDepth 100000 in
theorem pc239 : cutpc [] R239 = true := by decide +kernel
set_option maxRecDepth 100000 in
theorem r12_isBetter (p : PM) (hg : Gr 2 p) : ∀ (v0 : Int32) (v1 : Int32) (v2 : Int32), bg12_isBetter p v0 v1 v2 → ZJ 2 239 0 [zI v0, zI v1, zI v2] [] p (hoI p (bv12_isBetter p v0 v1 v2)) := by
  intro v0 v1 v2  H
  exact roI (n := 3000) (q := 0) (la := [zI v0, zI v1, zI v2]) (sa := []) (ks := []) (gs := []) (fnil) tab239 pc239 trivial hg H
theorem t12_isBetter (p : PM) (hg : Gr 2 p) : ∀ (v0 : Int32) (v1 : Int32) (v2 : Int32), g12_isBetter p v0 v1 v2 → ZJ 2 239 0 [zI v0, zI v1, zI v2] [] p (hoI p (v12_isBetter p v0 v1 v2)) := r12_isBetter p hg
def CC239 (F : PM → Int32 → Int32 → Int32 → Int32) (G : PM → Int32 → Int32 → Int32 → Prop) : Cal := (239, [0, 0, 0], 1, true, fun as p => (zI (F p (ai as 0) (ai as 1) (ai as 2)), p), fun as p => zsw (tc2 as [(0, 0), (0, 0), (0, 0)]) False (G p (ai as 0) (ai as 1) (ai as 2)))
set_option maxRecDepth 100000 in
theorem okr239 (F : PM → Int32 → Int32 → Int32 → Int32) (G : PM → Int32 → Int32 → Int32 → Prop) (h : ∀ (p : PM) (v0 : Int32) (v1 : Int32) (v2 : Int32), Gr 2 p → G p v0 v1 v2 → ZJ 2 239 0 [zI v0, zI v1, zI v2] [] p (hoI p (F p v0 v1 v2))) : CalOK 2 (CC239 F G) := cal_ok (m := 3) (by unfold mL; rw [mX_239]) (fun as p hg H => h p (ai as 0) (ai as 1) (ai as 2) hg H)
theorem ok239 : CalOK 2 (CC239 v12_isBetter g12_isBetter) := okr239 v12_isBetter g12_isBetter (fun p v0 v1 v2 hg H => t12_isBetter p hg v0 v1 v2 H)
noncomputable def bv12_bestOf_7 (p : PM) (F238 : PM → Int32 → Int32 → Int32 → Int32) (F239 : PM → Int32 → Int32 → Int32 → Int32) (kv7 : Int32 → Int32 → Int32 → Int32 → Int32 → Int32) (v1 : Int32) (v2 : Int32) (v3 : Int32) (v4 : Int32) (v5 : Int32) : Int32 :=
  if v5 < (cn 44) then (
    if (F238 p v5 v1 v2) = 0 then (
      kv7 v1 v2 v3 v4 (v5 + (cn 1)))
    else (
      if (p.1 15 5 (v5).toNatClampNeg) = 0 then (
        if v3 = 0 then (
          if (p.1 13 19 (v5).toNatClampNeg) = (cn 2) then (
            kv7 v1 v2 v3 v4 (v5 + (cn 1)))
          else (
            if v4 = (cn (-100000)) then (
              let x3 : Int32 := (p.1 13 25 (v5).toNatClampNeg)
              kv7 v1 v2 v3 x3 (v5 + (cn 1)))
            else (
              if (F239 p (p.1 13 25 (v5).toNatClampNeg) v4 v2) = 0 then (
                kv7 v1 v2 v3 v4 (v5 + (cn 1)))
              else (
                let x4 : Int32 := (p.1 13 25 (v5).toNatClampNeg)
                kv7 v1 v2 v3 x4 (v5 + (cn 1))))))
        else (
          if v4 = (cn (-100000)) then (
            let x1 : Int32 := (p.1 13 25 (v5).toNatClampNeg)
            kv7 v1 v2 v3 x1 (v5 + (cn 1)))
          else (
            if (F239 p (p.1 13 25 (v5).toNatClampNeg) v4 v2) = 0 then (
              kv7 v1 v2 v3 v4 (v5 + (cn 1)))
            else (
              let x2 : Int32 := (p.1 13 25 (v5).toNatClampNeg)
              kv7 v1 v2 v3 x2 (v5 + (cn 1))))))
      else (
        kv7 v1 v2 v3 v4 (v5 + (cn 1)))))
  else (
    v4)
noncomputable def v12_bestOf_7 (p : PM) (n : Nat) : Int32 → Int32 → Int32 → Int32 → Int32 → Int32 := Nat.rec (motive := fun _ => Int32 → Int32 → Int32 → Int32 → Int32 → Int32) (fun _ _ _ _ _ => 0) (fun _ ih => bv12_bestOf_7 p v12_isThere v12_isBetter ih) n
noncomputable def bg12_bestOf_7 (p : PM) (F238 : PM → Int32 → Int32 → Int32 → Int32) (G238 : PM → Int32 → Int32 → Int32 → Prop) (F239 : PM → Int32 → Int32 → Int32 → Int32) (G239 : PM → Int32 → Int32 → Int32 → Prop) (kg7 : Int32 → Int32 → Int32 → Int32 → Int32 → Prop) (v1 : Int32) (v2 : Int32) (v3 : Int32) (v4 : Int32) (v5 : Int32) : Prop :=
  if v5 < (cn 44) then (
    (G238 p v5 v1 v2) ∧ (
    if (F238 p v5 v1 v2) = 0 then (
      kg7 v1 v2 v3 v4 (v5 + (cn 1)))
    else (
      (inb v5 44) ∧ (
      if (p.1 15 5 (v5).toNatClampNeg) = 0 then (
        if v3 = 0 then (
          (inb v5 44) ∧ (
          if (p.1 13 19 (v5).toNatClampNeg) = (cn 2) then (
            kg7 v1 v2 v3 v4 (v5 + (cn 1)))
          else (
            if v4 = (cn (-100000)) then (
              (inb v5 44) ∧ (
              let x3 : Int32 := (p.1 13 25 (v5).toNatClampNeg)
              kg7 v1 v2 v3 x3 (v5 + (cn 1))))
            else (
              (inb v5 44) ∧ (
              (G239 p (p.1 13 25 (v5).toNatClampNeg) v4 v2) ∧ (
              if (F239 p (p.1 13 25 (v5).toNatClampNeg) v4 v2) = 0 then (
                kg7 v1 v2 v3 v4 (v5 + (cn 1)))
              else (
                (inb v5 44) ∧ (
                let x4 : Int32 := (p.1 13 25 (v5).toNatClampNeg)
                kg7 v1 v2 v3 x4 (v5 + (cn 1))))))))))
        else (
          if v4 = (cn (-100000)) then (
            (inb v5 44) ∧ (
            let x1 : Int32 := (p.1 13 25 (v5).toNatClampNeg)
            kg7 v1 v2 v3 x1 (v5 + (cn 1))))
          else (
            (inb v5 44) ∧ (
            (G239 p (p.1 13 25 (v5).toNatClampNeg) v4 v2) ∧ (
            if (F239 p (p.1 13 25 (v5).toNatClampNeg) v4 v2) = 0 then (
              kg7 v1 v2 v3 v4 (v5 + (cn 1)))
            else (
              (inb v5 44) ∧ (
              let x2 : Int32 := (p.1 13 25 (v5).toNatClampNeg)
              kg7 v1 v2 v3 x2 (v5 + (cn 1)))))))))
      else (
        kg7 v1 v2 v3 v4 (v5 + (cn 1)))))))
  else (
    True)
noncomputable def g12_bestOf_7 (p : PM) (n : Nat) : Int32 → Int32 → Int32 → Int32 → Int32 → Prop := Nat.rec (motive := fun _ => Int32 → Int32 → Int32 → Int32 → Int32 → Prop) (fun _ _ _ _ _ => False) (fun _ ih => bg12_bestOf_7 p v12_isThere g12_isThere v12_isBetter g12_isBetter ih) n
noncomputable def bv12_bestOf (p : PM) (kv7 : Int32 → Int32 → Int32 → Int32 → Int32 → Int32) (v1 : Int32) (v2 : Int32) (v3 : Int32) : Int32 :=
  kv7 v1 v2 v3 (cn (-100000)) (cn 0)
noncomputable def v12_bestOf (p : PM) (v1 : Int32) (v2 : Int32) (v3 : Int32) : Int32 := bv12_bestOf p (v12_bestOf_7 p FU) v1 v2 v3
noncomputable def bg12_bestOf (p : PM) (kg7 : Int32 → Int32 → Int32 → Int32 → Int32 → Prop) (v1 : Int32) (v2 : Int32) (v3 : Int32) : Prop :=
  kg7 v1 v2 v3 (cn (-100000)) (cn 0)
noncomputable def g12_bestOf (p : PM) (v1 : Int32) (v2 : Int32) (v3 : Int32) : Prop := bg12_bestOf p (g12_bestOf_7 p FU) v1 v2 v3
def R240 : List Row := [(0, .ldc 184, 2, 0, (0, 0, 0, 0, 0, -100000)), (2, .istore 4, 2, 0, (0, 0, 0, 0, 0, 0)), (4, .iconst 0, 1, 0, (0, 0, 0, 0, 0, 0)), (5, .istore 5, 2, 0, (0, 0, 0, 0, 0, 0)), (7, .iload 5, 2, 1, (0, 0, 0, 0, 0, 0)), (9, .bipush 44, 2, 0, (0, 0, 0, 0, 0, 44)), (11, .if_icmp .ge 82, 3, 0, (0, 0, 0, 0, 0, 0)), (14, .aload_n 0, 1, 0, (0, 0, 0, 0, 0, 0)), (15, .iload 5, 2, 0, (0, 0, 0, 0, 0, 0)), (17, .iload_n 1, 1, 0, (0, 0, 0, 0, 0, 0)), (18, .iload_n 2, 1, 0, (0, 0, 0, 0, 0, 0)), (19, .invokevirtual 244, 3, 0, (0, 4, 0, 0, 1, 0)), (22, .ifCond .eq 65, 3, 0, (0, 0, 0, 0, 0, 0)), (25, .aload_n 0, 1, 0, (0, 0, 0, 0, 0, 0)), (26, .getfield 78, 3, 0, (12, 25, 18, 2, 5, 0)), (29, .iload 5, 2, 0, (0, 0, 0, 0, 0, 0)), (31, .baload, 1, 0, (15, 44, 0, 0, 0, 0)), (32, .ifCond .ne 55, 3, 0, (0, 0, 0, 0, 0, 0)), (35, .iload_n 3, 1, 0, (0, 0, 0, 0, 0, 0)), (36, .ifCond .ne 14, 3, 0, (0, 0, 0, 0, 0, 0)), (39, .aload_n 0, 1, 0, (0, 0, 0, 0, 0, 0)), (40, .getfield 84, 3, 0, (12, 27, 16, 2, 19, 0)), (43, .iload 5, 2, 0, (0, 0, 0, 0, 0, 0)), (45, .iaload, 1, 0, (13, 44, 0, 0, 0, 0)), (46, .iconst 2, 1, 0, (0, 0, 0, 0, 0, 2)), (47, .if_icmp .eq 40, 3, 0, (0, 0, 0, 0, 0, 0)), (50, .iload 4, 2, 0, (0, 0, 0, 0, 0, 0)), (52, .ldc 184, 2, 0, (0, 0, 0, 0, 0, -100000)), (54, .if_icmp .eq 19, 3, 0, (0, 0, 0, 0, 0, 0)), (57, .aload_n 0, 1, 0, (0, 0, 0, 0, 0, 0)), (58, .getfield 102, 3, 0, (12, 33, 16, 2, 25, 0)), (61, .iload 5, 2, 0, (0, 0, 0, 0, 0, 0)), (63, .iaload, 1, 0, (13, 44, 0, 0, 0, 0)), (64, .iload 4, 2, 0, (0, 0, 0, 0, 0, 0)), (66, .iload_n 2, 1, 0, (0, 0, 0, 0, 0, 0)), (67, .invokestatic 248, 3, 0, (1, 3, 0, 0, 0, 0)), (70, .ifCond .eq 13, 3, 0, (0, 0, 0, 0, 0, 0)), (73, .aload_n 0, 1, 0, (0, 0, 0, 0, 0, 0)), (74, .getfield 102, 3, 0, (12, 33, 16, 2, 25, 0)), (77, .iload 5, 2, 0, (0, 0, 0, 0, 0, 0)), (79, .iaload, 1, 0, (13, 44, 0, 0, 0, 0)), (80, .goto 5, 3, 0, (0, 0, 0, 0, 0, 0)), (83, .iload 4, 2, 0, (0, 0, 0, 0, 0, 0)), (85, .istore 4, 2, 0, (0, 0, 0, 0, 0, 0)), (87, .iinc 5 1, 3, 0, (0, 0, 0, 0, 0, 1)), (90, .goto (-83), 3, 0, (0, 0, 0, 0, 0, 0)), (93, .iload 4, 2, 0, (0, 0, 0, 0, 0, 0)), (95, .ireturn, 1, 0, (0, 0, 0, 0, 0, 0))]
set_option maxRecDepth 100000 in
theorem rk240 : R240.all (rok 2 240 1 [(238, [15, 0, 0, 0]), (239, [0, 0, 0])]) = true := by decide +kernel
set_option maxRecDepth 100000 in
theorem tab240 {F238 : PM → Int32 → Int32 → Int32 → Int32} {G238 : PM → Int32 → Int32 → Int32 → Prop} {F239 : PM → Int32 → Int32 → Int32 → Int32} {G239 : PM → Int32 → Int32 → Int32 → Prop} : TabOK 2 240 1 [CC238 F238 G238, CC239 F239 G239] R240 := tab_ok (K := K240) rfl rfl (fun h => d240 h) rk240 (by decide +kernel)
set_option maxRecDepth 100000 in
theorem pc240 : cutpc [7] R240 = true := by decide +kernel
set_option maxRecDepth 100000 in
theorem r12_bestOf_7 (p : PM) (hg : Gr 2 p) (F238 : PM → Int32 → Int32 → Int32 → Int32) (G238 : PM → Int32 → Int32 → Int32 → Prop) (o238 : CalOK 2 (CC238 F238 G238)) (F239 : PM → Int32 → Int32 → Int32 → Int32) (G239 : PM → Int32 → Int32 → Int32 → Prop) (o239 : CalOK 2 (CC239 F239 G239)) (kv7 : Int32 → Int32 → Int32 → Int32 → Int32 → Int32) (kg7 : Int32 → Int32 → Int32 → Int32 → Int32 → Prop) (hk7 : ∀ (v1 : Int32) (v2 : Int32) (v3 : Int32) (v4 : Int32) (v5 : Int32), kg7 v1 v2 v3 v4 v5 → ZJ 2 240 7 [zR 12 1, zI v1, zI v2, zI v3, zI v4, zI v5] [] p (hoI p (kv7 v1 v2 v3 v4 v5))) : ∀ (v1 : Int32) (v2 : Int32) (v3 : Int32) (v4 : Int32) (v5 : Int32), bg12_bestOf_7 p F238 G238 F239 G239 kg7 v1 v2 v3 v4 v5 → ZJ 2 240 7 [zR 12 1, zI v1, zI v2, zI v3, zI v4, zI v5] [] p (hoI p (bv12_bestOf_7 p F238 F239 kv7 v1 v2 v3 v4 v5)) := by
  intro v1 v2 v3 v4 v5  H
  exact roI (n := 3000) (q := 7) (la := [zR 12 1, zI v1, zI v2, zI v3, zI v4, zI v5]) (sa := []) (ks := [fun la sa _ => kv7 (ai la 1) (ai la 2) (ai la 3) (ai la 4) (ai la 5)]) (gs := [fun la sa _ => zsw (tc2 la [(112, 1), (0, 0), (0, 0), (0, 0), (0, 0), (0, 0)] && tc2 sa []) False (kg7 (ai la 1) (ai la 2) (ai la 3) (ai la 4) (ai la 5))]) (fcons o238 (fcons o239 (fnil))) tab240 pc240 ⟨fun la sa s hg H => zcut H fun H => hk7 (ai la 1) (ai la 2) (ai la 3) (ai la 4) (ai la 5) H, trivial⟩ hg H
theorem t12_bestOf_7 (p : PM) (hg : Gr 2 p) : ∀ (n : Nat), ∀ (v1 : Int32) (v2 : Int32) (v3 : Int32) (v4 : Int32) (v5 : Int32), g12_bestOf_7 p n v1 v2 v3 v4 v5 → ZJ 2 240 7 [zR 12 1, zI v1, zI v2, zI v3, zI v4, zI v5] [] p (hoI p (v12_bestOf_7 p n v1 v2 v3 v4 v5)) := by
  intro n
  induction n with
  | zero =>
    intro v1 v2 v3 v4 v5  H
    exact H.elim
  | succ n ih => exact r12_bestOf_7 p hg v12_isThere g12_isThere ok238 v12_isBetter g12_isBetter ok239 (v12_bestOf_7 p n) (g12_bestOf_7 p n) ih
set_option maxRecDepth 100000 in
theorem r12_bestOf (p : PM) (hg : Gr 2 p) (F238 : PM → Int32 → Int32 → Int32 → Int32) (G238 : PM → Int32 → Int32 → Int32 → Prop) (o238 : CalOK 2 (CC238 F238 G238)) (F239 : PM → Int32 → Int32 → Int32 → Int32) (G239 : PM → Int32 → Int32 → Int32 → Prop) (o239 : CalOK 2 (CC239 F239 G239)) (kv7 : Int32 → Int32 → Int32 → Int32 → Int32 → Int32) (kg7 : Int32 → Int32 → Int32 → Int32 → Int32 → Prop) (hk7 : ∀ (v1 : Int32) (v2 : Int32) (v3 : Int32) (v4 : Int32) (v5 : Int32), kg7 v1 v2 v3 v4 v5 → ZJ 2 240 7 [zR 12 1, zI v1, zI v2, zI v3, zI v4, zI v5] [] p (hoI p (kv7 v1 v2 v3 v4 v5))) : ∀ (v1 : Int32) (v2 : Int32) (v3 : Int32), bg12_bestOf p kg7 v1 v2 v3 → ZJ 2 240 0 [zR 12 1, zI v1, zI v2, zI v3, zJ, zJ] [] p (hoI p (bv12_bestOf p kv7 v1 v2 v3)) := by
  intro v1 v2 v3  H
  exact roI (n := 3000) (q := 0) (la := [zR 12 1, zI v1, zI v2, zI v3, zJ, zJ]) (sa := []) (ks := [fun la sa _ => kv7 (ai la 1) (ai la 2) (ai la 3) (ai la 4) (ai la 5)]) (gs := [fun la sa _ => zsw (tc2 la [(112, 1), (0, 0), (0, 0), (0, 0), (0, 0), (0, 0)] && tc2 sa []) False (kg7 (ai la 1) (ai la 2) (ai la 3) (ai la 4) (ai la 5))]) (fcons o238 (fcons o239 (fnil))) tab240 pc240 ⟨fun la sa s hg H => zcut H fun H => hk7 (ai la 1) (ai la 2) (ai la 3) (ai la 4) (ai la 5) H, trivial⟩ hg H
theorem t12_bestOf (p : PM) (hg : Gr 2 p) : ∀ (v1 : Int32) (v2 : Int32) (v3 : Int32), g12_bestOf p v1 v2 v3 → ZJ 2 240 0 [zR 12 1, zI v1, zI v2, zI v3, zJ, zJ] [] p (hoI p (v12_bestOf p v1 v2 v3)) := r12_bestOf p hg v12_isThere g12_isThere ok238 v12_isBetter g12_isBetter ok239 (v12_bestOf_7 p FU) (g12_bestOf_7 p FU) (t12_bestOf_7 p hg FU)
def CC240 (F : PM → Int32 → Int32 → Int32 → Int32) (G : PM → Int32 → Int32 → Int32 → Prop) : Cal := (240, [15, 0, 0, 0], 1, true, fun as p => (zI (F p (ai as 1) (ai as 2) (ai as 3)), p), fun as p => zsw (tc2 as [(112, 1), (0, 0), (0, 0), (0, 0)]) False (G p (ai as 1) (ai as 2) (ai as 3)))
set_option maxRecDepth 100000 in
theorem okr240 (F : PM → Int32 → Int32 → Int32 → Int32) (G : PM → Int32 → Int32 → Int32 → Prop) (h : ∀ (p : PM) (v1 : Int32) (v2 : Int32) (v3 : Int32), Gr 2 p → G p v1 v2 v3 → ZJ 2 240 0 [zR 12 1, zI v1, zI v2, zI v3, zJ, zJ] [] p (hoI p (F p v1 v2 v3))) : CalOK 2 (CC240 F G) := cal_ok (m := 6) (by unfold mL; rw [mX_240]) (fun as p hg H => h p (ai as 1) (ai as 2) (ai as 3) hg H)
theorem ok240 : CalOK 2 (CC240 v12_bestOf g12_bestOf) := okr240 v12_bestOf g12_bestOf (fun p v1 v2 v3 hg H => t12_bestOf p hg v1 v2 v3 H)
noncomputable def bv0_holds (p : PM) (v0 : Nat) (v1 : Int32) : Int32 :=
  if v1 < 0 then (
    (cn 0))
  else (
    if v1 < (cn 4) then (
      (p.1 13 (2 * v0 - 1) (v1).toNatClampNeg))
    else (
      (cn 0)))
noncomputable def v0_holds (p : PM) (v0 : Nat) (v1 : Int32) : Int32 := bv0_holds p v0 v1
noncomputable def bg0_holds (p : PM) (v0 : Nat) (v1 : Int32) : Prop :=
  if v1 < 0 then (
    True)
  else (
    ((¬ v0 = 0 ∧ v0 ≤ 9)) ∧ (
    ((¬ (2 * v0 - 1) = 0 ∧ (2 * v0 - 1) ≤ 18)) ∧ (
    if v1 < (cn 4) then (
      ((¬ v0 = 0 ∧ v0 ≤ 9)) ∧ (
      (((¬ (2 * v0 - 1) = 0 ∧ (2 * v0 - 1) ≤ 18) ∧ inb v1 4)) ∧ (
      True)))
    else (
      True))))
noncomputable def g0_holds (p : PM) (v0 : Nat) (v1 : Int32) : Prop := bg0_holds p v0 v1
def R2 : List Row := [(0, .iload_n 1, 1, 0, (0, 0, 0, 0, 0, 0)), (1, .ifCond .lt 21, 3, 0, (0, 0, 0, 0, 0, 0)), (4, .iload_n 1, 1, 0, (0, 0, 0, 0, 0, 0)), (5, .aload_n 0, 1, 0, (0, 0, 0, 0, 0, 0)), (6, .getfield 9, 3, 0, (0, 2, 16, 3, 0, 0)), (9, .arraylength, 1, 0, (13, 4, 1, 0, 0, 4)), (10, .if_icmp .ge 12, 3, 0, (0, 0, 0, 0, 0, 0)), (13, .aload_n 0, 1, 0, (0, 0, 0, 0, 0, 0)), (14, .getfield 9, 3, 0, (0, 2, 16, 3, 0, 0)), (17, .iload_n 1, 1, 0, (0, 0, 0, 0, 0, 0)), (18, .iaload, 1, 0, (13, 4, 1, 0, 0, 0)), (19, .goto 4, 3, 0, (0, 0, 0, 0, 0, 0)), (22, .iconst 0, 1, 0, (0, 0, 0, 0, 0, 0)), (23, .ireturn, 1, 0, (0, 0, 0, 0, 0, 0))]
set_option maxRecDepth 100000 in
theorem rk2 : R2.all (rok 0 2 1 []) = true := by decide +kernel
set_option maxRecDepth 100000 in
theorem tab2 : TabOK 0 2 1 [] R2 := tab_ok (K := K2) rfl rfl (fun h => d2 h) rk2 (by decide +kernel)
set_option maxRecDepth 100000 in
theorem pc2 : cutpc [] R2 = true := by decide +kernel
set_option maxRecDepth 100000 in
theorem r0_holds (p : PM) (hg : Gr 0 p) : ∀ (v0 : Nat) (v1 : Int32), bg0_holds p v0 v1 → ZJ 0 2 0 [zR 0 v0, zI v1] [] p (hoI p (bv0_holds p v0 v1)) := by
  intro v0 v1  H
  exact roI (n := 3000) (q := 0) (la := [zR 0 v0, zI v1]) (sa := []) (ks := []) (gs := []) (fnil) tab2 pc2 trivial hg H
theorem t0_holds (p : PM) (hg : Gr 0 p) : ∀ (v0 : Nat) (v1 : Int32), g0_holds p v0 v1 → ZJ 0 2 0 [zR 0 v0, zI v1] [] p (hoI p (v0_holds p v0 v1)) := r0_holds p hg
def CC2 (F : PM → Nat → Int32 → Int32) (G : PM → Nat → Int32 → Prop) : Cal := (2, [3, 0], 1, true, fun as p => (zI (F p (ar as 0) (ai as 1)), p), fun as p => zsw (tc2 as [(4, 0), (0, 0)]) False (G p (ar as 0) (ai as 1)))
set_option maxRecDepth 100000 in
theorem okr2 (F : PM → Nat → Int32 → Int32) (G : PM → Nat → Int32 → Prop) (h : ∀ (p : PM) (v0 : Nat) (v1 : Int32), Gr 0 p → G p v0 v1 → ZJ 0 2 0 [zR 0 v0, zI v1] [] p (hoI p (F p v0 v1))) : CalOK 0 (CC2 F G) := cal_ok (m := 2) (by unfold mL; rw [mX_2]) (fun as p hg H => h p (ar as 0) (ai as 1) hg H)
theorem ok2 : CalOK 0 (CC2 v0_holds g0_holds) := okr2 v0_holds g0_holds (fun p v0 v1 hg H => t0_holds p hg v0 v1 H)
noncomputable def bv0_take (p : PM) (v0 : Nat) (v1 : Nat) (v2 : Int32) (v3 : Int32) : PM :=
  if (p.1 1 v1 1) < 0 then (
    if (p.1 1 v1 2) < 0 then (
      let p1 : PM := pJ p 0 v0 4 ((p.2.1 0 v0 4) - ((v2).toInt64 * (v3).toInt64))
      p1)
    else (
      if (p.1 1 v1 2) < (cn 4) then (
        let p3 : PM := pI p 13 (2 * v0 - 1) ((p.1 1 v1 2)).toNatClampNeg ((p.1 13 (2 * v0 - 1) ((p.1 1 v1 2)).toNatClampNeg) - v2)
        let p4 : PM := pJ p3 0 v0 4 ((p3.2.1 0 v0 4) - ((v2).toInt64 * (v3).toInt64))
        p4)
      else (
        let p2 : PM := pJ p 0 v0 4 ((p.2.1 0 v0 4) - ((v2).toInt64 * (v3).toInt64))
        p2)))
  else (
    if (p.1 1 v1 1) < (cn 4) then (
      let p9 : PM := pI p 13 (2 * v0 - 1) ((p.1 1 v1 1)).toNatClampNeg ((p.1 13 (2 * v0 - 1) ((p.1 1 v1 1)).toNatClampNeg) + v2)
      if (p9.1 1 v1 2) < 0 then (
        let p10 : PM := pJ p9 0 v0 4 ((p9.2.1 0 v0 4) - ((v2).toInt64 * (v3).toInt64))
        p10)
      else (
        if (p9.1 1 v1 2) < (cn 4) then (
          let p12 : PM := pI p9 13 (2 * v0 - 1) ((p9.1 1 v1 2)).toNatClampNeg ((p9.1 13 (2 * v0 - 1) ((p9.1 1 v1 2)).toNatClampNeg) - v2)
          let p13 : PM := pJ p12 0 v0 4 ((p12.2.1 0 v0 4) - ((v2).toInt64 * (v3).toInt64))
          p13)
        else (
          let p11 : PM := pJ p9 0 v0 4 ((p9.2.1 0 v0 4) - ((v2).toInt64 * (v3).toInt64))
          p11)))
    else (
      if (p.1 1 v1 2) < 0 then (
        let p5 : PM := pJ p 0 v0 4 ((p.2.1 0 v0 4) - ((v2).toInt64 * (v3).toInt64))
        p5)
      else (
        if (p.1 1 v1 2) < (cn 4) then (
          let p7 : PM := pI p 13 (2 * v0 - 1) ((p.1 1 v1 2)).toNatClampNeg ((p.1 13 (2 * v0 - 1) ((p.1 1 v1 2)).toNatClampNeg) - v2)
          let p8 : PM := pJ p7 0 v0 4 ((p7.2.1 0 v0 4) - ((v2).toInt64 * (v3).toInt64))
          p8)
        else (
          let p6 : PM := pJ p 0 v0 4 ((p.2.1 0 v0 4) - ((v2).toInt64 * (v3).toInt64))
          p6))))
noncomputable def v0_take (p : PM) (v0 : Nat) (v1 : Nat) (v2 : Int32) (v3 : Int32) : PM := bv0_take p v0 v1 v2 v3
noncomputable def bg0_take (p : PM) (v0 : Nat) (v1 : Nat) (v2 : Int32) (v3 : Int32) : Prop :=
  (¬ v1 = 0) ∧ (
  if (p.1 1 v1 1) < 0 then (
    (¬ v1 = 0) ∧ (
    if (p.1 1 v1 2) < 0 then (
      (¬ v0 = 0) ∧ (
      (¬ v0 = 0) ∧ (
      let p1 : PM := pJ p 0 v0 4 ((p.2.1 0 v0 4) - ((v2).toInt64 * (v3).toInt64))
      True)))
    else (
      (¬ v1 = 0) ∧ (
      ((¬ v0 = 0 ∧ v0 ≤ 9)) ∧ (
      ((¬ (2 * v0 - 1) = 0 ∧ (2 * v0 - 1) ≤ 18)) ∧ (
      if (p.1 1 v1 2) < (cn 4) then (
        ((¬ v0 = 0 ∧ v0 ≤ 9)) ∧ (
        (¬ v1 = 0) ∧ (
        (((¬ (2 * v0 - 1) = 0 ∧ (2 * v0 - 1) ≤ 18) ∧ inb (p.1 1 v1 2) 4)) ∧ (
        (((¬ (2 * v0 - 1) = 0 ∧ (2 * v0 - 1) ≤ 18) ∧ inb (p.1 1 v1 2) 4)) ∧ (
        let p3 : PM := pI p 13 (2 * v0 - 1) ((p.1 1 v1 2)).toNatClampNeg ((p.1 13 (2 * v0 - 1) ((p.1 1 v1 2)).toNatClampNeg) - v2)
        (¬ v0 = 0) ∧ (
        (¬ v0 = 0) ∧ (
        let p4 : PM := pJ p3 0 v0 4 ((p3.2.1 0 v0 4) - ((v2).toInt64 * (v3).toInt64))
        True)))))))
      else (
        (¬ v0 = 0) ∧ (
        (¬ v0 = 0) ∧ (
        let p2 : PM := pJ p 0 v0 4 ((p.2.1 0 v0 4) - ((v2).toInt64 * (v3).toInt64))
        True)))))))))
  else (
    (¬ v1 = 0) ∧ (
    ((¬ v0 = 0 ∧ v0 ≤ 9)) ∧ (
    ((¬ (2 * v0 - 1) = 0 ∧ (2 * v0 - 1) ≤ 18)) ∧ (
    if (p.1 1 v1 1) < (cn 4) then (
      ((¬ v0 = 0 ∧ v0 ≤ 9)) ∧ (
      (¬ v1 = 0) ∧ (
      (((¬ (2 * v0 - 1) = 0 ∧ (2 * v0 - 1) ≤ 18) ∧ inb (p.1 1 v1 1) 4)) ∧ (
      (((¬ (2 * v0 - 1) = 0 ∧ (2 * v0 - 1) ≤ 18) ∧ inb (p.1 1 v1 1) 4)) ∧ (
      let p9 : PM := pI p 13 (2 * v0 - 1) ((p.1 1 v1 1)).toNatClampNeg ((p.1 13 (2 * v0 - 1) ((p.1 1 v1 1)).toNatClampNeg) + v2)
      (¬ v1 = 0) ∧ (
      if (p9.1 1 v1 2) < 0 then (
        (¬ v0 = 0) ∧ (
        (¬ v0 = 0) ∧ (
        let p10 : PM := pJ p9 0 v0 4 ((p9.2.1 0 v0 4) - ((v2).toInt64 * (v3).toInt64))
        True)))
      else (
        (¬ v1 = 0) ∧ (
        ((¬ v0 = 0 ∧ v0 ≤ 9)) ∧ (
        ((¬ (2 * v0 - 1) = 0 ∧ (2 * v0 - 1) ≤ 18)) ∧ (
        if (p9.1 1 v1 2) < (cn 4) then (
          ((¬ v0 = 0 ∧ v0 ≤ 9)) ∧ (
          (¬ v1 = 0) ∧ (
          (((¬ (2 * v0 - 1) = 0 ∧ (2 * v0 - 1) ≤ 18) ∧ inb (p9.1 1 v1 2) 4)) ∧ (
          (((¬ (2 * v0 - 1) = 0 ∧ (2 * v0 - 1) ≤ 18) ∧ inb (p9.1 1 v1 2) 4)) ∧ (
          let p12 : PM := pI p9 13 (2 * v0 - 1) ((p9.1 1 v1 2)).toNatClampNeg ((p9.1 13 (2 * v0 - 1) ((p9.1 1 v1 2)).toNatClampNeg) - v2)
          (¬ v0 = 0) ∧ (
          (¬ v0 = 0) ∧ (
          let p13 : PM := pJ p12 0 v0 4 ((p12.2.1 0 v0 4) - ((v2).toInt64 * (v3).toInt64))
          True)))))))
        else (
          (¬ v0 = 0) ∧ (
          (¬ v0 = 0) ∧ (
          let p11 : PM := pJ p9 0 v0 4 ((p9.2.1 0 v0 4) - ((v2).toInt64 * (v3).toInt64))
          True)))))))))))))
    else (
      (¬ v1 = 0) ∧ (
      if (p.1 1 v1 2) < 0 then (
        (¬ v0 = 0) ∧ (
        (¬ v0 = 0) ∧ (
        let p5 : PM := pJ p 0 v0 4 ((p.2.1 0 v0 4) - ((v2).toInt64 * (v3).toInt64))
        True)))
      else (
        (¬ v1 = 0) ∧ (
        ((¬ v0 = 0 ∧ v0 ≤ 9)) ∧ (
        ((¬ (2 * v0 - 1) = 0 ∧ (2 * v0 - 1) ≤ 18)) ∧ (
        if (p.1 1 v1 2) < (cn 4) then (
          ((¬ v0 = 0 ∧ v0 ≤ 9)) ∧ (
          (¬ v1 = 0) ∧ (
          (((¬ (2 * v0 - 1) = 0 ∧ (2 * v0 - 1) ≤ 18) ∧ inb (p.1 1 v1 2) 4)) ∧ (
          (((¬ (2 * v0 - 1) = 0 ∧ (2 * v0 - 1) ≤ 18) ∧ inb (p.1 1 v1 2) 4)) ∧ (
          let p7 : PM := pI p 13 (2 * v0 - 1) ((p.1 1 v1 2)).toNatClampNeg ((p.1 13 (2 * v0 - 1) ((p.1 1 v1 2)).toNatClampNeg) - v2)
          (¬ v0 = 0) ∧ (
          (¬ v0 = 0) ∧ (
          let p8 : PM := pJ p7 0 v0 4 ((p7.2.1 0 v0 4) - ((v2).toInt64 * (v3).toInt64))
          True)))))))
        else (
          (¬ v0 = 0) ∧ (
          (¬ v0 = 0) ∧ (
          let p6 : PM := pJ p 0 v0 4 ((p.2.1 0 v0 4) - ((v2).toInt64 * (v3).toInt64))
          True))))))))))))))
noncomputable def g0_take (p : PM) (v0 : Nat) (v1 : Nat) (v2 : Int32) (v3 : Int32) : Prop := bg0_take p v0 v1 v2 v3
def R5 : List Row := [(0, .aload_n 1, 1, 0, (0, 0, 0, 0, 0, 0)), (1, .getfield 42, 3, 0, (1, 1, 0, 0, 0, 0)), (4, .ifCond .lt 28, 3, 0, (0, 0, 0, 0, 0, 0)), (7, .aload_n 1, 1, 0, (0, 0, 0, 0, 0, 0)), (8, .getfield 42, 3, 0, (1, 1, 0, 0, 0, 0)), (11, .aload_n 0, 1, 0, (0, 0, 0, 0, 0, 0)), (12, .getfield 9, 3, 0, (0, 2, 16, 3, 0, 0)), (15, .arraylength, 1, 0, (13, 4, 1, 0, 0, 4)), (16, .if_icmp .ge 16, 3, 0, (0, 0, 0, 0, 0, 0)), (19, .aload_n 0, 1, 0, (0, 0, 0, 0, 0, 0)), (20, .getfield 9, 3, 0, (0, 2, 16, 3, 0, 0)), (23, .aload_n 1, 1, 0, (0, 0, 0, 0, 0, 0)), (24, .getfield 42, 3, 0, (1, 1, 0, 0, 0, 0)), (27, .dup2, 1, 0, (0, 0, 0, 0, 0, 0)), (28, .iaload, 1, 0, (13, 4, 1, 0, 0, 0)), (29, .iload_n 2, 1, 0, (0, 0, 0, 0, 0, 0)), (30, .iadd, 1, 0, (0, 0, 0, 0, 0, 0)), (31, .iastore, 1, 0, (13, 4, 1, 0, 0, 0)), (32, .aload_n 1, 1, 0, (0, 0, 0, 0, 0, 0)), (33, .getfield 47, 3, 0, (1, 2, 0, 0, 0, 0)), (36, .ifCond .lt 28, 3, 0, (0, 0, 0, 0, 0, 0)), (39, .aload_n 1, 1, 0, (0, 0, 0, 0, 0, 0)), (40, .getfield 47, 3, 0, (1, 2, 0, 0, 0, 0)), (43, .aload_n 0, 1, 0, (0, 0, 0, 0, 0, 0)), (44, .getfield 9, 3, 0, (0, 2, 16, 3, 0, 0)), (47, .arraylength, 1, 0, (13, 4, 1, 0, 0, 4)), (48, .if_icmp .ge 16, 3, 0, (0, 0, 0, 0, 0, 0)), (51, .aload_n 0, 1, 0, (0, 0, 0, 0, 0, 0)), (52, .getfield 9, 3, 0, (0, 2, 16, 3, 0, 0)), (55, .aload_n 1, 1, 0, (0, 0, 0, 0, 0, 0)), (56, .getfield 47, 3, 0, (1, 2, 0, 0, 0, 0)), (59, .dup2, 1, 0, (0, 0, 0, 0, 0, 0)), (60, .iaload, 1, 0, (13, 4, 1, 0, 0, 0)), (61, .iload_n 2, 1, 0, (0, 0, 0, 0, 0, 0)), (62, .isub, 1, 0, (0, 0, 0, 0, 0, 0)), (63, .iastore, 1, 0, (13, 4, 1, 0, 0, 0)), (64, .aload_n 0, 1, 0, (0, 0, 0, 0, 0, 0)), (65, .dup, 1, 0, (0, 0, 0, 0, 0, 0)), (66, .getfield 25, 3, 0, (0, 4, 2, 0, 0, 0)), (69, .iload_n 2, 1, 0, (0, 0, 0, 0, 0, 0)), (70, .i2l, 1, 0, (0, 0, 0, 0, 0, 0)), (71, .iload_n 3, 1, 0, (0, 0, 0, 0, 0, 0)), (72, .i2l, 1, 0, (0, 0, 0, 0, 0, 0)), (73, .lmul, 1, 0, (0, 0, 0, 0, 0, 0)), (74, .lsub, 1, 0, (0, 0, 0, 0, 0, 0)), (75, .putfield 25, 3, 0, (0, 4, 2, 0, 0, 0)), (78, .return_, 1, 0, (0, 0, 0, 0, 0, 0))]
set_option maxRecDepth 100000 in
theorem rk5 : R5.all (rok 0 5 0 []) = true := by decide +kernel
set_option maxRecDepth 100000 in
theorem tab5 : TabOK 0 5 0 [] R5 := tab_ok (K := K5) rfl rfl (fun h => d5 h) rk5 (by decide +kernel)
set_option maxRecDepth 100000 in
theorem pc5 : cutpc [] R5 = true := by decide +kernel
set_option maxRecDepth 100000 in
theorem r0_take : ∀ (p : PM) (v0 : Nat) (v1 : Nat) (v2 : Int32) (v3 : Int32), Gr 0 p → bg0_take p v0 v1 v2 v3 → ZJ 0 5 0 [zR 0 v0, zR 1 v1, zI v2, zI v3] [] p (hwV (bv0_take p v0 v1 v2 v3)) := by
  intro p v0 v1 v2 v3  hg H
  exact rwV (n := 3000) (q := 0) (la := [zR 0 v0, zR 1 v1, zI v2, zI v3]) (sa := []) (ks := []) (gs := []) (fnil) tab5 pc5 trivial hg H
theorem t0_take : ∀ (p : PM) (v0 : Nat) (v1 : Nat) (v2 : Int32) (v3 : Int32), Gr 0 p → g0_take p v0 v1 v2 v3 → ZJ 0 5 0 [zR 0 v0, zR 1 v1, zI v2, zI v3] [] p (hwV (v0_take p v0 v1 v2 v3)) := r0_take
def CC5 (F : PM → Nat → Nat → Int32 → Int32 → PM) (G : PM → Nat → Nat → Int32 → Int32 → Prop) : Cal := (5, [3, 4, 0, 0], 0, false, fun as p => (zJ, (F p (ar as 0) (ar as 1) (ai as 2) (ai as 3))), fun as p => zsw (tc2 as [(4, 0), (5, 0), (0, 0), (0, 0)]) False (G p (ar as 0) (ar as 1) (ai as 2) (ai as 3)))
set_option maxRecDepth 100000 in
theorem okr5 (F : PM → Nat → Nat → Int32 → Int32 → PM) (G : PM → Nat → Nat → Int32 → Int32 → Prop) (h : ∀ (p : PM) (v0 : Nat) (v1 : Nat) (v2 : Int32) (v3 : Int32), Gr 0 p → G p v0 v1 v2 v3 → ZJ 0 5 0 [zR 0 v0, zR 1 v1, zI v2, zI v3] [] p (hwV (F p v0 v1 v2 v3))) : CalOK 0 (CC5 F G) := cal_ok (m := 4) (by unfold mL; rw [mX_5]) (fun as p hg H => h p (ar as 0) (ar as 1) (ai as 2) (ai as 3) hg H)
theorem ok5 : CalOK 0 (CC5 v0_take g0_take) := okr5 v0_take g0_take t0_take
