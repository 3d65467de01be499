/-! methods as functions over one part, by program (wip/whole/lift.py) -/
noncomputable def bv12_in (p : PM) (v0 : Int32) (v1 : Int32) (v2 : Int32) : Int32 :=
  if v0 < v1 then (
    (cn 0))
  else (
    if v2 < v0 then (
      (cn 0))
    else (
      (cn 1)))
noncomputable def v12_in (p : PM) (v0 : Int32) (v1 : Int32) (v2 : Int32) : Int32 := bv12_in p v0 v1 v2
noncomputable def bg12_in (p : PM) (v0 : Int32) (v1 : Int32) (v2 : Int32) : Prop :=
  if v0 < v1 then (
    True)
  else (
    if v2 < v0 then (
      True)
    else (
      True))
noncomputable def g12_in (p : PM) (v0 : Int32) (v1 : Int32) (v2 : Int32) : Prop := bg12_in p v0 v1 v2
def R215 : List Row := [(0, .iload_n 0, 1, 0, (0, 0, 0, 0, 0, 0)), (1, .iload_n 1, 1, 0, (0, 0, 0, 0, 0, 0)), (2, .if_icmp .lt 12, 3, 0, (0, 0, 0, 0, 0, 0)), (5, .iload_n 0, 1, 0, (0, 0, 0, 0, 0, 0)), (6, .iload_n 2, 1, 0, (0, 0, 0, 0, 0, 0)), (7, .if_icmp .gt 7, 3, 0, (0, 0, 0, 0, 0, 0)), (10, .iconst 1, 1, 0, (0, 0, 0, 0, 0, 1)), (11, .goto 4, 3, 0, (0, 0, 0, 0, 0, 0)), (14, .iconst 0, 1, 0, (0, 0, 0, 0, 0, 0)), (15, .ireturn, 1, 0, (1, 0, 0, 0, 0, 0))]
set_option maxRecDepth 100000 in
theorem rk215 : R215.all (rok 2 215 1 []) = true := by decide +kernel
set_option maxRecDepth 100000 in
theorem tab215 : TabOK 2 215 1 [] R215 := tab_ok (K := K215) rfl rfl (fun h => d215 h) rk215 (by decide +kernel)
set_option maxRecDepth 100000 in
theorem pc215 : cutpc [] R215 = true := by decide +kernel
set_option maxRecDepth 100000 in
theorem r12_in (p : PM) (hg : Gr 2 p) : ∀ (v0 : Int32) (v1 : Int32) (v2 : Int32), bg12_in p v0 v1 v2 → ZJ 2 215 0 [zI v0, zI v1, zI v2] [] p (hoI p (bv12_in p v0 v1 v2)) := by
  intro v0 v1 v2  H
  exact roI (n := 3000) (q := 0) (la := [zI v0, zI v1, zI v2]) (sa := []) (ks := []) (gs := []) (fnil) tab215 pc215 trivial hg H
theorem t12_in (p : PM) (hg : Gr 2 p) : ∀ (v0 : Int32) (v1 : Int32) (v2 : Int32), g12_in p v0 v1 v2 → ZJ 2 215 0 [zI v0, zI v1, zI v2] [] p (hoI p (v12_in p v0 v1 v2)) := r12_in p hg
def CC215 (F : PM → Int32 → Int32 → Int32 → Int32) (G : PM → Int32 → Int32 → Int32 → Prop) : Cal := (215, [0, 0, 0], 1, true, fun as p => (zI (F p (ai as 0) (ai as 1) (ai as 2)), p), fun as p => zsw (tc2 as [(0, 0), (0, 0), (0, 0)]) False (G p (ai as 0) (ai as 1) (ai as 2)))
set_option maxRecDepth 100000 in
theorem okr215 (F : PM → Int32 → Int32 → Int32 → Int32) (G : PM → Int32 → Int32 → Int32 → Prop) (h : ∀ (p : PM) (v0 : Int32) (v1 : Int32) (v2 : Int32), Gr 2 p → G p v0 v1 v2 → ZJ 2 215 0 [zI v0, zI v1, zI v2] [] p (hoI p (F p v0 v1 v2))) : CalOK 2 (CC215 F G) := cal_ok (m := 3) (by unfold mL; rw [mX_215]) (fun as p hg H => h p (ai as 0) (ai as 1) (ai as 2) hg H)
theorem ok215 : CalOK 2 (CC215 v12_in g12_in) := okr215 v12_in g12_in (fun p v0 v1 v2 hg H => t12_in p hg v0 v1 v2 H)
noncomputable def bv12_abs (p : PM) (v0 : Int32) : Int32 :=
  if v0 < 0 then (
    (-v0))
  else (
    v0)
noncomputable def v12_abs (p : PM) (v0 : Int32) : Int32 := bv12_abs p v0
noncomputable def bg12_abs (p : PM) (v0 : Int32) : Prop :=
  if v0 < 0 then (
    True)
  else (
    True)
noncomputable def g12_abs (p : PM) (v0 : Int32) : Prop := bg12_abs p v0
def R216 : List Row := [(0, .iload_n 0, 1, 0, (0, 0, 0, 0, 0, 0)), (1, .ifCond .ge 8, 3, 0, (0, 0, 0, 0, 0, 0)), (4, .iload_n 0, 1, 0, (0, 0, 0, 0, 0, 0)), (5, .ineg, 1, 0, (0, 0, 0, 0, 0, 0)), (6, .goto 4, 3, 0, (0, 0, 0, 0, 0, 0)), (9, .iload_n 0, 1, 0, (0, 0, 0, 0, 0, 0)), (10, .ireturn, 1, 0, (0, 0, 0, 0, 0, 0))]
set_option maxRecDepth 100000 in
theorem rk216 : R216.all (rok 2 216 1 []) = true := by decide +kernel
set_option maxRecDepth 100000 in
theorem tab216 : TabOK 2 216 1 [] R216 := tab_ok (K := K216) rfl rfl (fun h => d216 h) rk216 (by decide +kernel)
set_option maxRecDepth 100000 in
theorem pc216 : cutpc [] R216 = true := by decide +kernel
set_option maxRecDepth 100000 in
theorem r12_abs (p : PM) (hg : Gr 2 p) : ∀ (v0 : Int32), bg12_abs p v0 → ZJ 2 216 0 [zI v0] [] p (hoI p (bv12_abs p v0)) := by
  intro v0  H
  exact roI (n := 3000) (q := 0) (la := [zI v0]) (sa := []) (ks := []) (gs := []) (fnil) tab216 pc216 trivial hg H
theorem t12_abs (p : PM) (hg : Gr 2 p) : ∀ (v0 : Int32), g12_abs p v0 → ZJ 2 216 0 [zI v0] [] p (hoI p (v12_abs p v0)) := r12_abs p hg
def CC216 (F : PM → Int32 → Int32) (G : PM → Int32 → Prop) : Cal := (216, [0], 1, true, fun as p => (zI (F p (ai as 0)), p), fun as p => zsw (tc2 as [(0, 0)]) False (G p (ai as 0)))
set_option maxRecDepth 100000 in
theorem okr216 (F : PM → Int32 → Int32) (G : PM → Int32 → Prop) (h : ∀ (p : PM) (v0 : Int32), Gr 2 p → G p v0 → ZJ 2 216 0 [zI v0] [] p (hoI p (F p v0))) : CalOK 2 (CC216 F G) := cal_ok (m := 1) (by unfold mL; rw [mX_216]) (fun as p hg H => h p (ai as 0) hg H)
theorem ok216 : CalOK 2 (CC216 v12_abs g12_abs) := okr216 v12_abs g12_abs (fun p v0 hg H => t12_abs p hg v0 H)
noncomputable def bv12_floor (p : PM) (v0 : Int64) (v2 : Int64) : Int64 :=
  if (lg_cmp (lrm v0 v2) (cl 0)) = 0 then (
    ((v0 / v2) - ((cn 0)).toInt64))
  else (
    if (lg_cmp (lrm v0 v2) (cl 0)) < 0 then (
      if (lg_cmp v2 (cl 0)) < 0 then (
        if (cn 1) = (cn 1) then (
          ((v0 / v2) - ((cn 0)).toInt64))
        else (
          ((v0 / v2) - ((cn 1)).toInt64)))
      else (
        if (cn 1) = (cn 0) then (
          ((v0 / v2) - ((cn 0)).toInt64))
        else (
          ((v0 / v2) - ((cn 1)).toInt64))))
    else (
      if (lg_cmp v2 (cl 0)) < 0 then (
        if (cn 0) = (cn 1) then (
          ((v0 / v2) - ((cn 0)).toInt64))
        else (
          ((v0 / v2) - ((cn 1)).toInt64)))
      else (
        if (cn 0) = (cn 0) then (
          ((v0 / v2) - ((cn 0)).toInt64))
        else (
          ((v0 / v2) - ((cn 1)).toInt64)))))
noncomputable def v12_floor (p : PM) (v0 : Int64) (v2 : Int64) : Int64 := bv12_floor p v0 v2
noncomputable def bg12_floor (p : PM) (v0 : Int64) (v2 : Int64) : Prop :=
  (¬ v2 = 0) ∧ (
  (¬ v2 = 0) ∧ (
  if (lg_cmp (lrm v0 v2) (cl 0)) = 0 then (
    True)
  else (
    (¬ v2 = 0) ∧ (
    if (lg_cmp (lrm v0 v2) (cl 0)) < 0 then (
      if (lg_cmp v2 (cl 0)) < 0 then (
        if (cn 1) = (cn 1) then (
          True)
        else (
          True))
      else (
        if (cn 1) = (cn 0) then (
          True)
        else (
          True)))
    else (
      if (lg_cmp v2 (cl 0)) < 0 then (
        if (cn 0) = (cn 1) then (
          True)
        else (
          True))
      else (
        if (cn 0) = (cn 0) then (
          True)
        else (
          True)))))))
noncomputable def g12_floor (p : PM) (v0 : Int64) (v2 : Int64) : Prop := bg12_floor p v0 v2
def R217 : List Row := [(0, .lload_n 0, 1, 0, (0, 0, 0, 0, 0, 0)), (1, .lload_n 2, 1, 0, (0, 0, 0, 0, 0, 0)), (2, .ldiv, 1, 0, (0, 0, 0, 0, 0, 0)), (3, .lload_n 0, 1, 0, (0, 0, 0, 0, 0, 0)), (4, .lload_n 2, 1, 0, (0, 0, 0, 0, 0, 0)), (5, .lrem, 1, 0, (0, 0, 0, 0, 0, 0)), (6, .lconst 0, 1, 0, (0, 0, 0, 0, 0, 0)), (7, .lcmp, 1, 0, (0, 0, 0, 0, 0, 0)), (8, .ifCond .eq 34, 3, 0, (0, 0, 0, 0, 0, 0)), (11, .lload_n 0, 1, 0, (0, 0, 0, 0, 0, 0)), (12, .lload_n 2, 1, 0, (0, 0, 0, 0, 0, 0)), (13, .lrem, 1, 0, (0, 0, 0, 0, 0, 0)), (14, .lconst 0, 1, 0, (0, 0, 0, 0, 0, 0)), (15, .lcmp, 1, 0, (0, 0, 0, 0, 0, 0)), (16, .ifCond .ge 7, 3, 0, (0, 0, 0, 0, 0, 0)), (19, .iconst 1, 1, 0, (0, 0, 0, 0, 0, 1)), (20, .goto 4, 3, 0, (0, 0, 0, 0, 0, 0)), (23, .iconst 0, 1, 0, (0, 0, 0, 0, 0, 0)), (24, .lload_n 2, 1, 0, (0, 0, 0, 0, 0, 0)), (25, .lconst 0, 1, 0, (0, 0, 0, 0, 0, 0)), (26, .lcmp, 1, 0, (0, 0, 0, 0, 0, 0)), (27, .ifCond .ge 7, 3, 0, (0, 0, 0, 0, 0, 0)), (30, .iconst 1, 1, 0, (0, 0, 0, 0, 0, 1)), (31, .goto 4, 3, 0, (0, 0, 0, 0, 0, 0)), (34, .iconst 0, 1, 0, (0, 0, 0, 0, 0, 0)), (35, .if_icmp .eq 7, 3, 0, (0, 0, 0, 0, 0, 0)), (38, .iconst 1, 1, 0, (0, 0, 0, 0, 0, 1)), (39, .goto 4, 3, 0, (0, 0, 0, 0, 0, 0)), (42, .iconst 0, 1, 0, (0, 0, 0, 0, 0, 0)), (43, .i2l, 1, 0, (0, 0, 0, 0, 0, 0)), (44, .lsub, 1, 0, (0, 0, 0, 0, 0, 0)), (45, .lreturn, 1, 0, (0, 0, 0, 0, 0, 0))]
set_option maxRecDepth 100000 in
theorem rk217 : R217.all (rok 2 217 2 []) = true := by decide +kernel
set_option maxRecDepth 100000 in
theorem tab217 : TabOK 2 217 2 [] R217 := tab_ok (K := K217) rfl rfl (fun h => d217 h) rk217 (by decide +kernel)
set_option maxRecDepth 100000 in
theorem pc217 : cutpc [] R217 = true := by decide +kernel
set_option maxRecDepth 100000 in
theorem r12_floor (p : PM) (hg : Gr 2 p) : ∀ (v0 : Int64) (v2 : Int64), bg12_floor p v0 v2 → ZJ 2 217 0 [zL v0, zJ, zL v2, zJ] [] p (hoL p (bv12_floor p v0 v2)) := by
  intro v0 v2  H
  exact roL (n := 3000) (q := 0) (la := [zL v0, zJ, zL v2, zJ]) (sa := []) (ks := []) (gs := []) (fnil) tab217 pc217 trivial hg H
theorem t12_floor (p : PM) (hg : Gr 2 p) : ∀ (v0 : Int64) (v2 : Int64), g12_floor p v0 v2 → ZJ 2 217 0 [zL v0, zJ, zL v2, zJ] [] p (hoL p (v12_floor p v0 v2)) := r12_floor p hg
def CC217 (F : PM → Int64 → Int64 → Int64) (G : PM → Int64 → Int64 → Prop) : Cal := (217, [1, 1], 2, true, fun as p => (zL (F p (al as 0) (al as 1)), p), fun as p => zsw (tc2 as [(1, 0), (1, 0)]) False (G p (al as 0) (al as 1)))
set_option maxRecDepth 100000 in
theorem okr217 (F : PM → Int64 → Int64 → Int64) (G : PM → Int64 → Int64 → Prop) (h : ∀ (p : PM) (v0 : Int64) (v2 : Int64), Gr 2 p → G p v0 v2 → ZJ 2 217 0 [zL v0, zJ, zL v2, zJ] [] p (hoL p (F p v0 v2))) : CalOK 2 (CC217 F G) := cal_ok (m := 4) (by unfold mL; rw [mX_217]) (fun as p hg H => h p (al as 0) (al as 1) hg H)
theorem ok217 : CalOK 2 (CC217 v12_floor g12_floor) := okr217 v12_floor g12_floor (fun p v0 v2 hg H => t12_floor p hg v0 v2 H)
noncomputable def bv12_isOpen (p : PM) (v1 : Int32) : Int32 :=
  if (p.1 13 12 (v1).toNatClampNeg) = (cn (-100000)) then (
    (cn 1))
  else (
    (cn 0))
noncomputable def v12_isOpen (p : PM) (v1 : Int32) : Int32 := bv12_isOpen p v1
noncomputable def bg12_isOpen (p : PM) (v1 : Int32) : Prop :=
  (inb v1 6) ∧ (
  if (p.1 13 12 (v1).toNatClampNeg) = (cn (-100000)) then (
    True)
  else (
    True))
noncomputable def g12_isOpen (p : PM) (v1 : Int32) : Prop := bg12_isOpen p v1
def R218 : List Row := [(0, .aload_n 0, 1, 0, (0, 0, 0, 0, 0, 0)), (1, .getfield 51, 3, 0, (12, 14, 16, 2, 12, 0)), (4, .iload_n 1, 1, 0, (0, 0, 0, 0, 0, 0)), (5, .iaload, 1, 0, (13, 6, 0, 0, 0, 0)), (6, .ldc 184, 2, 0, (0, 0, 0, 0, 0, -100000)), (8, .if_icmp .ne 7, 3, 0, (0, 0, 0, 0, 0, 0)), (11, .iconst 1, 1, 0, (0, 0, 0, 0, 0, 1)), (12, .goto 4, 3, 0, (0, 0, 0, 0, 0, 0)), (15, .iconst 0, 1, 0, (0, 0, 0, 0, 0, 0)), (16, .ireturn, 1, 0, (1, 0, 0, 0, 0, 0))]
set_option maxRecDepth 100000 in
theorem rk218 : R218.all (rok 2 218 1 []) = true := by decide +kernel
set_option maxRecDepth 100000 in
theorem tab218 : TabOK 2 218 1 [] R218 := tab_ok (K := K218) rfl rfl (fun h => d218 h) rk218 (by decide +kernel)
set_option maxRecDepth 100000 in
theorem pc218 : cutpc [] R218 = true := by decide +kernel
set_option maxRecDepth 100000 in
theorem r12_isOpen (p : PM) (hg : Gr 2 p) : ∀ (v1 : Int32), bg12_isOpen p v1 → ZJ 2 218 0 [zR 12 1, zI v1] [] p (hoI p (bv12_isOpen p v1)) := by
  intro v1  H
  exact roI (n := 3000) (q := 0) (la := [zR 12 1, zI v1]) (sa := []) (ks := []) (gs := []) (fnil) tab218 pc218 trivial hg H
theorem t12_isOpen (p : PM) (hg : Gr 2 p) : ∀ (v1 : Int32), g12_isOpen p v1 → ZJ 2 218 0 [zR 12 1, zI v1] [] p (hoI p (v12_isOpen p v1)) := r12_isOpen p hg
def CC218 (F : PM → Int32 → Int32) (G : PM → Int32 → Prop) : Cal := (218, [15, 0], 1, true, fun as p => (zI (F p (ai as 1)), p), fun as p => zsw (tc2 as [(112, 1), (0, 0)]) False (G p (ai as 1)))
set_option maxRecDepth 100000 in
theorem okr218 (F : PM → Int32 → Int32) (G : PM → Int32 → Prop) (h : ∀ (p : PM) (v1 : Int32), Gr 2 p → G p v1 → ZJ 2 218 0 [zR 12 1, zI v1] [] p (hoI p (F p v1))) : CalOK 2 (CC218 F G) := cal_ok (m := 2) (by unfold mL; rw [mX_218]) (fun as p hg H => h p (ai as 1) hg H)
theorem ok218 : CalOK 2 (CC218 v12_isOpen g12_isOpen) := okr218 v12_isOpen g12_isOpen (fun p v1 hg H => t12_isOpen p hg v1 H)
noncomputable def bv12_isPrice (p : PM) (F215 : PM → Int32 → Int32 → Int32 → Int32) (v0 : Int32) (v1 : Int32) : Int32 :=
  if v0 < (cn 4) then (
    (F215 p v1 (cn 1) (cn 9999)))
  else (
    (F215 p v1 (cn (-9999)) (cn 9999)))
noncomputable def v12_isPrice (p : PM) (v0 : Int32) (v1 : Int32) : Int32 := bv12_isPrice p v12_in v0 v1
noncomputable def bg12_isPrice (p : PM) (F215 : PM → Int32 → Int32 → Int32 → Int32) (G215 : PM → Int32 → Int32 → Int32 → Prop) (v0 : Int32) (v1 : Int32) : Prop :=
  if v0 < (cn 4) then (
    (G215 p v1 (cn 1) (cn 9999)) ∧ (
    (b01 (F215 p v1 (cn 1) (cn 9999))) ∧ (
    True)))
  else (
    (G215 p v1 (cn (-9999)) (cn 9999)) ∧ (
    (b01 (F215 p v1 (cn (-9999)) (cn 9999))) ∧ (
    True)))
noncomputable def g12_isPrice (p : PM) (v0 : Int32) (v1 : Int32) : Prop := bg12_isPrice p v12_in g12_in v0 v1
def R219 : List Row := [(0, .iload_n 1, 1, 0, (0, 0, 0, 0, 0, 0)), (1, .iload_n 0, 1, 0, (0, 0, 0, 0, 0, 0)), (2, .iconst 4, 1, 0, (0, 0, 0, 0, 0, 4)), (3, .if_icmp .ge 7, 3, 0, (0, 0, 0, 0, 0, 0)), (6, .iconst 1, 1, 0, (0, 0, 0, 0, 0, 1)), (7, .goto 6, 3, 0, (0, 0, 0, 0, 0, 0)), (10, .sipush (-9999), 3, 0, (0, 0, 0, 0, 0, -9999)), (13, .sipush 9999, 3, 0, (0, 0, 0, 0, 0, 9999)), (16, .invokestatic 209, 3, 0, (0, 3, 0, 0, 0, 0)), (19, .ireturn, 1, 0, (1, 0, 0, 0, 0, 0))]
set_option maxRecDepth 100000 in
theorem rk219 : R219.all (rok 2 219 1 [(215, [0, 0, 0])]) = true := by decide +kernel
set_option maxRecDepth 100000 in
theorem tab219 {F215 : PM → Int32 → Int32 → Int32 → Int32} {G215 : PM → Int32 → Int32 → Int32 → Prop} : TabOK 2 219 1 [CC215 F215 G215] R219 := tab_ok (K := K219) rfl rfl (fun h => d219 h) rk219 (by decide +kernel)
set_option maxRecDepth 100000 in
theorem pc219 : cutpc [] R219 = true := by decide +kernel
set_option maxRecDepth 100000 in
theorem r12_isPrice (p : PM) (hg : Gr 2 p) (F215 : PM → Int32 → Int32 → Int32 → Int32) (G215 : PM → Int32 → Int32 → Int32 → Prop) (o215 : CalOK 2 (CC215 F215 G215)) : ∀ (v0 : Int32) (v1 : Int32), bg12_isPrice p F215 G215 v0 v1 → ZJ 2 219 0 [zI v0, zI v1] [] p (hoI p (bv12_isPrice p F215 v0 v1)) := by
  intro v0 v1  H
  exact roI (n := 3000) (q := 0) (la := [zI v0, zI v1]) (sa := []) (ks := []) (gs := []) (fcons o215 (fnil)) tab219 pc219 trivial hg H
theorem t12_isPrice (p : PM) (hg : Gr 2 p) : ∀ (v0 : Int32) (v1 : Int32), g12_isPrice p v0 v1 → ZJ 2 219 0 [zI v0, zI v1] [] p (hoI p (v12_isPrice p v0 v1)) := r12_isPrice p hg v12_in g12_in ok215
def CC219 (F : PM → Int32 → Int32 → Int32) (G : PM → Int32 → Int32 → Prop) : Cal := (219, [0, 0], 1, true, fun as p => (zI (F p (ai as 0) (ai as 1)), p), fun as p => zsw (tc2 as [(0, 0), (0, 0)]) False (G p (ai as 0) (ai as 1)))
set_option maxRecDepth 100000 in
theorem okr219 (F : PM → Int32 → Int32 → Int32) (G : PM → Int32 → Int32 → Prop) (h : ∀ (p : PM) (v0 : Int32) (v1 : Int32), Gr 2 p → G p v0 v1 → ZJ 2 219 0 [zI v0, zI v1] [] p (hoI p (F p v0 v1))) : CalOK 2 (CC219 F G) := cal_ok (m := 2) (by unfold mL; rw [mX_219]) (fun as p hg H => h p (ai as 0) (ai as 1) hg H)
theorem ok219 : CalOK 2 (CC219 v12_isPrice g12_isPrice) := okr219 v12_isPrice g12_isPrice (fun p v0 v1 hg H => t12_isPrice p hg v0 v1 H)
noncomputable def bv12_isNear (p : PM) (F216 : PM → Int32 → Int32) (v1 : Int32) (v2 : Int32) : Int32 :=
  if (p.1 13 9 (v1).toNatClampNeg) = 0 then (
    (cn 1))
  else (
    if (p.1 13 9 (v1).toNatClampNeg) < (F216 p (v2 - (p.1 13 11 (v1).toNatClampNeg))) then (
      (cn 0))
    else (
      (cn 1)))
noncomputable def v12_isNear (p : PM) (v1 : Int32) (v2 : Int32) : Int32 := bv12_isNear p v12_abs v1 v2
noncomputable def bg12_isNear (p : PM) (F216 : PM → Int32 → Int32) (G216 : PM → Int32 → Prop) (v1 : Int32) (v2 : Int32) : Prop :=
  (inb v1 6) ∧ (
  if (p.1 13 9 (v1).toNatClampNeg) = 0 then (
    True)
  else (
    (inb v1 6) ∧ (
    (G216 p (v2 - (p.1 13 11 (v1).toNatClampNeg))) ∧ (
    (inb v1 6) ∧ (
    if (p.1 13 9 (v1).toNatClampNeg) < (F216 p (v2 - (p.1 13 11 (v1).toNatClampNeg))) then (
      True)
    else (
      True))))))
noncomputable def g12_isNear (p : PM) (v1 : Int32) (v2 : Int32) : Prop := bg12_isNear p v12_abs g12_abs v1 v2
def R220 : List Row := [(0, .aload_n 0, 1, 0, (0, 0, 0, 0, 0, 0)), (1, .getfield 42, 3, 0, (12, 11, 16, 2, 9, 0)), (4, .iload_n 1, 1, 0, (0, 0, 0, 0, 0, 0)), (5, .iaload, 1, 0, (13, 6, 0, 0, 0, 0)), (6, .ifCond .eq 23, 3, 0, (0, 0, 0, 0, 0, 0)), (9, .iload_n 2, 1, 0, (0, 0, 0, 0, 0, 0)), (10, .aload_n 0, 1, 0, (0, 0, 0, 0, 0, 0)), (11, .getfield 48, 3, 0, (12, 13, 16, 2, 11, 0)), (14, .iload_n 1, 1, 0, (0, 0, 0, 0, 0, 0)), (15, .iaload, 1, 0, (13, 6, 0, 0, 0, 0)), (16, .isub, 1, 0, (0, 0, 0, 0, 0, 0)), (17, .invokestatic 213, 3, 0, (0, 1, 0, 0, 0, 0)), (20, .aload_n 0, 1, 0, (0, 0, 0, 0, 0, 0)), (21, .getfield 42, 3, 0, (12, 11, 16, 2, 9, 0)), (24, .iload_n 1, 1, 0, (0, 0, 0, 0, 0, 0)), (25, .iaload, 1, 0, (13, 6, 0, 0, 0, 0)), (26, .if_icmp .gt 7, 3, 0, (0, 0, 0, 0, 0, 0)), (29, .iconst 1, 1, 0, (0, 0, 0, 0, 0, 1)), (30, .goto 4, 3, 0, (0, 0, 0, 0, 0, 0)), (33, .iconst 0, 1, 0, (0, 0, 0, 0, 0, 0)), (34, .ireturn, 1, 0, (1, 0, 0, 0, 0, 0))]
set_option maxRecDepth 100000 in
theorem rk220 : R220.all (rok 2 220 1 [(216, [0])]) = true := by decide +kernel
set_option maxRecDepth 100000 in
theorem tab220 {F216 : PM → Int32 → Int32} {G216 : PM → Int32 → Prop} : TabOK 2 220 1 [CC216 F216 G216] R220 := tab_ok (K := K220) rfl rfl (fun h => d220 h) rk220 (by decide +kernel)
set_option maxRecDepth 100000 in
theorem pc220 : cutpc [] R220 = true := by decide +kernel
set_option maxRecDepth 100000 in
theorem r12_isNear (p : PM) (hg : Gr 2 p) (F216 : PM → Int32 → Int32) (G216 : PM → Int32 → Prop) (o216 : CalOK 2 (CC216 F216 G216)) : ∀ (v1 : Int32) (v2 : Int32), bg12_isNear p F216 G216 v1 v2 → ZJ 2 220 0 [zR 12 1, zI v1, zI v2] [] p (hoI p (bv12_isNear p F216 v1 v2)) := by
  intro v1 v2  H
  exact roI (n := 3000) (q := 0) (la := [zR 12 1, zI v1, zI v2]) (sa := []) (ks := []) (gs := []) (fcons o216 (fnil)) tab220 pc220 trivial hg H
theorem t12_isNear (p : PM) (hg : Gr 2 p) : ∀ (v1 : Int32) (v2 : Int32), g12_isNear p v1 v2 → ZJ 2 220 0 [zR 12 1, zI v1, zI v2] [] p (hoI p (v12_isNear p v1 v2)) := r12_isNear p hg v12_abs g12_abs ok216
def CC220 (F : PM → Int32 → Int32 → Int32) (G : PM → Int32 → Int32 → Prop) : Cal := (220, [15, 0, 0], 1, true, fun as p => (zI (F p (ai as 1) (ai as 2)), p), fun as p => zsw (tc2 as [(112, 1), (0, 0), (0, 0)]) False (G p (ai as 1) (ai as 2)))
set_option maxRecDepth 100000 in
theorem okr220 (F : PM → Int32 → Int32 → Int32) (G : PM → Int32 → Int32 → Prop) (h : ∀ (p : PM) (v1 : Int32) (v2 : Int32), Gr 2 p → G p v1 v2 → ZJ 2 220 0 [zR 12 1, zI v1, zI v2] [] p (hoI p (F p v1 v2))) : CalOK 2 (CC220 F G) := cal_ok (m := 3) (by unfold mL; rw [mX_220]) (fun as p hg H => h p (ai as 1) (ai as 2) hg H)
theorem ok220 : CalOK 2 (CC220 v12_isNear g12_isNear) := okr220 v12_isNear g12_isNear (fun p v1 v2 hg H => t12_isNear p hg v1 v2 H)
noncomputable def bv12_contractOf (p : PM) (v0 : Int32) (v1 : Int32) : Int32 :=
  if v0 < (cn 4) then (
    if v1 = 0 then (
      v0)
    else (
      (cn (-1))))
  else (
    if v1 = 0 then (
      (v0 - (cn 4)))
    else (
      (v0 - (cn 3))))
noncomputable def v12_contractOf (p : PM) (v0 : Int32) (v1 : Int32) : Int32 := bv12_contractOf p v0 v1
noncomputable def bg12_contractOf (p : PM) (v0 : Int32) (v1 : Int32) : Prop :=
  if v0 < (cn 4) then (
    if v1 = 0 then (
      True)
    else (
      True))
  else (
    if v1 = 0 then (
      True)
    else (
      True))
noncomputable def g12_contractOf (p : PM) (v0 : Int32) (v1 : Int32) : Prop := bg12_contractOf p v0 v1
def R221 : List Row := [(0, .iload_n 0, 1, 0, (0, 0, 0, 0, 0, 0)), (1, .iconst 4, 1, 0, (0, 0, 0, 0, 0, 4)), (2, .if_icmp .ge 15, 3, 0, (0, 0, 0, 0, 0, 0)), (5, .iload_n 1, 1, 0, (0, 0, 0, 0, 0, 0)), (6, .ifCond .eq 7, 3, 0, (0, 0, 0, 0, 0, 0)), (9, .iconst (-1), 1, 0, (0, 0, 0, 0, 0, -1)), (10, .goto 20, 3, 0, (0, 0, 0, 0, 0, 0)), (13, .iload_n 0, 1, 0, (0, 0, 0, 0, 0, 0)), (14, .goto 16, 3, 0, (0, 0, 0, 0, 0, 0)), (17, .iload_n 1, 1, 0, (0, 0, 0, 0, 0, 0)), (18, .ifCond .eq 9, 3, 0, (0, 0, 0, 0, 0, 0)), (21, .iload_n 0, 1, 0, (0, 0, 0, 0, 0, 0)), (22, .iconst 3, 1, 0, (0, 0, 0, 0, 0, 3)), (23, .isub, 1, 0, (0, 0, 0, 0, 0, 0)), (24, .goto 6, 3, 0, (0, 0, 0, 0, 0, 0)), (27, .iload_n 0, 1, 0, (0, 0, 0, 0, 0, 0)), (28, .iconst 4, 1, 0, (0, 0, 0, 0, 0, 4)), (29, .isub, 1, 0, (0, 0, 0, 0, 0, 0)), (30, .ireturn, 1, 0, (0, 0, 0, 0, 0, 0))]
set_option maxRecDepth 100000 in
theorem rk221 : R221.all (rok 2 221 1 []) = true := by decide +kernel
set_option maxRecDepth 100000 in
theorem tab221 : TabOK 2 221 1 [] R221 := tab_ok (K := K221) rfl rfl (fun h => d221 h) rk221 (by decide +kernel)
set_option maxRecDepth 100000 in
theorem pc221 : cutpc [] R221 = true := by decide +kernel
set_option maxRecDepth 100000 in
theorem r12_contractOf (p : PM) (hg : Gr 2 p) : ∀ (v0 : Int32) (v1 : Int32), bg12_contractOf p v0 v1 → ZJ 2 221 0 [zI v0, zI v1] [] p (hoI p (bv12_contractOf p v0 v1)) := by
  intro v0 v1  H
  exact roI (n := 3000) (q := 0) (la := [zI v0, zI v1]) (sa := []) (ks := []) (gs := []) (fnil) tab221 pc221 trivial hg H
theorem t12_contractOf (p : PM) (hg : Gr 2 p) : ∀ (v0 : Int32) (v1 : Int32), g12_contractOf p v0 v1 → ZJ 2 221 0 [zI v0, zI v1] [] p (hoI p (v12_contractOf p v0 v1)) := r12_contractOf p hg
def CC221 (F : PM → Int32 → Int32 → Int32) (G : PM → Int32 → Int32 → Prop) : Cal := (221, [0, 0], 1, true, fun as p => (zI (F p (ai as 0) (ai as 1)), p), fun as p => zsw (tc2 as [(0, 0), (0, 0)]) False (G p (ai as 0) (ai as 1)))
set_option maxRecDepth 100000 in
theorem okr221 (F : PM → Int32 → Int32 → Int32) (G : PM → Int32 → Int32 → Prop) (h : ∀ (p : PM) (v0 : Int32) (v1 : Int32), Gr 2 p → G p v0 v1 → ZJ 2 221 0 [zI v0, zI v1] [] p (hoI p (F p v0 v1))) : CalOK 2 (CC221 F G) := cal_ok (m := 2) (by unfold mL; rw [mX_221]) (fun as p hg H => h p (ai as 0) (ai as 1) hg H)
theorem ok221 : CalOK 2 (CC221 v12_contractOf g12_contractOf) := okr221 v12_contractOf g12_contractOf (fun p v0 v1 hg H => t12_contractOf p hg v0 v1 H)
noncomputable def bv12_live_4 (p : PM) (kv4 : Int32 → Int32 → Int32) (v1 : Int32) (v2 : Int32) : Int32 :=
  if v2 < (cn 44) then (
    if (p.1 15 3 (v2).toNatClampNeg) = 0 then (
      kv4 (v1 + (cn 0)) (v2 + (cn 1)))
    else (
      kv4 (v1 + (cn 1)) (v2 + (cn 1))))
  else (
    v1)
noncomputable def v12_live_4 (p : PM) (n : Nat) : Int32 → Int32 → Int32 := Nat.rec (motive := fun _ => Int32 → Int32 → Int32) (fun _ _ => 0) (fun _ ih => bv12_live_4 p ih) n
theorem ev12_live_4 (p : PM) (n : Nat) (v1 : Int32) (v2 : Int32) : v12_live_4 p (n + 1) v1 v2 = bv12_live_4 p (v12_live_4 p n) v1 v2 := rfl
noncomputable def bg12_live_4 (p : PM) (kg4 : Int32 → Int32 → Prop) (v1 : Int32) (v2 : Int32) : Prop :=
  if v2 < (cn 44) then (
    (inb v2 44) ∧ (
    if (p.1 15 3 (v2).toNatClampNeg) = 0 then (
      kg4 (v1 + (cn 0)) (v2 + (cn 1)))
    else (
      kg4 (v1 + (cn 1)) (v2 + (cn 1)))))
  else (
    True)
noncomputable def g12_live_4 (p : PM) (n : Nat) : Int32 → Int32 → Prop := Nat.rec (motive := fun _ => Int32 → Int32 → Prop) (fun _ _ => False) (fun _ ih => bg12_live_4 p ih) n
theorem eg12_live_4 (p : PM) (n : Nat) (v1 : Int32) (v2 : Int32) : g12_live_4 p (n + 1) v1 v2 = bg12_live_4 p (g12_live_4 p n) v1 v2 := rfl
noncomputable def bv12_live (p : PM) (kv4 : Int32 → Int32 → Int32) : Int32 :=
  kv4 (cn 0) (cn 0)
noncomputable def v12_live (p : PM) : Int32 := bv12_live p (v12_live_4 p FU)
noncomputable def bg12_live (p : PM) (kg4 : Int32 → Int32 → Prop) : Prop :=
  kg4 (cn 0) (cn 0)
noncomputable def g12_live (p : PM) : Prop := bg12_live p (g12_live_4 p FU)
def R222 : List Row := [(0, .iconst 0, 1, 0, (0, 0, 0, 0, 0, 0)), (1, .istore_n 1, 1, 0, (0, 0, 0, 0, 0, 0)), (2, .iconst 0, 1, 0, (0, 0, 0, 0, 0, 0)), (3, .istore_n 2, 1, 0, (0, 0, 0, 0, 0, 0)), (4, .iload_n 2, 1, 1, (0, 0, 0, 0, 0, 0)), (5, .bipush 44, 2, 0, (0, 0, 0, 0, 0, 44)), (7, .if_icmp .ge 26, 3, 0, (0, 0, 0, 0, 0, 0)), (10, .iload_n 1, 1, 0, (0, 0, 0, 0, 0, 0)), (11, .aload_n 0, 1, 0, (0, 0, 0, 0, 0, 0)), (12, .getfield 60, 3, 0, (12, 19, 18, 2, 3, 0)), (15, .iload_n 2, 1, 0, (0, 0, 0, 0, 0, 0)), (16, .baload, 1, 0, (15, 44, 0, 0, 0, 0)), (17, .ifCond .eq 7, 3, 0, (0, 0, 0, 0, 0, 0)), (20, .iconst 1, 1, 0, (0, 0, 0, 0, 0, 1)), (21, .goto 4, 3, 0, (0, 0, 0, 0, 0, 0)), (24, .iconst 0, 1, 0, (0, 0, 0, 0, 0, 0)), (25, .iadd, 1, 0, (0, 0, 0, 0, 0, 0)), (26, .istore_n 1, 1, 0, (0, 0, 0, 0, 0, 0)), (27, .iinc 2 1, 3, 0, (0, 0, 0, 0, 0, 1)), (30, .goto (-26), 3, 0, (0, 0, 0, 0, 0, 0)), (33, .iload_n 1, 1, 0, (0, 0, 0, 0, 0, 0)), (34, .ireturn, 1, 0, (0, 0, 0, 0, 0, 0))]
set_option maxRecDepth 100000 in
theorem rk222 : R222.all (rok 2 222 1 []) = true := by decide +kernel
set_option maxRecDepth 100000 in
theorem tab222 : TabOK 2 222 1 [] R222 := tab_ok (K := K222) rfl rfl (fun h => d222 h) rk222 (by decide +kernel)
set_option maxRecDepth 100000 in
theorem pc222 : cutpc [4] R222 = true := by decide +kernel
set_option maxRecDepth 100000 in
theorem r12_live_4 (p : PM) (hg : Gr 2 p) (kv4 : Int32 → Int32 → Int32) (kg4 : Int32 → Int32 → Prop) (hk4 : ∀ (v1 : Int32) (v2 : Int32), kg4 v1 v2 → ZJ 2 222 4 [zR 12 1, zI v1, zI v2] [] p (hoI p (kv4 v1 v2))) : ∀ (v1 : Int32) (v2 : Int32), bg12_live_4 p kg4 v1 v2 → ZJ 2 222 4 [zR 12 1, zI v1, zI v2] [] p (hoI p (bv12_live_4 p kv4 v1 v2)) := by
  intro v1 v2  H
  exact roI (n := 3000) (q := 4) (la := [zR 12 1, zI v1, zI v2]) (sa := []) (ks := [fun la sa _ => kv4 (ai la 1) (ai la 2)]) (gs := [fun la sa _ => zsw (tc2 la [(112, 1), (0, 0), (0, 0)] && tc2 sa []) False (kg4 (ai la 1) (ai la 2))]) (fnil) tab222 pc222 ⟨fun la sa s hg H => zcut H fun H => hk4 (ai la 1) (ai la 2) H, trivial⟩ hg H
theorem t12_live_4 (p : PM) (hg : Gr 2 p) : ∀ (n : Nat), ∀ (v1 : Int32) (v2 : Int32), g12_live_4 p n v1 v2 → ZJ 2 222 4 [zR 12 1, zI v1, zI v2] [] p (hoI p (v12_live_4 p n v1 v2)) := by
  intro n
  induction n with
  | zero =>
    intro v1 v2  H
    exact H.elim
  | succ n ih => exact r12_live_4 p hg (v12_live_4 p n) (g12_live_4 p n) ih
set_option maxRecDepth 100000 in
theorem r12_live (p : PM) (hg : Gr 2 p) (kv4 : Int32 → Int32 → Int32) (kg4 : Int32 → Int32 → Prop) (hk4 : ∀ (v1 : Int32) (v2 : Int32), kg4 v1 v2 → ZJ 2 222 4 [zR 12 1, zI v1, zI v2] [] p (hoI p (kv4 v1 v2))) : bg12_live p kg4 → ZJ 2 222 0 [zR 12 1, zJ, zJ] [] p (hoI p (bv12_live p kv4)) := by
  intro   H
  exact roI (n := 3000) (q := 0) (la := [zR 12 1, zJ, zJ]) (sa := []) (ks := [fun la sa _ => kv4 (ai la 1) (ai la 2)]) (gs := [fun la sa _ => zsw (tc2 la [(112, 1), (0, 0), (0, 0)] && tc2 sa []) False (kg4 (ai la 1) (ai la 2))]) (fnil) tab222 pc222 ⟨fun la sa s hg H => zcut H fun H => hk4 (ai la 1) (ai la 2) H, trivial⟩ hg H
theorem t12_live (p : PM) (hg : Gr 2 p) : g12_live p → ZJ 2 222 0 [zR 12 1, zJ, zJ] [] p (hoI p (v12_live p)) := r12_live p hg (v12_live_4 p FU) (g12_live_4 p FU) (t12_live_4 p hg FU)
def CC222 (F : PM → Int32) (G : PM → Prop) : Cal := (222, [15], 1, true, fun as p => (zI (F p ), p), fun as p => zsw (tc2 as [(112, 1)]) False (G p ))
set_option maxRecDepth 100000 in
theorem okr222 (F : PM → Int32) (G : PM → Prop) (h : ∀ (p : PM), Gr 2 p → G p  → ZJ 2 222 0 [zR 12 1, zJ, zJ] [] p (hoI p (F p ))) : CalOK 2 (CC222 F G) := cal_ok (m := 3) (by unfold mL; rw [mX_222]) (fun as p hg H => h p  hg H)
theorem ok222 : CalOK 2 (CC222 v12_live g12_live) := okr222 v12_live g12_live (fun p  hg H => t12_live p hg  H)
noncomputable def bv12_placeOf_4 (p : PM) (kv4 : Int32 → Int32 → Int32 → Int32) (v1 : Int32) (v2 : Int32) (v3 : Int32) : Int32 :=
  if v3 < (cn 44) then (
    if (p.1 15 3 (v3).toNatClampNeg) = 0 then (
      kv4 v1 v2 (v3 + (cn 1)))
    else (
      if (p.1 13 14 (v3).toNatClampNeg) = v1 then (
        kv4 v1 v3 (v3 + (cn 1)))
      else (
        kv4 v1 v2 (v3 + (cn 1)))))
  else (
    v2)
noncomputable def v12_placeOf_4 (p : PM) (n : Nat) : Int32 → Int32 → Int32 → Int32 := Nat.rec (motive := fun _ => Int32 → Int32 → Int32 → Int32) (fun _ _ _ => 0) (fun _ ih => bv12_placeOf_4 p ih) n
theorem ev12_placeOf_4 (p : PM) (n : Nat) (v1 : Int32) (v2 : Int32) (v3 : Int32) : v12_placeOf_4 p (n + 1) v1 v2 v3 = bv12_placeOf_4 p (v12_placeOf_4 p n) v1 v2 v3 := rfl
noncomputable def bg12_placeOf_4 (p : PM) (kg4 : Int32 → Int32 → Int32 → Prop) (v1 : Int32) (v2 : Int32) (v3 : Int32) : Prop :=
  if v3 < (cn 44) then (
    (inb v3 44) ∧ (
    if (p.1 15 3 (v3).toNatClampNeg) = 0 then (
      kg4 v1 v2 (v3 + (cn 1)))
    else (
      (inb v3 44) ∧ (
      if (p.1 13 14 (v3).toNatClampNeg) = v1 then (
        kg4 v1 v3 (v3 + (cn 1)))
      else (
        kg4 v1 v2 (v3 + (cn 1)))))))
  else (
    True)
noncomputable def g12_placeOf_4 (p : PM) (n : Nat) : Int32 → Int32 → Int32 → Prop := Nat.rec (motive := fun _ => Int32 → Int32 → Int32 → Prop) (fun _ _ _ => False) (fun _ ih => bg12_placeOf_4 p ih) n
theorem eg12_placeOf_4 (p : PM) (n : Nat) (v1 : Int32) (v2 : Int32) (v3 : Int32) : g12_placeOf_4 p (n + 1) v1 v2 v3 = bg12_placeOf_4 p (g12_placeOf_4 p n) v1 v2 v3 := rfl
noncomputable def bv12_placeOf (p : PM) (kv4 : Int32 → Int32 → Int32 → Int32) (v1 : Int32) : Int32 :=
  kv4 v1 (cn (-1)) (cn 0)
noncomputable def v12_placeOf (p : PM) (v1 : Int32) : Int32 := bv12_placeOf p (v12_placeOf_4 p FU) v1
noncomputable def bg12_placeOf (p : PM) (kg4 : Int32 → Int32 → Int32 → Prop) (v1 : Int32) : Prop :=
  kg4 v1 (cn (-1)) (cn 0)
noncomputable def g12_placeOf (p : PM) (v1 : Int32) : Prop := bg12_placeOf p (g12_placeOf_4 p FU) v1
def R223 : List Row := [(0, .iconst (-1), 1, 0, (0, 0, 0, 0, 0, -1)), (1, .istore_n 2, 1, 0, (0, 0, 0, 0, 0, 0)), (2, .iconst 0, 1, 0, (0, 0, 0, 0, 0, 0)), (3, .istore_n 3, 1, 0, (0, 0, 0, 0, 0, 0)), (4, .iload_n 3, 1, 1, (0, 0, 0, 0, 0, 0)), (5, .bipush 44, 2, 0, (0, 0, 0, 0, 0, 44)), (7, .if_icmp .ge 34, 3, 0, (0, 0, 0, 0, 0, 0)), (10, .aload_n 0, 1, 0, (0, 0, 0, 0, 0, 0)), (11, .getfield 60, 3, 0, (12, 19, 18, 2, 3, 0)), (14, .iload_n 3, 1, 0, (0, 0, 0, 0, 0, 0)), (15, .baload, 1, 0, (15, 44, 0, 0, 0, 0)), (16, .ifCond .eq 17, 3, 0, (0, 0, 0, 0, 0, 0)), (19, .aload_n 0, 1, 0, (0, 0, 0, 0, 0, 0)), (20, .getfield 63, 3, 0, (12, 20, 16, 2, 14, 0)), (23, .iload_n 3, 1, 0, (0, 0, 0, 0, 0, 0)), (24, .iaload, 1, 0, (13, 44, 0, 0, 0, 0)), (25, .iload_n 1, 1, 0, (0, 0, 0, 0, 0, 0)), (26, .if_icmp .ne 7, 3, 0, (0, 0, 0, 0, 0, 0)), (29, .iload_n 3, 1, 0, (0, 0, 0, 0, 0, 0)), (30, .goto 4, 3, 0, (0, 0, 0, 0, 0, 0)), (33, .iload_n 2, 1, 0, (0, 0, 0, 0, 0, 0)), (34, .istore_n 2, 1, 0, (0, 0, 0, 0, 0, 0)), (35, .iinc 3 1, 3, 0, (0, 0, 0, 0, 0, 1)), (38, .goto (-34), 3, 0, (0, 0, 0, 0, 0, 0)), (41, .iload_n 2, 1, 0, (0, 0, 0, 0, 0, 0)), (42, .ireturn, 1, 0, (0, 0, 0, 0, 0, 0))]
set_option maxRecDepth 100000 in
theorem rk223 : R223.all (rok 2 223 1 []) = true := by decide +kernel
set_option maxRecDepth 100000 in
theorem tab223 : TabOK 2 223 1 [] R223 := tab_ok (K := K223) rfl rfl (fun h => d223 h) rk223 (by decide +kernel)
set_option maxRecDepth 100000 in
theorem pc223 : cutpc [4] R223 = true := by decide +kernel
set_option maxRecDepth 100000 in
theorem r12_placeOf_4 (p : PM) (hg : Gr 2 p) (kv4 : Int32 → Int32 → Int32 → Int32) (kg4 : Int32 → Int32 → Int32 → Prop) (hk4 : ∀ (v1 : Int32) (v2 : Int32) (v3 : Int32), kg4 v1 v2 v3 → ZJ 2 223 4 [zR 12 1, zI v1, zI v2, zI v3] [] p (hoI p (kv4 v1 v2 v3))) : ∀ (v1 : Int32) (v2 : Int32) (v3 : Int32), bg12_placeOf_4 p kg4 v1 v2 v3 → ZJ 2 223 4 [zR 12 1, zI v1, zI v2, zI v3] [] p (hoI p (bv12_placeOf_4 p kv4 v1 v2 v3)) := by
  intro v1 v2 v3  H
  exact roI (n := 3000) (q := 4) (la := [zR 12 1, zI v1, zI v2, zI v3]) (sa := []) (ks := [fun la sa _ => kv4 (ai la 1) (ai la 2) (ai la 3)]) (gs := [fun la sa _ => zsw (tc2 la [(112, 1), (0, 0), (0, 0), (0, 0)] && tc2 sa []) False (kg4 (ai la 1) (ai la 2) (ai la 3))]) (fnil) tab223 pc223 ⟨fun la sa s hg H => zcut H fun H => hk4 (ai la 1) (ai la 2) (ai la 3) H, trivial⟩ hg H
theorem t12_placeOf_4 (p : PM) (hg : Gr 2 p) : ∀ (n : Nat), ∀ (v1 : Int32) (v2 : Int32) (v3 : Int32), g12_placeOf_4 p n v1 v2 v3 → ZJ 2 223 4 [zR 12 1, zI v1, zI v2, zI v3] [] p (hoI p (v12_placeOf_4 p n v1 v2 v3)) := by
  intro n
  induction n with
  | zero =>
    intro v1 v2 v3  H
    exact H.elim
  | succ n ih => exact r12_placeOf_4 p hg (v12_placeOf_4 p n) (g12_placeOf_4 p n) ih
set_option maxRecDepth 100000 in
theorem r12_placeOf (p : PM) (hg : Gr 2 p) (kv4 : Int32 → Int32 → Int32 → Int32) (kg4 : Int32 → Int32 → Int32 → Prop) (hk4 : ∀ (v1 : Int32) (v2 : Int32) (v3 : Int32), kg4 v1 v2 v3 → ZJ 2 223 4 [zR 12 1, zI v1, zI v2, zI v3] [] p (hoI p (kv4 v1 v2 v3))) : ∀ (v1 : Int32), bg12_placeOf p kg4 v1 → ZJ 2 223 0 [zR 12 1, zI v1, zJ, zJ] [] p (hoI p (bv12_placeOf p kv4 v1)) := by
  intro v1  H
  exact roI (n := 3000) (q := 0) (la := [zR 12 1, zI v1, zJ, zJ]) (sa := []) (ks := [fun la sa _ => kv4 (ai la 1) (ai la 2) (ai la 3)]) (gs := [fun la sa _ => zsw (tc2 la [(112, 1), (0, 0), (0, 0), (0, 0)] && tc2 sa []) False (kg4 (ai la 1) (ai la 2) (ai la 3))]) (fnil) tab223 pc223 ⟨fun la sa s hg H => zcut H fun H => hk4 (ai la 1) (ai la 2) (ai la 3) H, trivial⟩ hg H
theorem t12_placeOf (p : PM) (hg : Gr 2 p) : ∀ (v1 : Int32), g12_placeOf p v1 → ZJ 2 223 0 [zR 12 1, zI v1, zJ, zJ] [] p (hoI p (v12_placeOf p v1)) := r12_placeOf p hg (v12_placeOf_4 p FU) (g12_placeOf_4 p FU) (t12_placeOf_4 p hg FU)
def CC223 (F : PM → Int32 → Int32) (G : PM → Int32 → Prop) : Cal := (223, [15, 0], 1, true, fun as p => (zI (F p (ai as 1)), p), fun as p => zsw (tc2 as [(112, 1), (0, 0)]) False (G p (ai as 1)))
set_option maxRecDepth 100000 in
theorem okr223 (F : PM → Int32 → Int32) (G : PM → Int32 → Prop) (h : ∀ (p : PM) (v1 : Int32), Gr 2 p → G p v1 → ZJ 2 223 0 [zR 12 1, zI v1, zJ, zJ] [] p (hoI p (F p v1))) : CalOK 2 (CC223 F G) := cal_ok (m := 4) (by unfold mL; rw [mX_223]) (fun as p hg H => h p (ai as 1) hg H)
theorem ok223 : CalOK 2 (CC223 v12_placeOf g12_placeOf) := okr223 v12_placeOf g12_placeOf (fun p v1 hg H => t12_placeOf p hg v1 H)
noncomputable def bv12_newOrder_3 (F216 : PM → Int32 → Int32) (kv3 : PM → Int32 → Int32 → Int32 → Int32 → Int32 → Int32 → Int32 → Int32 → Int32 × PM) (p : PM) (v1 : Int32) (v2 : Int32) (v3 : Int32) (v4 : Int32) (v5 : Int32) (v6 : Int32) (v7 : Int32) (v8 : Int32) : Int32 × PM :=
  if (p.1 15 3 (v8).toNatClampNeg) = 0 then (
    let p1 : PM := pI p 15 3 (v8).toNatClampNeg (cn 1)
    let p2 : PM := pI p1 13 14 (v8).toNatClampNeg (p1.1 12 1 39)
    let p3 : PM := pI p2 12 1 39 ((p2.1 12 1 39) + (cn 1))
    let p4 : PM := pI p3 13 15 (v8).toNatClampNeg v1
    let p5 : PM := pI p4 13 16 (v8).toNatClampNeg v2
    if 0 < v3 then (
      let p17 : PM := pI p5 15 4 (v8).toNatClampNeg (cn 1)
      let p18 : PM := pI p17 13 17 (v8).toNatClampNeg (F216 p17 v3)
      let p19 : PM := pI p18 15 5 (v8).toNatClampNeg v5
      let p20 : PM := pI p19 13 18 (v8).toNatClampNeg v4
      let p21 : PM := pI p20 13 19 (v8).toNatClampNeg v6
      let p22 : PM := pI p21 13 20 (v8).toNatClampNeg v7
      let p23 : PM := pI p22 13 21 (v8).toNatClampNeg (p22.1 13 17 (v8).toNatClampNeg)
      let p24 : PM := pI p23 13 22 (v8).toNatClampNeg (p23.1 13 17 (v8).toNatClampNeg)
      let p25 : PM := pI p24 13 24 (v8).toNatClampNeg (cn 2)
      let p26 : PM := pI p25 13 28 (v8).toNatClampNeg (cn (-1))
      let p27 : PM := pI p26 15 6 (v8).toNatClampNeg (cn 0)
      (v8, p27))
    else (
      let p6 : PM := pI p5 15 4 (v8).toNatClampNeg (cn 0)
      let p7 : PM := pI p6 13 17 (v8).toNatClampNeg (F216 p6 v3)
      let p8 : PM := pI p7 15 5 (v8).toNatClampNeg v5
      let p9 : PM := pI p8 13 18 (v8).toNatClampNeg v4
      let p10 : PM := pI p9 13 19 (v8).toNatClampNeg v6
      let p11 : PM := pI p10 13 20 (v8).toNatClampNeg v7
      let p12 : PM := pI p11 13 21 (v8).toNatClampNeg (p11.1 13 17 (v8).toNatClampNeg)
      let p13 : PM := pI p12 13 22 (v8).toNatClampNeg (p12.1 13 17 (v8).toNatClampNeg)
      let p14 : PM := pI p13 13 24 (v8).toNatClampNeg (cn 2)
      let p15 : PM := pI p14 13 28 (v8).toNatClampNeg (cn (-1))
      let p16 : PM := pI p15 15 6 (v8).toNatClampNeg (cn 0)
      (v8, p16)))
  else (
    kv3 p v1 v2 v3 v4 v5 v6 v7 (v8 + (cn 1)))
noncomputable def v12_newOrder_3 (n : Nat) : PM → Int32 → Int32 → Int32 → Int32 → Int32 → Int32 → Int32 → Int32 → Int32 × PM := Nat.rec (motive := fun _ => PM → Int32 → Int32 → Int32 → Int32 → Int32 → Int32 → Int32 → Int32 → Int32 × PM) (fun p _ _ _ _ _ _ _ _ => (0, p)) (fun _ ih => bv12_newOrder_3 v12_abs ih) n
theorem ev12_newOrder_3 (n : Nat) (p : PM) (v1 : Int32) (v2 : Int32) (v3 : Int32) (v4 : Int32) (v5 : Int32) (v6 : Int32) (v7 : Int32) (v8 : Int32) : v12_newOrder_3 (n + 1) p v1 v2 v3 v4 v5 v6 v7 v8 = bv12_newOrder_3 v12_abs (v12_newOrder_3 n) p v1 v2 v3 v4 v5 v6 v7 v8 := rfl
noncomputable def bg12_newOrder_3 (F216 : PM → Int32 → Int32) (G216 : PM → Int32 → Prop) (kg3 : PM → Int32 → Int32 → Int32 → Int32 → Int32 → Int32 → Int32 → Int32 → Prop) (p : PM) (v1 : Int32) (v2 : Int32) (v3 : Int32) (v4 : Int32) (v5 : Int32) (v6 : Int32) (v7 : Int32) (v8 : Int32) : Prop :=
  (inb v8 44) ∧ (
  if (p.1 15 3 (v8).toNatClampNeg) = 0 then (
    (inb v8 44) ∧ (
    let p1 : PM := pI p 15 3 (v8).toNatClampNeg (cn 1)
    (inb v8 44) ∧ (
    let p2 : PM := pI p1 13 14 (v8).toNatClampNeg (p1.1 12 1 39)
    let p3 : PM := pI p2 12 1 39 ((p2.1 12 1 39) + (cn 1))
    (inb v8 44) ∧ (
    let p4 : PM := pI p3 13 15 (v8).toNatClampNeg v1
    (inb v8 44) ∧ (
    let p5 : PM := pI p4 13 16 (v8).toNatClampNeg v2
    if 0 < v3 then (
      (inb v8 44) ∧ (
      let p17 : PM := pI p5 15 4 (v8).toNatClampNeg (cn 1)
      (G216 p17 v3) ∧ (
      (inb v8 44) ∧ (
      let p18 : PM := pI p17 13 17 (v8).toNatClampNeg (F216 p17 v3)
      (inb v8 44) ∧ (
      (b01 v5) ∧ (
      let p19 : PM := pI p18 15 5 (v8).toNatClampNeg v5
      (inb v8 44) ∧ (
      let p20 : PM := pI p19 13 18 (v8).toNatClampNeg v4
      (inb v8 44) ∧ (
      let p21 : PM := pI p20 13 19 (v8).toNatClampNeg v6
      (inb v8 44) ∧ (
      let p22 : PM := pI p21 13 20 (v8).toNatClampNeg v7
      (inb v8 44) ∧ (
      (inb v8 44) ∧ (
      let p23 : PM := pI p22 13 21 (v8).toNatClampNeg (p22.1 13 17 (v8).toNatClampNeg)
      (inb v8 44) ∧ (
      (inb v8 44) ∧ (
      let p24 : PM := pI p23 13 22 (v8).toNatClampNeg (p23.1 13 17 (v8).toNatClampNeg)
      (inb v8 44) ∧ (
      let p25 : PM := pI p24 13 24 (v8).toNatClampNeg (cn 2)
      (inb v8 44) ∧ (
      let p26 : PM := pI p25 13 28 (v8).toNatClampNeg (cn (-1))
      (inb v8 44) ∧ (
      let p27 : PM := pI p26 15 6 (v8).toNatClampNeg (cn 0)
      True))))))))))))))))
    else (
      (inb v8 44) ∧ (
      let p6 : PM := pI p5 15 4 (v8).toNatClampNeg (cn 0)
      (G216 p6 v3) ∧ (
      (inb v8 44) ∧ (
      let p7 : PM := pI p6 13 17 (v8).toNatClampNeg (F216 p6 v3)
      (inb v8 44) ∧ (
      (b01 v5) ∧ (
      let p8 : PM := pI p7 15 5 (v8).toNatClampNeg v5
      (inb v8 44) ∧ (
      let p9 : PM := pI p8 13 18 (v8).toNatClampNeg v4
      (inb v8 44) ∧ (
      let p10 : PM := pI p9 13 19 (v8).toNatClampNeg v6
      (inb v8 44) ∧ (
      let p11 : PM := pI p10 13 20 (v8).toNatClampNeg v7
      (inb v8 44) ∧ (
      (inb v8 44) ∧ (
      let p12 : PM := pI p11 13 21 (v8).toNatClampNeg (p11.1 13 17 (v8).toNatClampNeg)
      (inb v8 44) ∧ (
      (inb v8 44) ∧ (
      let p13 : PM := pI p12 13 22 (v8).toNatClampNeg (p12.1 13 17 (v8).toNatClampNeg)
      (inb v8 44) ∧ (
      let p14 : PM := pI p13 13 24 (v8).toNatClampNeg (cn 2)
      (inb v8 44) ∧ (
      let p15 : PM := pI p14 13 28 (v8).toNatClampNeg (cn (-1))
      (inb v8 44) ∧ (
      let p16 : PM := pI p15 15 6 (v8).toNatClampNeg (cn 0)
      True)))))))))))))))))))))
  else (
    kg3 p v1 v2 v3 v4 v5 v6 v7 (v8 + (cn 1))))
noncomputable def g12_newOrder_3 (n : Nat) : PM → Int32 → Int32 → Int32 → Int32 → Int32 → Int32 → Int32 → Int32 → Prop := Nat.rec (motive := fun _ => PM → Int32 → Int32 → Int32 → Int32 → Int32 → Int32 → Int32 → Int32 → Prop) (fun _ _ _ _ _ _ _ _ _ => False) (fun _ ih => bg12_newOrder_3 v12_abs g12_abs ih) n
theorem eg12_newOrder_3 (n : Nat) (p : PM) (v1 : Int32) (v2 : Int32) (v3 : Int32) (v4 : Int32) (v5 : Int32) (v6 : Int32) (v7 : Int32) (v8 : Int32) : g12_newOrder_3 (n + 1) p v1 v2 v3 v4 v5 v6 v7 v8 = bg12_newOrder_3 v12_abs g12_abs (g12_newOrder_3 n) p v1 v2 v3 v4 v5 v6 v7 v8 := rfl
noncomputable def bv12_newOrder (kv3 : PM → Int32 → Int32 → Int32 → Int32 → Int32 → Int32 → Int32 → Int32 → Int32 × PM) (p : PM) (v1 : Int32) (v2 : Int32) (v3 : Int32) (v4 : Int32) (v5 : Int32) (v6 : Int32) (v7 : Int32) : Int32 × PM :=
  kv3 p v1 v2 v3 v4 v5 v6 v7 (cn 0)
noncomputable def v12_newOrder (p : PM) (v1 : Int32) (v2 : Int32) (v3 : Int32) (v4 : Int32) (v5 : Int32) (v6 : Int32) (v7 : Int32) : Int32 × PM := bv12_newOrder (v12_newOrder_3 FU) p v1 v2 v3 v4 v5 v6 v7
noncomputable def bg12_newOrder (kg3 : PM → Int32 → Int32 → Int32 → Int32 → Int32 → Int32 → Int32 → Int32 → Prop) (p : PM) (v1 : Int32) (v2 : Int32) (v3 : Int32) (v4 : Int32) (v5 : Int32) (v6 : Int32) (v7 : Int32) : Prop :=
  kg3 p v1 v2 v3 v4 v5 v6 v7 (cn 0)
noncomputable def g12_newOrder (p : PM) (v1 : Int32) (v2 : Int32) (v3 : Int32) (v4 : Int32) (v5 : Int32) (v6 : Int32) (v7 : Int32) : Prop := bg12_newOrder (g12_newOrder_3 FU) p v1 v2 v3 v4 v5 v6 v7
def R224 : List Row := [(0, .iconst 0, 1, 0, (0, 0, 0, 0, 0, 0)), (1, .istore 8, 2, 0, (0, 0, 0, 0, 0, 0)), (3, .aload_n 0, 1, 1, (0, 0, 0, 0, 0, 0)), (4, .getfield 60, 3, 0, (12, 19, 18, 2, 3, 0)), (7, .iload 8, 2, 0, (0, 0, 0, 0, 0, 0)), (9, .baload, 1, 0, (15, 44, 0, 0, 0, 0)), (10, .ifCond .eq 9, 3, 0, (0, 0, 0, 0, 0, 0)), (13, .iinc 8 1, 3, 0, (0, 0, 0, 0, 0, 1)), (16, .goto (-13), 3, 0, (0, 0, 0, 0, 0, 0)), (19, .aload_n 0, 1, 0, (0, 0, 0, 0, 0, 0)), (20, .getfield 60, 3, 0, (12, 19, 18, 2, 3, 0)), (23, .iload 8, 2, 0, (0, 0, 0, 0, 0, 0)), (25, .iconst 1, 1, 0, (0, 0, 0, 0, 0, 1)), (26, .bastore, 1, 0, (15, 44, 0, 0, 0, 0)), (27, .aload_n 0, 1, 0, (0, 0, 0, 0, 0, 0)), (28, .getfield 63, 3, 0, (12, 20, 16, 2, 14, 0)), (31, .iload 8, 2, 0, (0, 0, 0, 0, 0, 0)), (33, .aload_n 0, 1, 0, (0, 0, 0, 0, 0, 0)), (34, .getfield 200, 3, 0, (12, 39, 0, 1, 0, 0)), (37, .iastore, 1, 0, (13, 44, 0, 0, 0, 0)), (38, .aload_n 0, 1, 0, (0, 0, 0, 0, 0, 0)), (39, .dup, 1, 0, (0, 0, 0, 0, 0, 0)), (40, .getfield 200, 3, 0, (12, 39, 0, 1, 0, 0)), (43, .iconst 1, 1, 0, (0, 0, 0, 0, 0, 1)), (44, .iadd, 1, 0, (0, 0, 0, 0, 0, 0)), (45, .putfield 200, 3, 0, (12, 39, 0, 1, 0, 0)), (48, .aload_n 0, 1, 0, (0, 0, 0, 0, 0, 0)), (49, .getfield 66, 3, 0, (12, 21, 16, 2, 15, 0)), (52, .iload 8, 2, 0, (0, 0, 0, 0, 0, 0)), (54, .iload_n 1, 1, 0, (0, 0, 0, 0, 0, 0)), (55, .iastore, 1, 0, (13, 44, 0, 0, 0, 0)), (56, .aload_n 0, 1, 0, (0, 0, 0, 0, 0, 0)), (57, .getfield 69, 3, 0, (12, 22, 16, 2, 16, 0)), (60, .iload 8, 2, 0, (0, 0, 0, 0, 0, 0)), (62, .iload_n 2, 1, 0, (0, 0, 0, 0, 0, 0)), (63, .iastore, 1, 0, (13, 44, 0, 0, 0, 0)), (64, .aload_n 0, 1, 0, (0, 0, 0, 0, 0, 0)), (65, .getfield 72, 3, 0, (12, 23, 18, 2, 4, 0)), (68, .iload 8, 2, 0, (0, 0, 0, 0, 0, 0)), (70, .iload_n 3, 1, 0, (0, 0, 0, 0, 0, 0)), (71, .ifCond .le 7, 3, 0, (0, 0, 0, 0, 0, 0)), (74, .iconst 1, 1, 0, (0, 0, 0, 0, 0, 1)), (75, .goto 4, 3, 0, (0, 0, 0, 0, 0, 0)), (78, .iconst 0, 1, 0, (0, 0, 0, 0, 0, 0)), (79, .bastore, 1, 0, (15, 44, 0, 0, 0, 0)), (80, .aload_n 0, 1, 0, (0, 0, 0, 0, 0, 0)), (81, .getfield 75, 3, 0, (12, 24, 16, 2, 17, 0)), (84, .iload 8, 2, 0, (0, 0, 0, 0, 0, 0)), (86, .iload_n 3, 1, 0, (0, 0, 0, 0, 0, 0)), (87, .invokestatic 213, 3, 0, (0, 1, 0, 0, 0, 0)), (90, .iastore, 1, 0, (13, 44, 0, 0, 0, 0)), (91, .aload_n 0, 1, 0, (0, 0, 0, 0, 0, 0)), (92, .getfield 78, 3, 0, (12, 25, 18, 2, 5, 0)), (95, .iload 8, 2, 0, (0, 0, 0, 0, 0, 0)), (97, .iload 5, 2, 0, (0, 0, 0, 0, 0, 0)), (99, .bastore, 1, 0, (15, 44, 0, 0, 0, 0)), (100, .aload_n 0, 1, 0, (0, 0, 0, 0, 0, 0)), (101, .getfield 81, 3, 0, (12, 26, 16, 2, 18, 0)), (104, .iload 8, 2, 0, (0, 0, 0, 0, 0, 0)), (106, .iload 4, 2, 0, (0, 0, 0, 0, 0, 0)), (108, .iastore, 1, 0, (13, 44, 0, 0, 0, 0)), (109, .aload_n 0, 1, 0, (0, 0, 0, 0, 0, 0)), (110, .getfield 84, 3, 0, (12, 27, 16, 2, 19, 0)), (113, .iload 8, 2, 0, (0, 0, 0, 0, 0, 0)), (115, .iload 6, 2, 0, (0, 0, 0, 0, 0, 0)), (117, .iastore, 1, 0, (13, 44, 0, 0, 0, 0)), (118, .aload_n 0, 1, 0, (0, 0, 0, 0, 0, 0)), (119, .getfield 87, 3, 0, (12, 28, 16, 2, 20, 0)), (122, .iload 8, 2, 0, (0, 0, 0, 0, 0, 0)), (124, .iload 7, 2, 0, (0, 0, 0, 0, 0, 0)), (126, .iastore, 1, 0, (13, 44, 0, 0, 0, 0)), (127, .aload_n 0, 1, 0, (0, 0, 0, 0, 0, 0)), (128, .getfield 90, 3, 0, (12, 29, 16, 2, 21, 0)), (131, .iload 8, 2, 0, (0, 0, 0, 0, 0, 0)), (133, .aload_n 0, 1, 0, (0, 0, 0, 0, 0, 0)), (134, .getfield 75, 3, 0, (12, 24, 16, 2, 17, 0)), (137, .iload 8, 2, 0, (0, 0, 0, 0, 0, 0)), (139, .iaload, 1, 0, (13, 44, 0, 0, 0, 0)), (140, .iastore, 1, 0, (13, 44, 0, 0, 0, 0)), (141, .aload_n 0, 1, 0, (0, 0, 0, 0, 0, 0)), (142, .getfield 93, 3, 0, (12, 30, 16, 2, 22, 0)), (145, .iload 8, 2, 0, (0, 0, 0, 0, 0, 0)), (147, .aload_n 0, 1, 0, (0, 0, 0, 0, 0, 0)), (148, .getfield 75, 3, 0, (12, 24, 16, 2, 17, 0)), (151, .iload 8, 2, 0, (0, 0, 0, 0, 0, 0)), (153, .iaload, 1, 0, (13, 44, 0, 0, 0, 0)), (154, .iastore, 1, 0, (13, 44, 0, 0, 0, 0)), (155, .aload_n 0, 1, 0, (0, 0, 0, 0, 0, 0)), (156, .getfield 99, 3, 0, (12, 32, 16, 2, 24, 0)), (159, .iload 8, 2, 0, (0, 0, 0, 0, 0, 0)), (161, .iconst 2, 1, 0, (0, 0, 0, 0, 0, 2)), (162, .iastore, 1, 0, (13, 44, 0, 0, 0, 0)), (163, .aload_n 0, 1, 0, (0, 0, 0, 0, 0, 0)), (164, .getfield 111, 3, 0, (12, 36, 16, 2, 28, 0)), (167, .iload 8, 2, 0, (0, 0, 0, 0, 0, 0)), (169, .iconst (-1), 1, 0, (0, 0, 0, 0, 0, -1)), (170, .iastore, 1, 0, (13, 44, 0, 0, 0, 0)), (171, .aload_n 0, 1, 0, (0, 0, 0, 0, 0, 0)), (172, .getfield 114, 3, 0, (12, 37, 18, 2, 6, 0)), (175, .iload 8, 2, 0, (0, 0, 0, 0, 0, 0)), (177, .iconst 0, 1, 0, (0, 0, 0, 0, 0, 0)), (178, .bastore, 1, 0, (15, 44, 0, 0, 0, 0)), (179, .iload 8, 2, 0, (0, 0, 0, 0, 0, 0)), (181, .ireturn, 1, 0, (0, 0, 0, 0, 0, 0))]
set_option maxRecDepth 100000 in
theorem rk224 : R224.all (rok 2 224 1 [(216, [0])]) = true := by decide +kernel
set_option maxRecDepth 100000 in
theorem tab224 {F216 : PM → Int32 → Int32} {G216 : PM → Int32 → Prop} : TabOK 2 224 1 [CC216 F216 G216] R224 := tab_ok (K := K224) rfl rfl (fun h => d224 h) rk224 (by decide +kernel)
set_option maxRecDepth 100000 in
theorem pc224 : cutpc [3] R224 = true := by decide +kernel
set_option maxRecDepth 100000 in
theorem r12_newOrder_3 (F216 : PM → Int32 → Int32) (G216 : PM → Int32 → Prop) (o216 : CalOK 2 (CC216 F216 G216)) (kv3 : PM → Int32 → Int32 → Int32 → Int32 → Int32 → Int32 → Int32 → Int32 → Int32 × PM) (kg3 : PM → Int32 → Int32 → Int32 → Int32 → Int32 → Int32 → Int32 → Int32 → Prop) (hk3 : ∀ (p : PM) (v1 : Int32) (v2 : Int32) (v3 : Int32) (v4 : Int32) (v5 : Int32) (v6 : Int32) (v7 : Int32) (v8 : Int32), Gr 2 p → kg3 p v1 v2 v3 v4 v5 v6 v7 v8 → ZJ 2 224 3 [zR 12 1, zI v1, zI v2, zI v3, zI v4, zI v5, zI v6, zI v7, zI v8] [] p (hwI (kv3 p v1 v2 v3 v4 v5 v6 v7 v8))) : ∀ (p : PM) (v1 : Int32) (v2 : Int32) (v3 : Int32) (v4 : Int32) (v5 : Int32) (v6 : Int32) (v7 : Int32) (v8 : Int32), Gr 2 p → bg12_newOrder_3 F216 G216 kg3 p v1 v2 v3 v4 v5 v6 v7 v8 → ZJ 2 224 3 [zR 12 1, zI v1, zI v2, zI v3, zI v4, zI v5, zI v6, zI v7, zI v8] [] p (hwI (bv12_newOrder_3 F216 kv3 p v1 v2 v3 v4 v5 v6 v7 v8)) := by
  intro p v1 v2 v3 v4 v5 v6 v7 v8  hg H
  exact rwI (n := 3000) (q := 3) (la := [zR 12 1, zI v1, zI v2, zI v3, zI v4, zI v5, zI v6, zI v7, zI v8]) (sa := []) (ks := [fun la sa s => kv3 s (ai la 1) (ai la 2) (ai la 3) (ai la 4) (ai la 5) (ai la 6) (ai la 7) (ai la 8)]) (gs := [fun la sa s => zsw (tc2 la [(112, 1), (0, 0), (0, 0), (0, 0), (0, 0), (0, 0), (0, 0), (0, 0), (0, 0)] && tc2 sa []) False (kg3 s (ai la 1) (ai la 2) (ai la 3) (ai la 4) (ai la 5) (ai la 6) (ai la 7) (ai la 8))]) (fcons o216 (fnil)) tab224 pc224 ⟨fun la sa s hg H => zcut H fun H => hk3 s (ai la 1) (ai la 2) (ai la 3) (ai la 4) (ai la 5) (ai la 6) (ai la 7) (ai la 8) hg H, trivial⟩ hg H
theorem t12_newOrder_3 : ∀ (n : Nat), ∀ (p : PM) (v1 : Int32) (v2 : Int32) (v3 : Int32) (v4 : Int32) (v5 : Int32) (v6 : Int32) (v7 : Int32) (v8 : Int32), Gr 2 p → g12_newOrder_3 n p v1 v2 v3 v4 v5 v6 v7 v8 → ZJ 2 224 3 [zR 12 1, zI v1, zI v2, zI v3, zI v4, zI v5, zI v6, zI v7, zI v8] [] p (hwI (v12_newOrder_3 n p v1 v2 v3 v4 v5 v6 v7 v8)) := by
  intro n
  induction n with
  | zero =>
    intro p v1 v2 v3 v4 v5 v6 v7 v8  hg H
    exact H.elim
  | succ n ih => exact r12_newOrder_3 v12_abs g12_abs ok216 (v12_newOrder_3 n) (g12_newOrder_3 n) ih
set_option maxRecDepth 100000 in
theorem r12_newOrder (F216 : PM → Int32 → Int32) (G216 : PM → Int32 → Prop) (o216 : CalOK 2 (CC216 F216 G216)) (kv3 : PM → Int32 → Int32 → Int32 → Int32 → Int32 → Int32 → Int32 → Int32 → Int32 × PM) (kg3 : PM → Int32 → Int32 → Int32 → Int32 → Int32 → Int32 → Int32 → Int32 → Prop) (hk3 : ∀ (p : PM) (v1 : Int32) (v2 : Int32) (v3 : Int32) (v4 : Int32) (v5 : Int32) (v6 : Int32) (v7 : Int32) (v8 : Int32), Gr 2 p → kg3 p v1 v2 v3 v4 v5 v6 v7 v8 → ZJ 2 224 3 [zR 12 1, zI v1, zI v2, zI v3, zI v4, zI v5, zI v6, zI v7, zI v8] [] p (hwI (kv3 p v1 v2 v3 v4 v5 v6 v7 v8))) : ∀ (p : PM) (v1 : Int32) (v2 : Int32) (v3 : Int32) (v4 : Int32) (v5 : Int32) (v6 : Int32) (v7 : Int32), Gr 2 p → bg12_newOrder kg3 p v1 v2 v3 v4 v5 v6 v7 → ZJ 2 224 0 [zR 12 1, zI v1, zI v2, zI v3, zI v4, zI v5, zI v6, zI v7, zJ] [] p (hwI (bv12_newOrder kv3 p v1 v2 v3 v4 v5 v6 v7)) := by
  intro p v1 v2 v3 v4 v5 v6 v7  hg H
  exact rwI (n := 3000) (q := 0) (la := [zR 12 1, zI v1, zI v2, zI v3, zI v4, zI v5, zI v6, zI v7, zJ]) (sa := []) (ks := [fun la sa s => kv3 s (ai la 1) (ai la 2) (ai la 3) (ai la 4) (ai la 5) (ai la 6) (ai la 7) (ai la 8)]) (gs := [fun la sa s => zsw (tc2 la [(112, 1), (0, 0), (0, 0), (0, 0), (0, 0), (0, 0), (0, 0), (0, 0), (0, 0)] && tc2 sa []) False (kg3 s (ai la 1) (ai la 2) (ai la 3) (ai la 4) (ai la 5) (ai la 6) (ai la 7) (ai la 8))]) (fcons o216 (fnil)) tab224 pc224 ⟨fun la sa s hg H => zcut H fun H => hk3 s (ai la 1) (ai la 2) (ai la 3) (ai la 4) (ai la 5) (ai la 6) (ai la 7) (ai la 8) hg H, trivial⟩ hg H
theorem t12_newOrder : ∀ (p : PM) (v1 : Int32) (v2 : Int32) (v3 : Int32) (v4 : Int32) (v5 : Int32) (v6 : Int32) (v7 : Int32), Gr 2 p → g12_newOrder p v1 v2 v3 v4 v5 v6 v7 → ZJ 2 224 0 [zR 12 1, zI v1, zI v2, zI v3, zI v4, zI v5, zI v6, zI v7, zJ] [] p (hwI (v12_newOrder p v1 v2 v3 v4 v5 v6 v7)) := r12_newOrder v12_abs g12_abs ok216 (v12_newOrder_3 FU) (g12_newOrder_3 FU) (t12_newOrder_3 FU)
def CC224 (F : PM → Int32 → Int32 → Int32 → Int32 → Int32 → Int32 → Int32 → Int32 × PM) (G : PM → Int32 → Int32 → Int32 → Int32 → Int32 → Int32 → Int32 → Prop) : Cal := (224, [15, 0, 0, 0, 0, 0, 0, 0], 1, false, fun as p => (zI (F p (ai as 1) (ai as 2) (ai as 3) (ai as 4) (ai as 5) (ai as 6) (ai as 7)).1, (F p (ai as 1) (ai as 2) (ai as 3) (ai as 4) (ai as 5) (ai as 6) (ai as 7)).2), fun as p => zsw (tc2 as [(112, 1), (0, 0), (0, 0), (0, 0), (0, 0), (0, 0), (0, 0), (0, 0)]) False (G p (ai as 1) (ai as 2) (ai as 3) (ai as 4) (ai as 5) (ai as 6) (ai as 7)))
set_option maxRecDepth 100000 in
theorem okr224 (F : PM → Int32 → Int32 → Int32 → Int32 → Int32 → Int32 → Int32 → Int32 × PM) (G : PM → Int32 → Int32 → Int32 → Int32 → Int32 → Int32 → Int32 → Prop) (h : ∀ (p : PM) (v1 : Int32) (v2 : Int32) (v3 : Int32) (v4 : Int32) (v5 : Int32) (v6 : Int32) (v7 : Int32), Gr 2 p → G p v1 v2 v3 v4 v5 v6 v7 → ZJ 2 224 0 [zR 12 1, zI v1, zI v2, zI v3, zI v4, zI v5, zI v6, zI v7, zJ] [] p (hwI (F p v1 v2 v3 v4 v5 v6 v7))) : CalOK 2 (CC224 F G) := cal_ok (m := 9) (by unfold mL; rw [mX_224]) (fun as p hg H => h p (ai as 1) (ai as 2) (ai as 3) (ai as 4) (ai as 5) (ai as 6) (ai as 7) hg H)
theorem ok224 : CalOK 2 (CC224 v12_newOrder g12_newOrder) := okr224 v12_newOrder g12_newOrder t12_newOrder
noncomputable def bv12_newTurn (p : PM) (v1 : Int32) : PM :=
  let p1 : PM := pI p 13 23 (v1).toNatClampNeg (p.1 12 1 40)
  let p2 : PM := pI p1 12 1 40 ((p1.1 12 1 40) + (cn 1))
  p2
noncomputable def v12_newTurn (p : PM) (v1 : Int32) : PM := bv12_newTurn p v1
noncomputable def bg12_newTurn (p : PM) (v1 : Int32) : Prop :=
  (inb v1 44) ∧ (
  let p1 : PM := pI p 13 23 (v1).toNatClampNeg (p.1 12 1 40)
  let p2 : PM := pI p1 12 1 40 ((p1.1 12 1 40) + (cn 1))
  True)
noncomputable def g12_newTurn (p : PM) (v1 : Int32) : Prop := bg12_newTurn p v1
def R225 : List Row := [(0, .aload_n 0, 1, 0, (0, 0, 0, 0, 0, 0)), (1, .getfield 96, 3, 0, (12, 31, 16, 2, 23, 0)), (4, .iload_n 1, 1, 0, (0, 0, 0, 0, 0, 0)), (5, .aload_n 0, 1, 0, (0, 0, 0, 0, 0, 0)), (6, .getfield 203, 3, 0, (12, 40, 0, 1, 0, 0)), (9, .iastore, 1, 0, (13, 44, 0, 0, 0, 0)), (10, .aload_n 0, 1, 0, (0, 0, 0, 0, 0, 0)), (11, .dup, 1, 0, (0, 0, 0, 0, 0, 0)), (12, .getfield 203, 3, 0, (12, 40, 0, 1, 0, 0)), (15, .iconst 1, 1, 0, (0, 0, 0, 0, 0, 1)), (16, .iadd, 1, 0, (0, 0, 0, 0, 0, 0)), (17, .putfield 203, 3, 0, (12, 40, 0, 1, 0, 0)), (20, .return_, 1, 0, (0, 0, 0, 0, 0, 0))]
set_option maxRecDepth 100000 in
theorem rk225 : R225.all (rok 2 225 0 []) = true := by decide +kernel
set_option maxRecDepth 100000 in
theorem tab225 : TabOK 2 225 0 [] R225 := tab_ok (K := K225) rfl rfl (fun h => d225 h) rk225 (by decide +kernel)
set_option maxRecDepth 100000 in
theorem pc225 : cutpc [] R225 = true := by decide +kernel
set_option maxRecDepth 100000 in
theorem r12_newTurn : ∀ (p : PM) (v1 : Int32), Gr 2 p → bg12_newTurn p v1 → ZJ 2 225 0 [zR 12 1, zI v1] [] p (hwV (bv12_newTurn p v1)) := by
  intro p v1  hg H
  exact rwV (n := 3000) (q := 0) (la := [zR 12 1, zI v1]) (sa := []) (ks := []) (gs := []) (fnil) tab225 pc225 trivial hg H
theorem t12_newTurn : ∀ (p : PM) (v1 : Int32), Gr 2 p → g12_newTurn p v1 → ZJ 2 225 0 [zR 12 1, zI v1] [] p (hwV (v12_newTurn p v1)) := r12_newTurn
def CC225 (F : PM → Int32 → PM) (G : PM → Int32 → Prop) : Cal := (225, [15, 0], 0, false, fun as p => (zJ, (F p (ai as 1))), fun as p => zsw (tc2 as [(112, 1), (0, 0)]) False (G p (ai as 1)))
set_option maxRecDepth 100000 in
theorem okr225 (F : PM → Int32 → PM) (G : PM → Int32 → Prop) (h : ∀ (p : PM) (v1 : Int32), Gr 2 p → G p v1 → ZJ 2 225 0 [zR 12 1, zI v1] [] p (hwV (F p v1))) : CalOK 2 (CC225 F G) := cal_ok (m := 2) (by unfold mL; rw [mX_225]) (fun as p hg H => h p (ai as 1) hg H)
theorem ok225 : CalOK 2 (CC225 v12_newTurn g12_newTurn) := okr225 v12_newTurn g12_newTurn t12_newTurn
noncomputable def bv12_showsNow (p : PM) (v1 : Int32) : Int32 :=
  if (p.1 13 19 (v1).toNatClampNeg) = (cn 1) then (
    (p.1 13 22 (v1).toNatClampNeg))
  else (
    (p.1 13 17 (v1).toNatClampNeg))
noncomputable def v12_showsNow (p : PM) (v1 : Int32) : Int32 := bv12_showsNow p v1
noncomputable def bg12_showsNow (p : PM) (v1 : Int32) : Prop :=
  (inb v1 44) ∧ (
  if (p.1 13 19 (v1).toNatClampNeg) = (cn 1) then (
    (inb v1 44) ∧ (
    True))
  else (
    (inb v1 44) ∧ (
    True)))
noncomputable def g12_showsNow (p : PM) (v1 : Int32) : Prop := bg12_showsNow p v1
def R226 : List Row := [(0, .aload_n 0, 1, 0, (0, 0, 0, 0, 0, 0)), (1, .getfield 84, 3, 0, (12, 27, 16, 2, 19, 0)), (4, .iload_n 1, 1, 0, (0, 0, 0, 0, 0, 0)), (5, .iaload, 1, 0, (13, 44, 0, 0, 0, 0)), (6, .iconst 1, 1, 0, (0, 0, 0, 0, 0, 1)), (7, .if_icmp .ne 12, 3, 0, (0, 0, 0, 0, 0, 0)), (10, .aload_n 0, 1, 0, (0, 0, 0, 0, 0, 0)), (11, .getfield 93, 3, 0, (12, 30, 16, 2, 22, 0)), (14, .iload_n 1, 1, 0, (0, 0, 0, 0, 0, 0)), (15, .iaload, 1, 0, (13, 44, 0, 0, 0, 0)), (16, .goto 9, 3, 0, (0, 0, 0, 0, 0, 0)), (19, .aload_n 0, 1, 0, (0, 0, 0, 0, 0, 0)), (20, .getfield 75, 3, 0, (12, 24, 16, 2, 17, 0)), (23, .iload_n 1, 1, 0, (0, 0, 0, 0, 0, 0)), (24, .iaload, 1, 0, (13, 44, 0, 0, 0, 0)), (25, .ireturn, 1, 0, (0, 0, 0, 0, 0, 0))]
set_option maxRecDepth 100000 in
theorem rk226 : R226.all (rok 2 226 1 []) = true := by decide +kernel
set_option maxRecDepth 100000 in
theorem tab226 : TabOK 2 226 1 [] R226 := tab_ok (K := K226) rfl rfl (fun h => d226 h) rk226 (by decide +kernel)
set_option maxRecDepth 100000 in
theorem pc226 : cutpc [] R226 = true := by decide +kernel
set_option maxRecDepth 100000 in
theorem r12_showsNow (p : PM) (hg : Gr 2 p) : ∀ (v1 : Int32), bg12_showsNow p v1 → ZJ 2 226 0 [zR 12 1, zI v1] [] p (hoI p (bv12_showsNow p v1)) := by
  intro v1  H
  exact roI (n := 3000) (q := 0) (la := [zR 12 1, zI v1]) (sa := []) (ks := []) (gs := []) (fnil) tab226 pc226 trivial hg H
theorem t12_showsNow (p : PM) (hg : Gr 2 p) : ∀ (v1 : Int32), g12_showsNow p v1 → ZJ 2 226 0 [zR 12 1, zI v1] [] p (hoI p (v12_showsNow p v1)) := r12_showsNow p hg
def CC226 (F : PM → Int32 → Int32) (G : PM → Int32 → Prop) : Cal := (226, [15, 0], 1, true, fun as p => (zI (F p (ai as 1)), p), fun as p => zsw (tc2 as [(112, 1), (0, 0)]) False (G p (ai as 1)))
set_option maxRecDepth 100000 in
theorem okr226 (F : PM → Int32 → Int32) (G : PM → Int32 → Prop) (h : ∀ (p : PM) (v1 : Int32), Gr 2 p → G p v1 → ZJ 2 226 0 [zR 12 1, zI v1] [] p (hoI p (F p v1))) : CalOK 2 (CC226 F G) := cal_ok (m := 2) (by unfold mL; rw [mX_226]) (fun as p hg H => h p (ai as 1) hg H)
theorem ok226 : CalOK 2 (CC226 v12_showsNow g12_showsNow) := okr226 v12_showsNow g12_showsNow (fun p v1 hg H => t12_showsNow p hg v1 H)
noncomputable def bv12_showsAnew (p : PM) (v1 : Int32) : PM :=
  if (p.1 13 21 (v1).toNatClampNeg) < (p.1 13 17 (v1).toNatClampNeg) then (
    let p2 : PM := pI p 13 22 (v1).toNatClampNeg (p.1 13 21 (v1).toNatClampNeg)
    p2)
  else (
    let p1 : PM := pI p 13 22 (v1).toNatClampNeg (p.1 13 17 (v1).toNatClampNeg)
    p1)
noncomputable def v12_showsAnew (p : PM) (v1 : Int32) : PM := bv12_showsAnew p v1
noncomputable def bg12_showsAnew (p : PM) (v1 : Int32) : Prop :=
  (inb v1 44) ∧ (
  (inb v1 44) ∧ (
  if (p.1 13 21 (v1).toNatClampNeg) < (p.1 13 17 (v1).toNatClampNeg) then (
    (inb v1 44) ∧ (
    (inb v1 44) ∧ (
    let p2 : PM := pI p 13 22 (v1).toNatClampNeg (p.1 13 21 (v1).toNatClampNeg)
    True)))
  else (
    (inb v1 44) ∧ (
    (inb v1 44) ∧ (
    let p1 : PM := pI p 13 22 (v1).toNatClampNeg (p.1 13 17 (v1).toNatClampNeg)
    True)))))
noncomputable def g12_showsAnew (p : PM) (v1 : Int32) : Prop := bg12_showsAnew p v1
def R227 : List Row := [(0, .aload_n 0, 1, 0, (0, 0, 0, 0, 0, 0)), (1, .getfield 93, 3, 0, (12, 30, 16, 2, 22, 0)), (4, .iload_n 1, 1, 0, (0, 0, 0, 0, 0, 0)), (5, .aload_n 0, 1, 0, (0, 0, 0, 0, 0, 0)), (6, .getfield 90, 3, 0, (12, 29, 16, 2, 21, 0)), (9, .iload_n 1, 1, 0, (0, 0, 0, 0, 0, 0)), (10, .iaload, 1, 0, (13, 44, 0, 0, 0, 0)), (11, .aload_n 0, 1, 0, (0, 0, 0, 0, 0, 0)), (12, .getfield 75, 3, 0, (12, 24, 16, 2, 17, 0)), (15, .iload_n 1, 1, 0, (0, 0, 0, 0, 0, 0)), (16, .iaload, 1, 0, (13, 44, 0, 0, 0, 0)), (17, .if_icmp .ge 12, 3, 0, (0, 0, 0, 0, 0, 0)), (20, .aload_n 0, 1, 0, (0, 0, 0, 0, 0, 0)), (21, .getfield 90, 3, 0, (12, 29, 16, 2, 21, 0)), (24, .iload_n 1, 1, 0, (0, 0, 0, 0, 0, 0)), (25, .iaload, 1, 0, (13, 44, 0, 0, 0, 0)), (26, .goto 9, 3, 0, (0, 0, 0, 0, 0, 0)), (29, .aload_n 0, 1, 0, (0, 0, 0, 0, 0, 0)), (30, .getfield 75, 3, 0, (12, 24, 16, 2, 17, 0)), (33, .iload_n 1, 1, 0, (0, 0, 0, 0, 0, 0)), (34, .iaload, 1, 0, (13, 44, 0, 0, 0, 0)), (35, .iastore, 1, 0, (13, 44, 0, 0, 0, 0)), (36, .return_, 1, 0, (0, 0, 0, 0, 0, 0))]
set_option maxRecDepth 100000 in
theorem rk227 : R227.all (rok 2 227 0 []) = true := by decide +kernel
set_option maxRecDepth 100000 in
theorem tab227 : TabOK 2 227 0 [] R227 := tab_ok (K := K227) rfl rfl (fun h => d227 h) rk227 (by decide +kernel)
set_option maxRecDepth 100000 in
theorem pc227 : cutpc [] R227 = true := by decide +kernel
set_option maxRecDepth 100000 in
theorem r12_showsAnew : ∀ (p : PM) (v1 : Int32), Gr 2 p → bg12_showsAnew p v1 → ZJ 2 227 0 [zR 12 1, zI v1] [] p (hwV (bv12_showsAnew p v1)) := by
  intro p v1  hg H
  exact rwV (n := 3000) (q := 0) (la := [zR 12 1, zI v1]) (sa := []) (ks := []) (gs := []) (fnil) tab227 pc227 trivial hg H
theorem t12_showsAnew : ∀ (p : PM) (v1 : Int32), Gr 2 p → g12_showsAnew p v1 → ZJ 2 227 0 [zR 12 1, zI v1] [] p (hwV (v12_showsAnew p v1)) := r12_showsAnew
def CC227 (F : PM → Int32 → PM) (G : PM → Int32 → Prop) : Cal := (227, [15, 0], 0, false, fun as p => (zJ, (F p (ai as 1))), fun as p => zsw (tc2 as [(112, 1), (0, 0)]) False (G p (ai as 1)))
set_option maxRecDepth 100000 in
theorem okr227 (F : PM → Int32 → PM) (G : PM → Int32 → Prop) (h : ∀ (p : PM) (v1 : Int32), Gr 2 p → G p v1 → ZJ 2 227 0 [zR 12 1, zI v1] [] p (hwV (F p v1))) : CalOK 2 (CC227 F G) := cal_ok (m := 2) (by unfold mL; rw [mX_227]) (fun as p hg H => h p (ai as 1) hg H)
theorem ok227 : CalOK 2 (CC227 v12_showsAnew g12_showsAnew) := okr227 v12_showsAnew g12_showsAnew t12_showsAnew
noncomputable def bv12_comes (F225 : PM → Int32 → PM) (F227 : PM → Int32 → PM) (p : PM) (v1 : Int32) : PM :=
  let p1 : PM := pI p 13 24 (v1).toNatClampNeg (cn 1)
  let p2 : PM := pI p1 13 25 (v1).toNatClampNeg (p1.1 13 18 (v1).toNatClampNeg)
  let p3 : PM := F227 p2 v1
  let p4 : PM := F225 p3 v1
  p4
noncomputable def v12_comes (p : PM) (v1 : Int32) : PM := bv12_comes v12_newTurn v12_showsAnew p v1
noncomputable def bg12_comes (F225 : PM → Int32 → PM) (G225 : PM → Int32 → Prop) (F227 : PM → Int32 → PM) (G227 : PM → Int32 → Prop) (p : PM) (v1 : Int32) : Prop :=
  (inb v1 44) ∧ (
  let p1 : PM := pI p 13 24 (v1).toNatClampNeg (cn 1)
  (inb v1 44) ∧ (
  (inb v1 44) ∧ (
  let p2 : PM := pI p1 13 25 (v1).toNatClampNeg (p1.1 13 18 (v1).toNatClampNeg)
  (G227 p2 v1) ∧ (
  let p3 : PM := F227 p2 v1
  (G225 p3 v1) ∧ (
  let p4 : PM := F225 p3 v1
  True)))))
noncomputable def g12_comes (p : PM) (v1 : Int32) : Prop := bg12_comes v12_newTurn g12_newTurn v12_showsAnew g12_showsAnew p v1
def R228 : List Row := [(0, .aload_n 0, 1, 0, (0, 0, 0, 0, 0, 0)), (1, .getfield 99, 3, 0, (12, 32, 16, 2, 24, 0)), (4, .iload_n 1, 1, 0, (0, 0, 0, 0, 0, 0)), (5, .iconst 1, 1, 0, (0, 0, 0, 0, 0, 1)), (6, .iastore, 1, 0, (13, 44, 0, 0, 0, 0)), (7, .aload_n 0, 1, 0, (0, 0, 0, 0, 0, 0)), (8, .getfield 102, 3, 0, (12, 33, 16, 2, 25, 0)), (11, .iload_n 1, 1, 0, (0, 0, 0, 0, 0, 0)), (12, .aload_n 0, 1, 0, (0, 0, 0, 0, 0, 0)), (13, .getfield 81, 3, 0, (12, 26, 16, 2, 18, 0)), (16, .iload_n 1, 1, 0, (0, 0, 0, 0, 0, 0)), (17, .iaload, 1, 0, (13, 44, 0, 0, 0, 0)), (18, .iastore, 1, 0, (13, 44, 0, 0, 0, 0)), (19, .aload_n 0, 1, 0, (0, 0, 0, 0, 0, 0)), (20, .iload_n 1, 1, 0, (0, 0, 0, 0, 0, 0)), (21, .invokevirtual 217, 3, 0, (0, 2, 0, 0, 1, 0)), (24, .aload_n 0, 1, 0, (0, 0, 0, 0, 0, 0)), (25, .iload_n 1, 1, 0, (0, 0, 0, 0, 0, 0)), (26, .invokevirtual 221, 3, 0, (1, 2, 0, 0, 1, 0)), (29, .return_, 1, 0, (0, 0, 0, 0, 0, 0))]
set_option maxRecDepth 100000 in
theorem rk228 : R228.all (rok 2 228 0 [(227, [15, 0]), (225, [15, 0])]) = true := by decide +kernel
set_option maxRecDepth 100000 in
theorem tab228 {F227 : PM → Int32 → PM} {G227 : PM → Int32 → Prop} {F225 : PM → Int32 → PM} {G225 : PM → Int32 → Prop} : TabOK 2 228 0 [CC227 F227 G227, CC225 F225 G225] R228 := tab_ok (K := K228) rfl rfl (fun h => d228 h) rk228 (by decide +kernel)
set_option maxRecDepth 100000 in
theorem pc228 : cutpc [] R228 = true := by decide +kernel
set_option maxRecDepth 100000 in
theorem r12_comes (F227 : PM → Int32 → PM) (G227 : PM → Int32 → Prop) (o227 : CalOK 2 (CC227 F227 G227)) (F225 : PM → Int32 → PM) (G225 : PM → Int32 → Prop) (o225 : CalOK 2 (CC225 F225 G225)) : ∀ (p : PM) (v1 : Int32), Gr 2 p → bg12_comes F225 G225 F227 G227 p v1 → ZJ 2 228 0 [zR 12 1, zI v1] [] p (hwV (bv12_comes F225 F227 p v1)) := by
  intro p v1  hg H
  exact rwV (n := 3000) (q := 0) (la := [zR 12 1, zI v1]) (sa := []) (ks := []) (gs := []) (fcons o227 (fcons o225 (fnil))) tab228 pc228 trivial hg H
theorem t12_comes : ∀ (p : PM) (v1 : Int32), Gr 2 p → g12_comes p v1 → ZJ 2 228 0 [zR 12 1, zI v1] [] p (hwV (v12_comes p v1)) := r12_comes v12_showsAnew g12_showsAnew ok227 v12_newTurn g12_newTurn ok225
def CC228 (F : PM → Int32 → PM) (G : PM → Int32 → Prop) : Cal := (228, [15, 0], 0, false, fun as p => (zJ, (F p (ai as 1))), fun as p => zsw (tc2 as [(112, 1), (0, 0)]) False (G p (ai as 1)))
set_option maxRecDepth 100000 in
theorem okr228 (F : PM → Int32 → PM) (G : PM → Int32 → Prop) (h : ∀ (p : PM) (v1 : Int32), Gr 2 p → G p v1 → ZJ 2 228 0 [zR 12 1, zI v1] [] p (hwV (F p v1))) : CalOK 2 (CC228 F G) := cal_ok (m := 2) (by unfold mL; rw [mX_228]) (fun as p hg H => h p (ai as 1) hg H)
theorem ok228 : CalOK 2 (CC228 v12_comes g12_comes) := okr228 v12_comes g12_comes t12_comes
noncomputable def bv12_restsOf_6 (p : PM) (F221 : PM → Int32 → Int32 → Int32) (kv6 : Int32 → Int32 → Int32 → Int32 → Int32 → Int32) (v1 : Int32) (v2 : Int32) (v3 : Int32) (v4 : Int32) (v5 : Int32) : Int32 :=
  if v5 < (cn 44) then (
    if (p.1 15 3 (v5).toNatClampNeg) = 0 then (
      kv6 v1 v2 v3 v4 (v5 + (cn 1)))
    else (
      if (p.1 13 15 (v5).toNatClampNeg) = v1 then (
        if (F221 p (p.1 13 16 (v5).toNatClampNeg) (cn 0)) = v2 then (
          if (p.1 15 4 (v5).toNatClampNeg) = v3 then (
            if (F221 p (p.1 13 16 (v5).toNatClampNeg) (cn 1)) = v2 then (
              if (p.1 15 4 (v5).toNatClampNeg) = v3 then (
                let x4 : Int32 := (v4 + (p.1 13 17 (v5).toNatClampNeg))
                kv6 v1 v2 v3 x4 (v5 + (cn 1)))
              else (
                let x5 : Int32 := (v4 + (p.1 13 17 (v5).toNatClampNeg))
                kv6 v1 v2 v3 x5 (v5 + (cn 1))))
            else (
              let x3 : Int32 := (v4 + (p.1 13 17 (v5).toNatClampNeg))
              kv6 v1 v2 v3 x3 (v5 + (cn 1))))
          else (
            if (F221 p (p.1 13 16 (v5).toNatClampNeg) (cn 1)) = v2 then (
              if (p.1 15 4 (v5).toNatClampNeg) = v3 then (
                kv6 v1 v2 v3 (v4 + (cn 0)) (v5 + (cn 1)))
              else (
                let x2 : Int32 := (v4 + (p.1 13 17 (v5).toNatClampNeg))
                kv6 v1 v2 v3 x2 (v5 + (cn 1))))
            else (
              kv6 v1 v2 v3 (v4 + (cn 0)) (v5 + (cn 1)))))
        else (
          if (F221 p (p.1 13 16 (v5).toNatClampNeg) (cn 1)) = v2 then (
            if (p.1 15 4 (v5).toNatClampNeg) = v3 then (
              kv6 v1 v2 v3 (v4 + (cn 0)) (v5 + (cn 1)))
            else (
              let x1 : Int32 := (v4 + (p.1 13 17 (v5).toNatClampNeg))
              kv6 v1 v2 v3 x1 (v5 + (cn 1))))
          else (
            kv6 v1 v2 v3 (v4 + (cn 0)) (v5 + (cn 1)))))
      else (
        kv6 v1 v2 v3 v4 (v5 + (cn 1)))))
  else (
    v4)
noncomputable def v12_restsOf_6 (p : PM) (n : Nat) : Int32 → Int32 → Int32 → Int32 → Int32 → Int32 := Nat.rec (motive := fun _ => Int32 → Int32 → Int32 → Int32 → Int32 → Int32) (fun _ _ _ _ _ => 0) (fun _ ih => bv12_restsOf_6 p v12_contractOf ih) n
theorem ev12_restsOf_6 (p : PM) (n : Nat) (v1 : Int32) (v2 : Int32) (v3 : Int32) (v4 : Int32) (v5 : Int32) : v12_restsOf_6 p (n + 1) v1 v2 v3 v4 v5 = bv12_restsOf_6 p v12_contractOf (v12_restsOf_6 p n) v1 v2 v3 v4 v5 := rfl
noncomputable def bg12_restsOf_6 (p : PM) (F221 : PM → Int32 → Int32 → Int32) (G221 : PM → Int32 → Int32 → Prop) (kg6 : Int32 → Int32 → Int32 → Int32 → Int32 → Prop) (v1 : Int32) (v2 : Int32) (v3 : Int32) (v4 : Int32) (v5 : Int32) : Prop :=
  if v5 < (cn 44) then (
    (inb v5 44) ∧ (
    if (p.1 15 3 (v5).toNatClampNeg) = 0 then (
      kg6 v1 v2 v3 v4 (v5 + (cn 1)))
    else (
      (inb v5 44) ∧ (
      if (p.1 13 15 (v5).toNatClampNeg) = v1 then (
        (inb v5 44) ∧ (
        (G221 p (p.1 13 16 (v5).toNatClampNeg) (cn 0)) ∧ (
        if (F221 p (p.1 13 16 (v5).toNatClampNeg) (cn 0)) = v2 then (
          (inb v5 44) ∧ (
          if (p.1 15 4 (v5).toNatClampNeg) = v3 then (
            (inb v5 44) ∧ (
            (G221 p (p.1 13 16 (v5).toNatClampNeg) (cn 1)) ∧ (
            if (F221 p (p.1 13 16 (v5).toNatClampNeg) (cn 1)) = v2 then (
              (inb v5 44) ∧ (
              if (p.1 15 4 (v5).toNatClampNeg) = v3 then (
                (inb v5 44) ∧ (
                let x4 : Int32 := (v4 + (p.1 13 17 (v5).toNatClampNeg))
                kg6 v1 v2 v3 x4 (v5 + (cn 1))))
              else (
                (inb v5 44) ∧ (
                let x5 : Int32 := (v4 + (p.1 13 17 (v5).toNatClampNeg))
                kg6 v1 v2 v3 x5 (v5 + (cn 1))))))
            else (
              (inb v5 44) ∧ (
              let x3 : Int32 := (v4 + (p.1 13 17 (v5).toNatClampNeg))
              kg6 v1 v2 v3 x3 (v5 + (cn 1)))))))
          else (
            (inb v5 44) ∧ (
            (G221 p (p.1 13 16 (v5).toNatClampNeg) (cn 1)) ∧ (
            if (F221 p (p.1 13 16 (v5).toNatClampNeg) (cn 1)) = v2 then (
              (inb v5 44) ∧ (
              if (p.1 15 4 (v5).toNatClampNeg) = v3 then (
                kg6 v1 v2 v3 (v4 + (cn 0)) (v5 + (cn 1)))
              else (
                (inb v5 44) ∧ (
                let x2 : Int32 := (v4 + (p.1 13 17 (v5).toNatClampNeg))
                kg6 v1 v2 v3 x2 (v5 + (cn 1))))))
            else (
              kg6 v1 v2 v3 (v4 + (cn 0)) (v5 + (cn 1))))))))
        else (
          (inb v5 44) ∧ (
          (G221 p (p.1 13 16 (v5).toNatClampNeg) (cn 1)) ∧ (
          if (F221 p (p.1 13 16 (v5).toNatClampNeg) (cn 1)) = v2 then (
            (inb v5 44) ∧ (
            if (p.1 15 4 (v5).toNatClampNeg) = v3 then (
              kg6 v1 v2 v3 (v4 + (cn 0)) (v5 + (cn 1)))
            else (
              (inb v5 44) ∧ (
              let x1 : Int32 := (v4 + (p.1 13 17 (v5).toNatClampNeg))
              kg6 v1 v2 v3 x1 (v5 + (cn 1))))))
          else (
            kg6 v1 v2 v3 (v4 + (cn 0)) (v5 + (cn 1)))))))))
      else (
        kg6 v1 v2 v3 v4 (v5 + (cn 1)))))))
  else (
    True)
noncomputable def g12_restsOf_6 (p : PM) (n : Nat) : Int32 → Int32 → Int32 → Int32 → Int32 → Prop := Nat.rec (motive := fun _ => Int32 → Int32 → Int32 → Int32 → Int32 → Prop) (fun _ _ _ _ _ => False) (fun _ ih => bg12_restsOf_6 p v12_contractOf g12_contractOf ih) n
theorem eg12_restsOf_6 (p : PM) (n : Nat) (v1 : Int32) (v2 : Int32) (v3 : Int32) (v4 : Int32) (v5 : Int32) : g12_restsOf_6 p (n + 1) v1 v2 v3 v4 v5 = bg12_restsOf_6 p v12_contractOf g12_contractOf (g12_restsOf_6 p n) v1 v2 v3 v4 v5 := rfl
noncomputable def bv12_restsOf (p : PM) (kv6 : Int32 → Int32 → Int32 → Int32 → Int32 → Int32) (v1 : Int32) (v2 : Int32) (v3 : Int32) : Int32 :=
  kv6 v1 v2 v3 (cn 0) (cn 0)
noncomputable def v12_restsOf (p : PM) (v1 : Int32) (v2 : Int32) (v3 : Int32) : Int32 := bv12_restsOf p (v12_restsOf_6 p FU) v1 v2 v3
noncomputable def bg12_restsOf (p : PM) (kg6 : Int32 → Int32 → Int32 → Int32 → Int32 → Prop) (v1 : Int32) (v2 : Int32) (v3 : Int32) : Prop :=
  kg6 v1 v2 v3 (cn 0) (cn 0)
noncomputable def g12_restsOf (p : PM) (v1 : Int32) (v2 : Int32) (v3 : Int32) : Prop := bg12_restsOf p (g12_restsOf_6 p FU) v1 v2 v3
def R229 : List Row := [(0, .iconst 0, 1, 0, (0, 0, 0, 0, 0, 0)), (1, .istore 4, 2, 0, (0, 0, 0, 0, 0, 0)), (3, .iconst 0, 1, 0, (0, 0, 0, 0, 0, 0)), (4, .istore 5, 2, 0, (0, 0, 0, 0, 0, 0)), (6, .iload 5, 2, 1, (0, 0, 0, 0, 0, 0)), (8, .bipush 44, 2, 0, (0, 0, 0, 0, 0, 44)), (10, .if_icmp .ge 122, 3, 0, (0, 0, 0, 0, 0, 0)), (13, .aload_n 0, 1, 0, (0, 0, 0, 0, 0, 0)), (14, .getfield 60, 3, 0, (12, 19, 18, 2, 3, 0)), (17, .iload 5, 2, 0, (0, 0, 0, 0, 0, 0)), (19, .baload, 1, 0, (15, 44, 0, 0, 0, 0)), (20, .ifCond .eq 106, 3, 0, (0, 0, 0, 0, 0, 0)), (23, .aload_n 0, 1, 0, (0, 0, 0, 0, 0, 0)), (24, .getfield 66, 3, 0, (12, 21, 16, 2, 15, 0)), (27, .iload 5, 2, 0, (0, 0, 0, 0, 0, 0)), (29, .iaload, 1, 0, (13, 44, 0, 0, 0, 0)), (30, .iload_n 1, 1, 0, (0, 0, 0, 0, 0, 0)), (31, .if_icmp .ne 95, 3, 0, (0, 0, 0, 0, 0, 0)), (34, .aload_n 0, 1, 0, (0, 0, 0, 0, 0, 0)), (35, .getfield 69, 3, 0, (12, 22, 16, 2, 16, 0)), (38, .iload 5, 2, 0, (0, 0, 0, 0, 0, 0)), (40, .iaload, 1, 0, (13, 44, 0, 0, 0, 0)), (41, .iconst 0, 1, 0, (0, 0, 0, 0, 0, 0)), (42, .invokestatic 224, 3, 0, (0, 2, 0, 0, 0, 0)), (45, .iload_n 2, 1, 0, (0, 0, 0, 0, 0, 0)), (46, .if_icmp .ne 18, 3, 0, (0, 0, 0, 0, 0, 0)), (49, .aload_n 0, 1, 0, (0, 0, 0, 0, 0, 0)), (50, .getfield 72, 3, 0, (12, 23, 18, 2, 4, 0)), (53, .iload 5, 2, 0, (0, 0, 0, 0, 0, 0)), (55, .baload, 1, 0, (15, 44, 0, 0, 0, 0)), (56, .iload_n 3, 1, 0, (0, 0, 0, 0, 0, 0)), (57, .if_icmp .ne 7, 3, 0, (0, 0, 0, 0, 0, 0)), (60, .iconst 1, 1, 0, (0, 0, 0, 0, 0, 1)), (61, .goto 4, 3, 0, (0, 0, 0, 0, 0, 0)), (64, .iconst 0, 1, 0, (0, 0, 0, 0, 0, 0)), (65, .istore 6, 2, 0, (0, 0, 0, 0, 0, 0)), (67, .aload_n 0, 1, 0, (0, 0, 0, 0, 0, 0)), (68, .getfield 69, 3, 0, (12, 22, 16, 2, 16, 0)), (71, .iload 5, 2, 0, (0, 0, 0, 0, 0, 0)), (73, .iaload, 1, 0, (13, 44, 0, 0, 0, 0)), (74, .iconst 1, 1, 0, (0, 0, 0, 0, 0, 1)), (75, .invokestatic 224, 3, 0, (0, 2, 0, 0, 0, 0)), (78, .iload_n 2, 1, 0, (0, 0, 0, 0, 0, 0)), (79, .if_icmp .ne 18, 3, 0, (0, 0, 0, 0, 0, 0)), (82, .aload_n 0, 1, 0, (0, 0, 0, 0, 0, 0)), (83, .getfield 72, 3, 0, (12, 23, 18, 2, 4, 0)), (86, .iload 5, 2, 0, (0, 0, 0, 0, 0, 0)), (88, .baload, 1, 0, (15, 44, 0, 0, 0, 0)), (89, .iload_n 3, 1, 0, (0, 0, 0, 0, 0, 0)), (90, .if_icmp .eq 7, 3, 0, (0, 0, 0, 0, 0, 0)), (93, .iconst 1, 1, 0, (0, 0, 0, 0, 0, 1)), (94, .goto 4, 3, 0, (0, 0, 0, 0, 0, 0)), (97, .iconst 0, 1, 0, (0, 0, 0, 0, 0, 0)), (98, .istore 7, 2, 0, (0, 0, 0, 0, 0, 0)), (100, .iload 4, 2, 0, (0, 0, 0, 0, 0, 0)), (102, .iload 6, 2, 0, (0, 0, 0, 0, 0, 0)), (104, .ifCond .ne 8, 3, 0, (0, 0, 0, 0, 0, 0)), (107, .iload 7, 2, 0, (0, 0, 0, 0, 0, 0)), (109, .ifCond .eq 13, 3, 0, (0, 0, 0, 0, 0, 0)), (112, .aload_n 0, 1, 0, (0, 0, 0, 0, 0, 0)), (113, .getfield 75, 3, 0, (12, 24, 16, 2, 17, 0)), (116, .iload 5, 2, 0, (0, 0, 0, 0, 0, 0)), (118, .iaload, 1, 0, (13, 44, 0, 0, 0, 0)), (119, .goto 4, 3, 0, (0, 0, 0, 0, 0, 0)), (122, .iconst 0, 1, 0, (0, 0, 0, 0, 0, 0)), (123, .iadd, 1, 0, (0, 0, 0, 0, 0, 0)), (124, .istore 4, 2, 0, (0, 0, 0, 0, 0, 0)), (126, .iinc 5 1, 3, 0, (0, 0, 0, 0, 0, 1)), (129, .goto (-123), 3, 0, (0, 0, 0, 0, 0, 0)), (132, .iload 4, 2, 0, (0, 0, 0, 0, 0, 0)), (134, .ireturn, 1, 0, (0, 0, 0, 0, 0, 0))]
set_option maxRecDepth 100000 in
theorem rk229 : R229.all (rok 2 229 1 [(221, [0, 0])]) = true := by decide +kernel
set_option maxRecDepth 100000 in
theorem tab229 {F221 : PM → Int32 → Int32 → Int32} {G221 : PM → Int32 → Int32 → Prop} : TabOK 2 229 1 [CC221 F221 G221] R229 := tab_ok (K := K229) rfl rfl (fun h => d229 h) rk229 (by decide +kernel)
set_option maxRecDepth 100000 in
theorem pc229 : cutpc [6] R229 = true := by decide +kernel
set_option maxRecDepth 100000 in
theorem r12_restsOf_6 (p : PM) (hg : Gr 2 p) (F221 : PM → Int32 → Int32 → Int32) (G221 : PM → Int32 → Int32 → Prop) (o221 : CalOK 2 (CC221 F221 G221)) (kv6 : Int32 → Int32 → Int32 → Int32 → Int32 → Int32) (kg6 : Int32 → Int32 → Int32 → Int32 → Int32 → Prop) (hk6 : ∀ (v1 : Int32) (v2 : Int32) (v3 : Int32) (v4 : Int32) (v5 : Int32) (d6 d7 : ZV), kg6 v1 v2 v3 v4 v5 → ZJ 2 229 6 [zR 12 1, zI v1, zI v2, zI v3, zI v4, zI v5, d6, d7] [] p (hoI p (kv6 v1 v2 v3 v4 v5))) : ∀ (v1 : Int32) (v2 : Int32) (v3 : Int32) (v4 : Int32) (v5 : Int32) (d6 d7 : ZV), bg12_restsOf_6 p F221 G221 kg6 v1 v2 v3 v4 v5 → ZJ 2 229 6 [zR 12 1, zI v1, zI v2, zI v3, zI v4, zI v5, d6, d7] [] p (hoI p (bv12_restsOf_6 p F221 kv6 v1 v2 v3 v4 v5)) := by
  intro v1 v2 v3 v4 v5 d6 d7 H
  exact roI (n := 3000) (q := 6) (la := [zR 12 1, zI v1, zI v2, zI v3, zI v4, zI v5, d6, d7]) (sa := []) (ks := [fun la sa _ => kv6 (ai la 1) (ai la 2) (ai la 3) (ai la 4) (ai la 5)]) (gs := [fun la sa _ => zsw (tc2 la [(112, 1), (0, 0), (0, 0), (0, 0), (0, 0), (0, 0), (2, 0), (2, 0)] && tc2 sa []) False (kg6 (ai la 1) (ai la 2) (ai la 3) (ai la 4) (ai la 5))]) (fcons o221 (fnil)) tab229 pc229 ⟨fun la sa s hg H => zcut H fun H => hk6 (ai la 1) (ai la 2) (ai la 3) (ai la 4) (ai la 5) (zld la 6) (zld la 7) H, trivial⟩ hg H
theorem t12_restsOf_6 (p : PM) (hg : Gr 2 p) : ∀ (n : Nat), ∀ (v1 : Int32) (v2 : Int32) (v3 : Int32) (v4 : Int32) (v5 : Int32) (d6 d7 : ZV), g12_restsOf_6 p n v1 v2 v3 v4 v5 → ZJ 2 229 6 [zR 12 1, zI v1, zI v2, zI v3, zI v4, zI v5, d6, d7] [] p (hoI p (v12_restsOf_6 p n v1 v2 v3 v4 v5)) := by
  intro n
  induction n with
  | zero =>
    intro v1 v2 v3 v4 v5 d6 d7 H
    exact H.elim
  | succ n ih => exact r12_restsOf_6 p hg v12_contractOf g12_contractOf ok221 (v12_restsOf_6 p n) (g12_restsOf_6 p n) ih
set_option maxRecDepth 100000 in
theorem r12_restsOf (p : PM) (hg : Gr 2 p) (F221 : PM → Int32 → Int32 → Int32) (G221 : PM → Int32 → Int32 → Prop) (o221 : CalOK 2 (CC221 F221 G221)) (kv6 : Int32 → Int32 → Int32 → Int32 → Int32 → Int32) (kg6 : Int32 → Int32 → Int32 → Int32 → Int32 → Prop) (hk6 : ∀ (v1 : Int32) (v2 : Int32) (v3 : Int32) (v4 : Int32) (v5 : Int32) (d6 d7 : ZV), kg6 v1 v2 v3 v4 v5 → ZJ 2 229 6 [zR 12 1, zI v1, zI v2, zI v3, zI v4, zI v5, d6, d7] [] p (hoI p (kv6 v1 v2 v3 v4 v5))) : ∀ (v1 : Int32) (v2 : Int32) (v3 : Int32), bg12_restsOf p kg6 v1 v2 v3 → ZJ 2 229 0 [zR 12 1, zI v1, zI v2, zI v3, zJ, zJ, zJ, zJ] [] p (hoI p (bv12_restsOf p kv6 v1 v2 v3)) := by
  intro v1 v2 v3  H
  exact roI (n := 3000) (q := 0) (la := [zR 12 1, zI v1, zI v2, zI v3, zJ, zJ, zJ, zJ]) (sa := []) (ks := [fun la sa _ => kv6 (ai la 1) (ai la 2) (ai la 3) (ai la 4) (ai la 5)]) (gs := [fun la sa _ => zsw (tc2 la [(112, 1), (0, 0), (0, 0), (0, 0), (0, 0), (0, 0), (2, 0), (2, 0)] && tc2 sa []) False (kg6 (ai la 1) (ai la 2) (ai la 3) (ai la 4) (ai la 5))]) (fcons o221 (fnil)) tab229 pc229 ⟨fun la sa s hg H => zcut H fun H => hk6 (ai la 1) (ai la 2) (ai la 3) (ai la 4) (ai la 5) (zld la 6) (zld la 7) H, trivial⟩ hg H
theorem t12_restsOf (p : PM) (hg : Gr 2 p) : ∀ (v1 : Int32) (v2 : Int32) (v3 : Int32), g12_restsOf p v1 v2 v3 → ZJ 2 229 0 [zR 12 1, zI v1, zI v2, zI v3, zJ, zJ, zJ, zJ] [] p (hoI p (v12_restsOf p v1 v2 v3)) := r12_restsOf p hg v12_contractOf g12_contractOf ok221 (v12_restsOf_6 p FU) (g12_restsOf_6 p FU) (t12_restsOf_6 p hg FU)
def CC229 (F : PM → Int32 → Int32 → Int32 → Int32) (G : PM → Int32 → Int32 → Int32 → Prop) : Cal := (229, [15, 0, 0, 0], 1, true, fun as p => (zI (F p (ai as 1) (ai as 2) (ai as 3)), p), fun as p => zsw (tc2 as [(112, 1), (0, 0), (0, 0), (0, 0)]) False (G p (ai as 1) (ai as 2) (ai as 3)))
set_option maxRecDepth 100000 in
theorem okr229 (F : PM → Int32 → Int32 → Int32 → Int32) (G : PM → Int32 → Int32 → Int32 → Prop) (h : ∀ (p : PM) (v1 : Int32) (v2 : Int32) (v3 : Int32), Gr 2 p → G p v1 v2 v3 → ZJ 2 229 0 [zR 12 1, zI v1, zI v2, zI v3, zJ, zJ, zJ, zJ] [] p (hoI p (F p v1 v2 v3))) : CalOK 2 (CC229 F G) := cal_ok (m := 8) (by unfold mL; rw [mX_229]) (fun as p hg H => h p (ai as 1) (ai as 2) (ai as 3) hg H)
theorem ok229 : CalOK 2 (CC229 v12_restsOf g12_restsOf) := okr229 v12_restsOf g12_restsOf (fun p v1 v2 v3 hg H => t12_restsOf p hg v1 v2 v3 H)
noncomputable def bv12_isOver (p : PM) (F229 : PM → Int32 → Int32 → Int32 → Int32) (v1 : Int32) (v2 : Int32) (v3 : Int32) (v4 : Int32) : Int32 :=
  let x1 : Int64 := ((p.1 13 1 ((((cn 4) * v1) + v2)).toNatClampNeg)).toInt64
  if v3 = 0 then (
    let x2 : Int64 := (((-x1) + ((F229 p v1 v2 v3)).toInt64) + (v4).toInt64)
    if 0 < (lg_cmp x2 ((p.1 13 2 ((((cn 4) * v1) + v2)).toNatClampNeg)).toInt64) then (
      (cn 1))
    else (
      (cn 0)))
  else (
    let x3 : Int64 := ((x1 + ((F229 p v1 v2 v3)).toInt64) + (v4).toInt64)
    if 0 < (lg_cmp x3 ((p.1 13 2 ((((cn 4) * v1) + v2)).toNatClampNeg)).toInt64) then (
      (cn 1))
    else (
      (cn 0)))
noncomputable def v12_isOver (p : PM) (v1 : Int32) (v2 : Int32) (v3 : Int32) (v4 : Int32) : Int32 := bv12_isOver p v12_restsOf v1 v2 v3 v4
noncomputable def bg12_isOver (p : PM) (F229 : PM → Int32 → Int32 → Int32 → Int32) (G229 : PM → Int32 → Int32 → Int32 → Prop) (v1 : Int32) (v2 : Int32) (v3 : Int32) (v4 : Int32) : Prop :=
  (inb (((cn 4) * v1) + v2) 36) ∧ (
  let x1 : Int64 := ((p.1 13 1 ((((cn 4) * v1) + v2)).toNatClampNeg)).toInt64
  if v3 = 0 then (
    (G229 p v1 v2 v3) ∧ (
    let x2 : Int64 := (((-x1) + ((F229 p v1 v2 v3)).toInt64) + (v4).toInt64)
    (inb (((cn 4) * v1) + v2) 32) ∧ (
    if 0 < (lg_cmp x2 ((p.1 13 2 ((((cn 4) * v1) + v2)).toNatClampNeg)).toInt64) then (
      True)
    else (
      True))))
  else (
    (G229 p v1 v2 v3) ∧ (
    let x3 : Int64 := ((x1 + ((F229 p v1 v2 v3)).toInt64) + (v4).toInt64)
    (inb (((cn 4) * v1) + v2) 32) ∧ (
    if 0 < (lg_cmp x3 ((p.1 13 2 ((((cn 4) * v1) + v2)).toNatClampNeg)).toInt64) then (
      True)
    else (
      True)))))
noncomputable def g12_isOver (p : PM) (v1 : Int32) (v2 : Int32) (v3 : Int32) (v4 : Int32) : Prop := bg12_isOver p v12_restsOf g12_restsOf v1 v2 v3 v4
def R230 : List Row := [(0, .aload_n 0, 1, 0, (0, 0, 0, 0, 0, 0)), (1, .getfield 7, 3, 0, (12, 1, 16, 2, 1, 0)), (4, .iconst 4, 1, 0, (0, 0, 0, 0, 0, 4)), (5, .iload_n 1, 1, 0, (0, 0, 0, 0, 0, 0)), (6, .imul, 1, 0, (0, 0, 0, 0, 0, 0)), (7, .iload_n 2, 1, 0, (0, 0, 0, 0, 0, 0)), (8, .iadd, 1, 0, (0, 0, 0, 0, 0, 0)), (9, .iaload, 1, 0, (13, 36, 0, 0, 0, 0)), (10, .i2l, 1, 0, (0, 0, 0, 0, 0, 0)), (11, .lstore 5, 2, 0, (0, 0, 0, 0, 0, 0)), (13, .iload_n 3, 1, 0, (0, 0, 0, 0, 0, 0)), (14, .ifCond .eq 8, 3, 0, (0, 0, 0, 0, 0, 0)), (17, .lload 5, 2, 0, (0, 0, 0, 0, 0, 0)), (19, .goto 6, 3, 0, (0, 0, 0, 0, 0, 0)), (22, .lload 5, 2, 0, (0, 0, 0, 0, 0, 0)), (24, .lneg, 1, 0, (0, 0, 0, 0, 0, 0)), (25, .aload_n 0, 1, 0, (0, 0, 0, 0, 0, 0)), (26, .iload_n 1, 1, 0, (0, 0, 0, 0, 0, 0)), (27, .iload_n 2, 1, 0, (0, 0, 0, 0, 0, 0)), (28, .iload_n 3, 1, 0, (0, 0, 0, 0, 0, 0)), (29, .invokevirtual 228, 3, 0, (0, 4, 0, 0, 1, 0)), (32, .i2l, 1, 0, (0, 0, 0, 0, 0, 0)), (33, .ladd, 1, 0, (0, 0, 0, 0, 0, 0)), (34, .iload 4, 2, 0, (0, 0, 0, 0, 0, 0)), (36, .i2l, 1, 0, (0, 0, 0, 0, 0, 0)), (37, .ladd, 1, 0, (0, 0, 0, 0, 0, 0)), (38, .lstore 7, 2, 0, (0, 0, 0, 0, 0, 0)), (40, .lload 7, 2, 0, (0, 0, 0, 0, 0, 0)), (42, .aload_n 0, 1, 0, (0, 0, 0, 0, 0, 0)), (43, .getfield 17, 3, 0, (12, 3, 16, 2, 2, 0)), (46, .iconst 4, 1, 0, (0, 0, 0, 0, 0, 4)), (47, .iload_n 1, 1, 0, (0, 0, 0, 0, 0, 0)), (48, .imul, 1, 0, (0, 0, 0, 0, 0, 0)), (49, .iload_n 2, 1, 0, (0, 0, 0, 0, 0, 0)), (50, .iadd, 1, 0, (0, 0, 0, 0, 0, 0)), (51, .iaload, 1, 0, (13, 32, 0, 0, 0, 0)), (52, .i2l, 1, 0, (0, 0, 0, 0, 0, 0)), (53, .lcmp, 1, 0, (0, 0, 0, 0, 0, 0)), (54, .ifCond .le 7, 3, 0, (0, 0, 0, 0, 0, 0)), (57, .iconst 1, 1, 0, (0, 0, 0, 0, 0, 1)), (58, .goto 4, 3, 0, (0, 0, 0, 0, 0, 0)), (61, .iconst 0, 1, 0, (0, 0, 0, 0, 0, 0)), (62, .ireturn, 1, 0, (1, 0, 0, 0, 0, 0))]
set_option maxRecDepth 100000 in
theorem rk230 : R230.all (rok 2 230 1 [(229, [15, 0, 0, 0])]) = true := by decide +kernel
set_option maxRecDepth 100000 in
theorem tab230 {F229 : PM → Int32 → Int32 → Int32 → Int32} {G229 : PM → Int32 → Int32 → Int32 → Prop} : TabOK 2 230 1 [CC229 F229 G229] R230 := tab_ok (K := K230) rfl rfl (fun h => d230 h) rk230 (by decide +kernel)
set_option maxRecDepth 100000 in
theorem pc230 : cutpc [] R230 = true := by decide +kernel
set_option maxRecDepth 100000 in
theorem r12_isOver (p : PM) (hg : Gr 2 p) (F229 : PM → Int32 → Int32 → Int32 → Int32) (G229 : PM → Int32 → Int32 → Int32 → Prop) (o229 : CalOK 2 (CC229 F229 G229)) : ∀ (v1 : Int32) (v2 : Int32) (v3 : Int32) (v4 : Int32), bg12_isOver p F229 G229 v1 v2 v3 v4 → ZJ 2 230 0 [zR 12 1, zI v1, zI v2, zI v3, zI v4, zJ, zJ, zJ, zJ] [] p (hoI p (bv12_isOver p F229 v1 v2 v3 v4)) := by
  intro v1 v2 v3 v4  H
  exact roI (n := 3000) (q := 0) (la := [zR 12 1, zI v1, zI v2, zI v3, zI v4, zJ, zJ, zJ, zJ]) (sa := []) (ks := []) (gs := []) (fcons o229 (fnil)) tab230 pc230 trivial hg H
theorem t12_isOver (p : PM) (hg : Gr 2 p) : ∀ (v1 : Int32) (v2 : Int32) (v3 : Int32) (v4 : Int32), g12_isOver p v1 v2 v3 v4 → ZJ 2 230 0 [zR 12 1, zI v1, zI v2, zI v3, zI v4, zJ, zJ, zJ, zJ] [] p (hoI p (v12_isOver p v1 v2 v3 v4)) := r12_isOver p hg v12_restsOf g12_restsOf ok229
def CC230 (F : PM → Int32 → Int32 → Int32 → Int32 → Int32) (G : PM → Int32 → Int32 → Int32 → Int32 → Prop) : Cal := (230, [15, 0, 0, 0, 0], 1, true, fun as p => (zI (F p (ai as 1) (ai as 2) (ai as 3) (ai as 4)), p), fun as p => zsw (tc2 as [(112, 1), (0, 0), (0, 0), (0, 0), (0, 0)]) False (G p (ai as 1) (ai as 2) (ai as 3) (ai as 4)))
set_option maxRecDepth 100000 in
theorem okr230 (F : PM → Int32 → Int32 → Int32 → Int32 → Int32) (G : PM → Int32 → Int32 → Int32 → Int32 → Prop) (h : ∀ (p : PM) (v1 : Int32) (v2 : Int32) (v3 : Int32) (v4 : Int32), Gr 2 p → G p v1 v2 v3 v4 → ZJ 2 230 0 [zR 12 1, zI v1, zI v2, zI v3, zI v4, zJ, zJ, zJ, zJ] [] p (hoI p (F p v1 v2 v3 v4))) : CalOK 2 (CC230 F G) := cal_ok (m := 9) (by unfold mL; rw [mX_230]) (fun as p hg H => h p (ai as 1) (ai as 2) (ai as 3) (ai as 4) hg H)
theorem ok230 : CalOK 2 (CC230 v12_isOver g12_isOver) := okr230 v12_isOver g12_isOver (fun p v1 v2 v3 v4 hg H => t12_isOver p hg v1 v2 v3 v4 H)
noncomputable def bv12_isRefused (p : PM) (F216 : PM → Int32 → Int32) (F221 : PM → Int32 → Int32 → Int32) (F230 : PM → Int32 → Int32 → Int32 → Int32 → Int32) (v1 : Int32) (v2 : Int32) (v3 : Int32) : Int32 :=
  let x1 : Int32 := (F221 p v2 (cn 1))
  if 0 < v3 then (
    if (F230 p v1 (F221 p v2 (cn 0)) (cn 1) (F216 p v3)) = 0 then (
      if x1 < 0 then (
        (cn 0))
      else (
        if v3 < 0 then (
          if (F230 p v1 x1 (cn 1) (F216 p v3)) = 0 then (
            (cn 0))
          else (
            (cn 1)))
        else (
          if (F230 p v1 x1 (cn 0) (F216 p v3)) = 0 then (
            (cn 0))
          else (
            (cn 1)))))
    else (
      (cn 1)))
  else (
    if (F230 p v1 (F221 p v2 (cn 0)) (cn 0) (F216 p v3)) = 0 then (
      if x1 < 0 then (
        (cn 0))
      else (
        if v3 < 0 then (
          if (F230 p v1 x1 (cn 1) (F216 p v3)) = 0 then (
            (cn 0))
          else (
            (cn 1)))
        else (
          if (F230 p v1 x1 (cn 0) (F216 p v3)) = 0 then (
            (cn 0))
          else (
            (cn 1)))))
    else (
      (cn 1)))
noncomputable def v12_isRefused (p : PM) (v1 : Int32) (v2 : Int32) (v3 : Int32) : Int32 := bv12_isRefused p v12_abs v12_contractOf v12_isOver v1 v2 v3
noncomputable def bg12_isRefused (p : PM) (F216 : PM → Int32 → Int32) (G216 : PM → Int32 → Prop) (F221 : PM → Int32 → Int32 → Int32) (G221 : PM → Int32 → Int32 → Prop) (F230 : PM → Int32 → Int32 → Int32 → Int32 → Int32) (G230 : PM → Int32 → Int32 → Int32 → Int32 → Prop) (v1 : Int32) (v2 : Int32) (v3 : Int32) : Prop :=
  (G216 p v3) ∧ (
  (G221 p v2 (cn 1)) ∧ (
  let x1 : Int32 := (F221 p v2 (cn 1))
  (G221 p v2 (cn 0)) ∧ (
  if 0 < v3 then (
    (G230 p v1 (F221 p v2 (cn 0)) (cn 1) (F216 p v3)) ∧ (
    if (F230 p v1 (F221 p v2 (cn 0)) (cn 1) (F216 p v3)) = 0 then (
      if x1 < 0 then (
        True)
      else (
        if v3 < 0 then (
          (G230 p v1 x1 (cn 1) (F216 p v3)) ∧ (
          if (F230 p v1 x1 (cn 1) (F216 p v3)) = 0 then (
            True)
          else (
            True)))
        else (
          (G230 p v1 x1 (cn 0) (F216 p v3)) ∧ (
          if (F230 p v1 x1 (cn 0) (F216 p v3)) = 0 then (
            True)
          else (
            True)))))
    else (
      True)))
  else (
    (G230 p v1 (F221 p v2 (cn 0)) (cn 0) (F216 p v3)) ∧ (
    if (F230 p v1 (F221 p v2 (cn 0)) (cn 0) (F216 p v3)) = 0 then (
      if x1 < 0 then (
        True)
      else (
        if v3 < 0 then (
          (G230 p v1 x1 (cn 1) (F216 p v3)) ∧ (
          if (F230 p v1 x1 (cn 1) (F216 p v3)) = 0 then (
            True)
          else (
            True)))
        else (
          (G230 p v1 x1 (cn 0) (F216 p v3)) ∧ (
          if (F230 p v1 x1 (cn 0) (F216 p v3)) = 0 then (
            True)
          else (
            True)))))
    else (
      True))))))
noncomputable def g12_isRefused (p : PM) (v1 : Int32) (v2 : Int32) (v3 : Int32) : Prop := bg12_isRefused p v12_abs g12_abs v12_contractOf g12_contractOf v12_isOver g12_isOver v1 v2 v3
def R231 : List Row := [(0, .iload_n 3, 1, 0, (0, 0, 0, 0, 0, 0)), (1, .invokestatic 213, 3, 0, (0, 1, 0, 0, 0, 0)), (4, .istore 4, 2, 0, (0, 0, 0, 0, 0, 0)), (6, .iload_n 2, 1, 0, (0, 0, 0, 0, 0, 0)), (7, .iconst 1, 1, 0, (0, 0, 0, 0, 0, 1)), (8, .invokestatic 224, 3, 0, (1, 2, 0, 0, 0, 0)), (11, .istore 5, 2, 0, (0, 0, 0, 0, 0, 0)), (13, .aload_n 0, 1, 0, (0, 0, 0, 0, 0, 0)), (14, .iload_n 1, 1, 0, (0, 0, 0, 0, 0, 0)), (15, .iload_n 2, 1, 0, (0, 0, 0, 0, 0, 0)), (16, .iconst 0, 1, 0, (0, 0, 0, 0, 0, 0)), (17, .invokestatic 224, 3, 0, (1, 2, 0, 0, 0, 0)), (20, .iload_n 3, 1, 0, (0, 0, 0, 0, 0, 0)), (21, .ifCond .le 7, 3, 0, (0, 0, 0, 0, 0, 0)), (24, .iconst 1, 1, 0, (0, 0, 0, 0, 0, 1)), (25, .goto 4, 3, 0, (0, 0, 0, 0, 0, 0)), (28, .iconst 0, 1, 0, (0, 0, 0, 0, 0, 0)), (29, .iload 4, 2, 0, (0, 0, 0, 0, 0, 0)), (31, .invokevirtual 232, 3, 0, (2, 5, 0, 0, 1, 0)), (34, .ifCond .ne 29, 3, 0, (0, 0, 0, 0, 0, 0)), (37, .iload 5, 2, 0, (0, 0, 0, 0, 0, 0)), (39, .ifCond .lt 28, 3, 0, (0, 0, 0, 0, 0, 0)), (42, .aload_n 0, 1, 0, (0, 0, 0, 0, 0, 0)), (43, .iload_n 1, 1, 0, (0, 0, 0, 0, 0, 0)), (44, .iload 5, 2, 0, (0, 0, 0, 0, 0, 0)), (46, .iload_n 3, 1, 0, (0, 0, 0, 0, 0, 0)), (47, .ifCond .ge 7, 3, 0, (0, 0, 0, 0, 0, 0)), (50, .iconst 1, 1, 0, (0, 0, 0, 0, 0, 1)), (51, .goto 4, 3, 0, (0, 0, 0, 0, 0, 0)), (54, .iconst 0, 1, 0, (0, 0, 0, 0, 0, 0)), (55, .iload 4, 2, 0, (0, 0, 0, 0, 0, 0)), (57, .invokevirtual 232, 3, 0, (2, 5, 0, 0, 1, 0)), (60, .ifCond .eq 7, 3, 0, (0, 0, 0, 0, 0, 0)), (63, .iconst 1, 1, 0, (0, 0, 0, 0, 0, 1)), (64, .goto 4, 3, 0, (0, 0, 0, 0, 0, 0)), (67, .iconst 0, 1, 0, (0, 0, 0, 0, 0, 0)), (68, .ireturn, 1, 0, (1, 0, 0, 0, 0, 0))]
set_option maxRecDepth 100000 in
theorem rk231 : R231.all (rok 2 231 1 [(216, [0]), (221, [0, 0]), (230, [15, 0, 0, 0, 0])]) = true := by decide +kernel
set_option maxRecDepth 100000 in
theorem tab231 {F216 : PM → Int32 → Int32} {G216 : PM → Int32 → Prop} {F221 : PM → Int32 → Int32 → Int32} {G221 : PM → Int32 → Int32 → Prop} {F230 : PM → Int32 → Int32 → Int32 → Int32 → Int32} {G230 : PM → Int32 → Int32 → Int32 → Int32 → Prop} : TabOK 2 231 1 [CC216 F216 G216, CC221 F221 G221, CC230 F230 G230] R231 := tab_ok (K := K231) rfl rfl (fun h => d231 h) rk231 (by decide +kernel)
set_option maxRecDepth 100000 in
theorem pc231 : cutpc [] R231 = true := by decide +kernel
set_option maxRecDepth 100000 in
theorem r12_isRefused (p : PM) (hg : Gr 2 p) (F216 : PM → Int32 → Int32) (G216 : PM → Int32 → Prop) (o216 : CalOK 2 (CC216 F216 G216)) (F221 : PM → Int32 → Int32 → Int32) (G221 : PM → Int32 → Int32 → Prop) (o221 : CalOK 2 (CC221 F221 G221)) (F230 : PM → Int32 → Int32 → Int32 → Int32 → Int32) (G230 : PM → Int32 → Int32 → Int32 → Int32 → Prop) (o230 : CalOK 2 (CC230 F230 G230)) : ∀ (v1 : Int32) (v2 : Int32) (v3 : Int32), bg12_isRefused p F216 G216 F221 G221 F230 G230 v1 v2 v3 → ZJ 2 231 0 [zR 12 1, zI v1, zI v2, zI v3, zJ, zJ] [] p (hoI p (bv12_isRefused p F216 F221 F230 v1 v2 v3)) := by
  intro v1 v2 v3  H
  exact roI (n := 3000) (q := 0) (la := [zR 12 1, zI v1, zI v2, zI v3, zJ, zJ]) (sa := []) (ks := []) (gs := []) (fcons o216 (fcons o221 (fcons o230 (fnil)))) tab231 pc231 trivial hg H
theorem t12_isRefused (p : PM) (hg : Gr 2 p) : ∀ (v1 : Int32) (v2 : Int32) (v3 : Int32), g12_isRefused p v1 v2 v3 → ZJ 2 231 0 [zR 12 1, zI v1, zI v2, zI v3, zJ, zJ] [] p (hoI p (v12_isRefused p v1 v2 v3)) := r12_isRefused p hg v12_abs g12_abs ok216 v12_contractOf g12_contractOf ok221 v12_isOver g12_isOver ok230
def CC231 (F : PM → Int32 → Int32 → Int32 → Int32) (G : PM → Int32 → Int32 → Int32 → Prop) : Cal := (231, [15, 0, 0, 0], 1, true, fun as p => (zI (F p (ai as 1) (ai as 2) (ai as 3)), p), fun as p => zsw (tc2 as [(112, 1), (0, 0), (0, 0), (0, 0)]) False (G p (ai as 1) (ai as 2) (ai as 3)))
set_option maxRecDepth 100000 in
theorem okr231 (F : PM → Int32 → Int32 → Int32 → Int32) (G : PM → Int32 → Int32 → Int32 → Prop) (h : ∀ (p : PM) (v1 : Int32) (v2 : Int32) (v3 : Int32), Gr 2 p → G p v1 v2 v3 → ZJ 2 231 0 [zR 12 1, zI v1, zI v2, zI v3, zJ, zJ] [] p (hoI p (F p v1 v2 v3))) : CalOK 2 (CC231 F G) := cal_ok (m := 6) (by unfold mL; rw [mX_231]) (fun as p hg H => h p (ai as 1) (ai as 2) (ai as 3) hg H)
theorem ok231 : CalOK 2 (CC231 v12_isRefused g12_isRefused) := okr231 v12_isRefused g12_isRefused (fun p v1 v2 v3 hg H => t12_isRefused p hg v1 v2 v3 H)
noncomputable def bv12_holds (F221 : PM → Int32 → Int32 → Int32) (p : PM) (v1 : Int32) (v2 : Int32) (v3 : Int32) (v4 : Int32) : PM :=
  let p1 : PM := pI p 13 1 ((((cn 4) * v1) + (F221 p v2 (cn 0)))).toNatClampNeg ((p.1 13 1 ((((cn 4) * v1) + (F221 p v2 (cn 0)))).toNatClampNeg) + v3)
  if (F221 p1 v2 (cn 1)) < 0 then (
    let p2 : PM := pJ p1 14 1 (v1).toNatClampNeg ((p1.2.1 14 1 (v1).toNatClampNeg) - ((v3).toInt64 * (v4).toInt64))
    p2)
  else (
    let p3 : PM := pI p1 13 1 ((((cn 4) * v1) + (F221 p1 v2 (cn 1)))).toNatClampNeg ((p1.1 13 1 ((((cn 4) * v1) + (F221 p1 v2 (cn 1)))).toNatClampNeg) - v3)
    let p4 : PM := pJ p3 14 1 (v1).toNatClampNeg ((p3.2.1 14 1 (v1).toNatClampNeg) - ((v3).toInt64 * (v4).toInt64))
    p4)
noncomputable def v12_holds (p : PM) (v1 : Int32) (v2 : Int32) (v3 : Int32) (v4 : Int32) : PM := bv12_holds v12_contractOf p v1 v2 v3 v4
noncomputable def bg12_holds (F221 : PM → Int32 → Int32 → Int32) (G221 : PM → Int32 → Int32 → Prop) (p : PM) (v1 : Int32) (v2 : Int32) (v3 : Int32) (v4 : Int32) : Prop :=
  (G221 p v2 (cn 0)) ∧ (
  (inb (((cn 4) * v1) + (F221 p v2 (cn 0))) 36) ∧ (
  (inb (((cn 4) * v1) + (F221 p v2 (cn 0))) 36) ∧ (
  let p1 : PM := pI p 13 1 ((((cn 4) * v1) + (F221 p v2 (cn 0)))).toNatClampNeg ((p.1 13 1 ((((cn 4) * v1) + (F221 p v2 (cn 0)))).toNatClampNeg) + v3)
  (G221 p1 v2 (cn 1)) ∧ (
  if (F221 p1 v2 (cn 1)) < 0 then (
    (inb v1 9) ∧ (
    (inb v1 9) ∧ (
    let p2 : PM := pJ p1 14 1 (v1).toNatClampNeg ((p1.2.1 14 1 (v1).toNatClampNeg) - ((v3).toInt64 * (v4).toInt64))
    True)))
  else (
    (G221 p1 v2 (cn 1)) ∧ (
    (inb (((cn 4) * v1) + (F221 p1 v2 (cn 1))) 36) ∧ (
    (inb (((cn 4) * v1) + (F221 p1 v2 (cn 1))) 36) ∧ (
    let p3 : PM := pI p1 13 1 ((((cn 4) * v1) + (F221 p1 v2 (cn 1)))).toNatClampNeg ((p1.1 13 1 ((((cn 4) * v1) + (F221 p1 v2 (cn 1)))).toNatClampNeg) - v3)
    (inb v1 9) ∧ (
    (inb v1 9) ∧ (
    let p4 : PM := pJ p3 14 1 (v1).toNatClampNeg ((p3.2.1 14 1 (v1).toNatClampNeg) - ((v3).toInt64 * (v4).toInt64))
    True))))))))))
noncomputable def g12_holds (p : PM) (v1 : Int32) (v2 : Int32) (v3 : Int32) (v4 : Int32) : Prop := bg12_holds v12_contractOf g12_contractOf p v1 v2 v3 v4
def R232 : List Row := [(0, .aload_n 0, 1, 0, (0, 0, 0, 0, 0, 0)), (1, .getfield 7, 3, 0, (12, 1, 16, 2, 1, 0)), (4, .iconst 4, 1, 0, (0, 0, 0, 0, 0, 4)), (5, .iload_n 1, 1, 0, (0, 0, 0, 0, 0, 0)), (6, .imul, 1, 0, (0, 0, 0, 0, 0, 0)), (7, .iload_n 2, 1, 0, (0, 0, 0, 0, 0, 0)), (8, .iconst 0, 1, 0, (0, 0, 0, 0, 0, 0)), (9, .invokestatic 224, 3, 0, (0, 2, 0, 0, 0, 0)), (12, .iadd, 1, 0, (0, 0, 0, 0, 0, 0)), (13, .dup2, 1, 0, (0, 0, 0, 0, 0, 0)), (14, .iaload, 1, 0, (13, 36, 0, 0, 0, 0)), (15, .iload_n 3, 1, 0, (0, 0, 0, 0, 0, 0)), (16, .iadd, 1, 0, (0, 0, 0, 0, 0, 0)), (17, .iastore, 1, 0, (13, 36, 0, 0, 0, 0)), (18, .iload_n 2, 1, 0, (0, 0, 0, 0, 0, 0)), (19, .iconst 1, 1, 0, (0, 0, 0, 0, 0, 1)), (20, .invokestatic 224, 3, 0, (0, 2, 0, 0, 0, 0)), (23, .ifCond .lt 21, 3, 0, (0, 0, 0, 0, 0, 0)), (26, .aload_n 0, 1, 0, (0, 0, 0, 0, 0, 0)), (27, .getfield 7, 3, 0, (12, 1, 16, 2, 1, 0)), (30, .iconst 4, 1, 0, (0, 0, 0, 0, 0, 4)), (31, .iload_n 1, 1, 0, (0, 0, 0, 0, 0, 0)), (32, .imul, 1, 0, (0, 0, 0, 0, 0, 0)), (33, .iload_n 2, 1, 0, (0, 0, 0, 0, 0, 0)), (34, .iconst 1, 1, 0, (0, 0, 0, 0, 0, 1)), (35, .invokestatic 224, 3, 0, (0, 2, 0, 0, 0, 0)), (38, .iadd, 1, 0, (0, 0, 0, 0, 0, 0)), (39, .dup2, 1, 0, (0, 0, 0, 0, 0, 0)), (40, .iaload, 1, 0, (13, 36, 0, 0, 0, 0)), (41, .iload_n 3, 1, 0, (0, 0, 0, 0, 0, 0)), (42, .isub, 1, 0, (0, 0, 0, 0, 0, 0)), (43, .iastore, 1, 0, (13, 36, 0, 0, 0, 0)), (44, .aload_n 0, 1, 0, (0, 0, 0, 0, 0, 0)), (45, .getfield 13, 3, 0, (12, 2, 17, 2, 1, 0)), (48, .iload_n 1, 1, 0, (0, 0, 0, 0, 0, 0)), (49, .dup2, 1, 0, (0, 0, 0, 0, 0, 0)), (50, .laload, 1, 0, (14, 9, 0, 0, 0, 0)), (51, .iload_n 3, 1, 0, (0, 0, 0, 0, 0, 0)), (52, .i2l, 1, 0, (0, 0, 0, 0, 0, 0)), (53, .iload 4, 2, 0, (0, 0, 0, 0, 0, 0)), (55, .i2l, 1, 0, (0, 0, 0, 0, 0, 0)), (56, .lmul, 1, 0, (0, 0, 0, 0, 0, 0)), (57, .lsub, 1, 0, (0, 0, 0, 0, 0, 0)), (58, .lastore, 1, 0, (14, 9, 0, 0, 0, 0)), (59, .return_, 1, 0, (0, 0, 0, 0, 0, 0))]
set_option maxRecDepth 100000 in
theorem rk232 : R232.all (rok 2 232 0 [(221, [0, 0])]) = true := by decide +kernel
set_option maxRecDepth 100000 in
theorem tab232 {F221 : PM → Int32 → Int32 → Int32} {G221 : PM → Int32 → Int32 → Prop} : TabOK 2 232 0 [CC221 F221 G221] R232 := tab_ok (K := K232) rfl rfl (fun h => d232 h) rk232 (by decide +kernel)
set_option maxRecDepth 100000 in
theorem pc232 : cutpc [] R232 = true := by decide +kernel
set_option maxRecDepth 100000 in
theorem r12_holds (F221 : PM → Int32 → Int32 → Int32) (G221 : PM → Int32 → Int32 → Prop) (o221 : CalOK 2 (CC221 F221 G221)) : ∀ (p : PM) (v1 : Int32) (v2 : Int32) (v3 : Int32) (v4 : Int32), Gr 2 p → bg12_holds F221 G221 p v1 v2 v3 v4 → ZJ 2 232 0 [zR 12 1, zI v1, zI v2, zI v3, zI v4] [] p (hwV (bv12_holds F221 p v1 v2 v3 v4)) := by
  intro p v1 v2 v3 v4  hg H
  exact rwV (n := 3000) (q := 0) (la := [zR 12 1, zI v1, zI v2, zI v3, zI v4]) (sa := []) (ks := []) (gs := []) (fcons o221 (fnil)) tab232 pc232 trivial hg H
theorem t12_holds : ∀ (p : PM) (v1 : Int32) (v2 : Int32) (v3 : Int32) (v4 : Int32), Gr 2 p → g12_holds p v1 v2 v3 v4 → ZJ 2 232 0 [zR 12 1, zI v1, zI v2, zI v3, zI v4] [] p (hwV (v12_holds p v1 v2 v3 v4)) := r12_holds v12_contractOf g12_contractOf ok221
def CC232 (F : PM → Int32 → Int32 → Int32 → Int32 → PM) (G : PM → Int32 → Int32 → Int32 → Int32 → Prop) : Cal := (232, [15, 0, 0, 0, 0], 0, false, fun as p => (zJ, (F p (ai as 1) (ai as 2) (ai as 3) (ai as 4))), fun as p => zsw (tc2 as [(112, 1), (0, 0), (0, 0), (0, 0), (0, 0)]) False (G p (ai as 1) (ai as 2) (ai as 3) (ai as 4)))
set_option maxRecDepth 100000 in
theorem okr232 (F : PM → Int32 → Int32 → Int32 → Int32 → PM) (G : PM → Int32 → Int32 → Int32 → Int32 → Prop) (h : ∀ (p : PM) (v1 : Int32) (v2 : Int32) (v3 : Int32) (v4 : Int32), Gr 2 p → G p v1 v2 v3 v4 → ZJ 2 232 0 [zR 12 1, zI v1, zI v2, zI v3, zI v4] [] p (hwV (F p v1 v2 v3 v4))) : CalOK 2 (CC232 F G) := cal_ok (m := 5) (by unfold mL; rw [mX_232]) (fun as p hg H => h p (ai as 1) (ai as 2) (ai as 3) (ai as 4) hg H)
theorem ok232 : CalOK 2 (CC232 v12_holds g12_holds) := okr232 v12_holds g12_holds t12_holds
noncomputable def bv12_deals (F232 : PM → Int32 → Int32 → Int32 → Int32 → PM) (p : PM) (v1 : Int32) (v2 : Int32) (v3 : Int32) (v4 : Int32) (v5 : Int32) : PM :=
  let p1 : PM := F232 p v2 v1 v5 v4
  let p2 : PM := F232 p1 v3 v1 (-v5) v4
  let x3 : Int32 := (irm (p2.1 12 1 48) (cn 60))
  let p4 : PM := pI p2 13 30 (x3).toNatClampNeg v1
  let p5 : PM := pI p4 13 31 (x3).toNatClampNeg v2
  let p6 : PM := pI p5 13 32 (x3).toNatClampNeg v3
  let p7 : PM := pI p6 13 33 (x3).toNatClampNeg v4
  let p8 : PM := pI p7 13 34 (x3).toNatClampNeg v5
  let p9 : PM := pI p8 15 7 (x3).toNatClampNeg (cn 0)
  let p10 : PM := pI p9 15 8 (x3).toNatClampNeg (cn 0)
  let p11 : PM := pI p10 12 1 48 ((p10.1 12 1 48) + (cn 1))
  let p12 : PM := pI p11 13 10 (v1).toNatClampNeg v4
  p12
noncomputable def v12_deals (p : PM) (v1 : Int32) (v2 : Int32) (v3 : Int32) (v4 : Int32) (v5 : Int32) : PM := bv12_deals v12_holds p v1 v2 v3 v4 v5
noncomputable def bg12_deals (F232 : PM → Int32 → Int32 → Int32 → Int32 → PM) (G232 : PM → Int32 → Int32 → Int32 → Int32 → Prop) (p : PM) (v1 : Int32) (v2 : Int32) (v3 : Int32) (v4 : Int32) (v5 : Int32) : Prop :=
  (G232 p v2 v1 v5 v4) ∧ (
  let p1 : PM := F232 p v2 v1 v5 v4
  (G232 p1 v3 v1 (-v5) v4) ∧ (
  let p2 : PM := F232 p1 v3 v1 (-v5) v4
  let x3 : Int32 := (irm (p2.1 12 1 48) (cn 60))
  (inb x3 60) ∧ (
  let p4 : PM := pI p2 13 30 (x3).toNatClampNeg v1
  (inb x3 60) ∧ (
  let p5 : PM := pI p4 13 31 (x3).toNatClampNeg v2
  (inb x3 60) ∧ (
  let p6 : PM := pI p5 13 32 (x3).toNatClampNeg v3
  (inb x3 60) ∧ (
  let p7 : PM := pI p6 13 33 (x3).toNatClampNeg v4
  (inb x3 60) ∧ (
  let p8 : PM := pI p7 13 34 (x3).toNatClampNeg v5
  (inb x3 60) ∧ (
  let p9 : PM := pI p8 15 7 (x3).toNatClampNeg (cn 0)
  (inb x3 60) ∧ (
  let p10 : PM := pI p9 15 8 (x3).toNatClampNeg (cn 0)
  let p11 : PM := pI p10 12 1 48 ((p10.1 12 1 48) + (cn 1))
  (inb v1 6) ∧ (
  let p12 : PM := pI p11 13 10 (v1).toNatClampNeg v4
  True))))))))))
noncomputable def g12_deals (p : PM) (v1 : Int32) (v2 : Int32) (v3 : Int32) (v4 : Int32) (v5 : Int32) : Prop := bg12_deals v12_holds g12_holds p v1 v2 v3 v4 v5
def R233 : List Row := [(0, .aload_n 0, 1, 0, (0, 0, 0, 0, 0, 0)), (1, .iload_n 2, 1, 0, (0, 0, 0, 0, 0, 0)), (2, .iload_n 1, 1, 0, (0, 0, 0, 0, 0, 0)), (3, .iload 5, 2, 0, (0, 0, 0, 0, 0, 0)), (5, .iload 4, 2, 0, (0, 0, 0, 0, 0, 0)), (7, .invokevirtual 236, 3, 0, (0, 5, 0, 0, 1, 0)), (10, .aload_n 0, 1, 0, (0, 0, 0, 0, 0, 0)), (11, .iload_n 3, 1, 0, (0, 0, 0, 0, 0, 0)), (12, .iload_n 1, 1, 0, (0, 0, 0, 0, 0, 0)), (13, .iload 5, 2, 0, (0, 0, 0, 0, 0, 0)), (15, .ineg, 1, 0, (0, 0, 0, 0, 0, 0)), (16, .iload 4, 2, 0, (0, 0, 0, 0, 0, 0)), (18, .invokevirtual 236, 3, 0, (0, 5, 0, 0, 1, 0)), (21, .aload_n 0, 1, 0, (0, 0, 0, 0, 0, 0)), (22, .getfield 206, 3, 0, (12, 48, 0, 1, 0, 0)), (25, .bipush 60, 2, 0, (0, 0, 0, 0, 0, 60)), (27, .irem, 1, 0, (0, 0, 0, 0, 0, 0)), (28, .istore 6, 2, 0, (0, 0, 0, 0, 0, 0)), (30, .aload_n 0, 1, 0, (0, 0, 0, 0, 0, 0)), (31, .getfield 120, 3, 0, (12, 41, 16, 2, 30, 0)), (34, .iload 6, 2, 0, (0, 0, 0, 0, 0, 0)), (36, .iload_n 1, 1, 0, (0, 0, 0, 0, 0, 0)), (37, .iastore, 1, 0, (13, 60, 0, 0, 0, 0)), (38, .aload_n 0, 1, 0, (0, 0, 0, 0, 0, 0)), (39, .getfield 123, 3, 0, (12, 42, 16, 2, 31, 0)), (42, .iload 6, 2, 0, (0, 0, 0, 0, 0, 0)), (44, .iload_n 2, 1, 0, (0, 0, 0, 0, 0, 0)), (45, .iastore, 1, 0, (13, 60, 0, 0, 0, 0)), (46, .aload_n 0, 1, 0, (0, 0, 0, 0, 0, 0)), (47, .getfield 126, 3, 0, (12, 43, 16, 2, 32, 0)), (50, .iload 6, 2, 0, (0, 0, 0, 0, 0, 0)), (52, .iload_n 3, 1, 0, (0, 0, 0, 0, 0, 0)), (53, .iastore, 1, 0, (13, 60, 0, 0, 0, 0)), (54, .aload_n 0, 1, 0, (0, 0, 0, 0, 0, 0)), (55, .getfield 129, 3, 0, (12, 44, 16, 2, 33, 0)), (58, .iload 6, 2, 0, (0, 0, 0, 0, 0, 0)), (60, .iload 4, 2, 0, (0, 0, 0, 0, 0, 0)), (62, .iastore, 1, 0, (13, 60, 0, 0, 0, 0)), (63, .aload_n 0, 1, 0, (0, 0, 0, 0, 0, 0)), (64, .getfield 132, 3, 0, (12, 45, 16, 2, 34, 0)), (67, .iload 6, 2, 0, (0, 0, 0, 0, 0, 0)), (69, .iload 5, 2, 0, (0, 0, 0, 0, 0, 0)), (71, .iastore, 1, 0, (13, 60, 0, 0, 0, 0)), (72, .aload_n 0, 1, 0, (0, 0, 0, 0, 0, 0)), (73, .getfield 135, 3, 0, (12, 46, 18, 2, 7, 0)), (76, .iload 6, 2, 0, (0, 0, 0, 0, 0, 0)), (78, .iconst 0, 1, 0, (0, 0, 0, 0, 0, 0)), (79, .bastore, 1, 0, (15, 60, 0, 0, 0, 0)), (80, .aload_n 0, 1, 0, (0, 0, 0, 0, 0, 0)), (81, .getfield 138, 3, 0, (12, 47, 18, 2, 8, 0)), (84, .iload 6, 2, 0, (0, 0, 0, 0, 0, 0)), (86, .iconst 0, 1, 0, (0, 0, 0, 0, 0, 0)), (87, .bastore, 1, 0, (15, 60, 0, 0, 0, 0)), (88, .aload_n 0, 1, 0, (0, 0, 0, 0, 0, 0)), (89, .dup, 1, 0, (0, 0, 0, 0, 0, 0)), (90, .getfield 206, 3, 0, (12, 48, 0, 1, 0, 0)), (93, .iconst 1, 1, 0, (0, 0, 0, 0, 0, 1)), (94, .iadd, 1, 0, (0, 0, 0, 0, 0, 0)), (95, .putfield 206, 3, 0, (12, 48, 0, 1, 0, 0)), (98, .aload_n 0, 1, 0, (0, 0, 0, 0, 0, 0)), (99, .getfield 45, 3, 0, (12, 12, 16, 2, 10, 0)), (102, .iload_n 1, 1, 0, (0, 0, 0, 0, 0, 0)), (103, .iload 4, 2, 0, (0, 0, 0, 0, 0, 0)), (105, .iastore, 1, 0, (13, 6, 0, 0, 0, 0)), (106, .return_, 1, 0, (0, 0, 0, 0, 0, 0))]
set_option maxRecDepth 100000 in
theorem rk233 : R233.all (rok 2 233 0 [(232, [15, 0, 0, 0, 0])]) = true := by decide +kernel
set_option maxRecDepth 100000 in
theorem tab233 {F232 : PM → Int32 → Int32 → Int32 → Int32 → PM} {G232 : PM → Int32 → Int32 → Int32 → Int32 → Prop} : TabOK 2 233 0 [CC232 F232 G232] R233 := tab_ok (K := K233) rfl rfl (fun h => d233 h) rk233 (by decide +kernel)
set_option maxRecDepth 100000 in
theorem pc233 : cutpc [] R233 = true := by decide +kernel
set_option maxRecDepth 100000 in
theorem r12_deals (F232 : PM → Int32 → Int32 → Int32 → Int32 → PM) (G232 : PM → Int32 → Int32 → Int32 → Int32 → Prop) (o232 : CalOK 2 (CC232 F232 G232)) : ∀ (p : PM) (v1 : Int32) (v2 : Int32) (v3 : Int32) (v4 : Int32) (v5 : Int32), Gr 2 p → bg12_deals F232 G232 p v1 v2 v3 v4 v5 → ZJ 2 233 0 [zR 12 1, zI v1, zI v2, zI v3, zI v4, zI v5, zJ] [] p (hwV (bv12_deals F232 p v1 v2 v3 v4 v5)) := by
  intro p v1 v2 v3 v4 v5  hg H
  exact rwV (n := 3000) (q := 0) (la := [zR 12 1, zI v1, zI v2, zI v3, zI v4, zI v5, zJ]) (sa := []) (ks := []) (gs := []) (fcons o232 (fnil)) tab233 pc233 trivial hg H
theorem t12_deals : ∀ (p : PM) (v1 : Int32) (v2 : Int32) (v3 : Int32) (v4 : Int32) (v5 : Int32), Gr 2 p → g12_deals p v1 v2 v3 v4 v5 → ZJ 2 233 0 [zR 12 1, zI v1, zI v2, zI v3, zI v4, zI v5, zJ] [] p (hwV (v12_deals p v1 v2 v3 v4 v5)) := r12_deals v12_holds g12_holds ok232
def CC233 (F : PM → Int32 → Int32 → Int32 → Int32 → Int32 → PM) (G : PM → Int32 → Int32 → Int32 → Int32 → Int32 → Prop) : Cal := (233, [15, 0, 0, 0, 0, 0], 0, false, fun as p => (zJ, (F p (ai as 1) (ai as 2) (ai as 3) (ai as 4) (ai as 5))), fun as p => zsw (tc2 as [(112, 1), (0, 0), (0, 0), (0, 0), (0, 0), (0, 0)]) False (G p (ai as 1) (ai as 2) (ai as 3) (ai as 4) (ai as 5)))
set_option maxRecDepth 100000 in
theorem okr233 (F : PM → Int32 → Int32 → Int32 → Int32 → Int32 → PM) (G : PM → Int32 → Int32 → Int32 → Int32 → Int32 → Prop) (h : ∀ (p : PM) (v1 : Int32) (v2 : Int32) (v3 : Int32) (v4 : Int32) (v5 : Int32), Gr 2 p → G p v1 v2 v3 v4 v5 → ZJ 2 233 0 [zR 12 1, zI v1, zI v2, zI v3, zI v4, zI v5, zJ] [] p (hwV (F p v1 v2 v3 v4 v5))) : CalOK 2 (CC233 F G) := cal_ok (m := 7) (by unfold mL; rw [mX_233]) (fun as p hg H => h p (ai as 1) (ai as 2) (ai as 3) (ai as 4) (ai as 5) hg H)
theorem ok233 : CalOK 2 (CC233 v12_deals g12_deals) := okr233 v12_deals g12_deals t12_deals
noncomputable def bv12_isKept (p : PM) (v1 : Int32) : Int32 :=
  if v1 < 0 then (
    (cn 0))
  else (
    if v1 < (p.1 12 1 48) then (
      if v1 < ((p.1 12 1 48) - (cn 60)) then (
        (cn 0))
      else (
        if (p.1 15 8 ((irm v1 (cn 60))).toNatClampNeg) = 0 then (
          (cn 1))
        else (
          (cn 0))))
    else (
      (cn 0)))
noncomputable def v12_isKept (p : PM) (v1 : Int32) : Int32 := bv12_isKept p v1
noncomputable def bg12_isKept (p : PM) (v1 : Int32) : Prop :=
  if v1 < 0 then (
    True)
  else (
    if v1 < (p.1 12 1 48) then (
      if v1 < ((p.1 12 1 48) - (cn 60)) then (
        True)
      else (
        (inb (irm v1 (cn 60)) 60) ∧ (
        if (p.1 15 8 ((irm v1 (cn 60))).toNatClampNeg) = 0 then (
          True)
        else (
          True))))
    else (
      True))
noncomputable def g12_isKept (p : PM) (v1 : Int32) : Prop := bg12_isKept p v1
def R234 : List Row := [(0, .iload_n 1, 1, 0, (0, 0, 0, 0, 0, 0)), (1, .ifCond .lt 38, 3, 0, (0, 0, 0, 0, 0, 0)), (4, .iload_n 1, 1, 0, (0, 0, 0, 0, 0, 0)), (5, .aload_n 0, 1, 0, (0, 0, 0, 0, 0, 0)), (6, .getfield 206, 3, 0, (12, 48, 0, 1, 0, 0)), (9, .if_icmp .ge 30, 3, 0, (0, 0, 0, 0, 0, 0)), (12, .iload_n 1, 1, 0, (0, 0, 0, 0, 0, 0)), (13, .aload_n 0, 1, 0, (0, 0, 0, 0, 0, 0)), (14, .getfield 206, 3, 0, (12, 48, 0, 1, 0, 0)), (17, .bipush 60, 2, 0, (0, 0, 0, 0, 0, 60)), (19, .isub, 1, 0, (0, 0, 0, 0, 0, 0)), (20, .if_icmp .lt 19, 3, 0, (0, 0, 0, 0, 0, 0)), (23, .aload_n 0, 1, 0, (0, 0, 0, 0, 0, 0)), (24, .getfield 138, 3, 0, (12, 47, 18, 2, 8, 0)), (27, .iload_n 1, 1, 0, (0, 0, 0, 0, 0, 0)), (28, .bipush 60, 2, 0, (0, 0, 0, 0, 0, 60)), (30, .irem, 1, 0, (0, 0, 0, 0, 0, 0)), (31, .baload, 1, 0, (15, 60, 0, 0, 0, 0)), (32, .ifCond .ne 7, 3, 0, (0, 0, 0, 0, 0, 0)), (35, .iconst 1, 1, 0, (0, 0, 0, 0, 0, 1)), (36, .goto 4, 3, 0, (0, 0, 0, 0, 0, 0)), (39, .iconst 0, 1, 0, (0, 0, 0, 0, 0, 0)), (40, .ireturn, 1, 0, (1, 0, 0, 0, 0, 0))]
set_option maxRecDepth 100000 in
theorem rk234 : R234.all (rok 2 234 1 []) = true := by decide +kernel
set_option maxRecDepth 100000 in
theorem tab234 : TabOK 2 234 1 [] R234 := tab_ok (K := K234) rfl rfl (fun h => d234 h) rk234 (by decide +kernel)
set_option maxRecDepth 100000 in
theorem pc234 : cutpc [] R234 = true := by decide +kernel
set_option maxRecDepth 100000 in
theorem r12_isKept (p : PM) (hg : Gr 2 p) : ∀ (v1 : Int32), bg12_isKept p v1 → ZJ 2 234 0 [zR 12 1, zI v1] [] p (hoI p (bv12_isKept p v1)) := by
  intro v1  H
  exact roI (n := 3000) (q := 0) (la := [zR 12 1, zI v1]) (sa := []) (ks := []) (gs := []) (fnil) tab234 pc234 trivial hg H
theorem t12_isKept (p : PM) (hg : Gr 2 p) : ∀ (v1 : Int32), g12_isKept p v1 → ZJ 2 234 0 [zR 12 1, zI v1] [] p (hoI p (v12_isKept p v1)) := r12_isKept p hg
def CC234 (F : PM → Int32 → Int32) (G : PM → Int32 → Prop) : Cal := (234, [15, 0], 1, true, fun as p => (zI (F p (ai as 1)), p), fun as p => zsw (tc2 as [(112, 1), (0, 0)]) False (G p (ai as 1)))
set_option maxRecDepth 100000 in
theorem okr234 (F : PM → Int32 → Int32) (G : PM → Int32 → Prop) (h : ∀ (p : PM) (v1 : Int32), Gr 2 p → G p v1 → ZJ 2 234 0 [zR 12 1, zI v1] [] p (hoI p (F p v1))) : CalOK 2 (CC234 F G) := cal_ok (m := 2) (by unfold mL; rw [mX_234]) (fun as p hg H => h p (ai as 1) hg H)
theorem ok234 : CalOK 2 (CC234 v12_isKept g12_isKept) := okr234 v12_isKept g12_isKept (fun p v1 hg H => t12_isKept p hg v1 H)
noncomputable def bv12_latest_24 (p : PM) (F234 : PM → Int32 → Int32) (kv24 : Int32 → Int32 → Int32 → Int32) (v1 : Int32) (v2 : Int32) (v3 : Int32) : Int32 :=
  if v3 < (p.1 12 1 48) then (
    if (F234 p v3) = 0 then (
      kv24 v1 v2 (v3 + (cn 1)))
    else (
      if (p.1 13 30 ((irm v3 (cn 60))).toNatClampNeg) = v1 then (
        if (p.1 15 7 ((irm v3 (cn 60))).toNatClampNeg) = 0 then (
          kv24 v1 v3 (v3 + (cn 1)))
        else (
          kv24 v1 v2 (v3 + (cn 1))))
      else (
        kv24 v1 v2 (v3 + (cn 1)))))
  else (
    v2)
noncomputable def v12_latest_24 (p : PM) (n : Nat) : Int32 → Int32 → Int32 → Int32 := Nat.rec (motive := fun _ => Int32 → Int32 → Int32 → Int32) (fun _ _ _ => 0) (fun _ ih => bv12_latest_24 p v12_isKept ih) n
theorem ev12_latest_24 (p : PM) (n : Nat) (v1 : Int32) (v2 : Int32) (v3 : Int32) : v12_latest_24 p (n + 1) v1 v2 v3 = bv12_latest_24 p v12_isKept (v12_latest_24 p n) v1 v2 v3 := rfl
noncomputable def bg12_latest_24 (p : PM) (F234 : PM → Int32 → Int32) (G234 : PM → Int32 → Prop) (kg24 : Int32 → Int32 → Int32 → Prop) (v1 : Int32) (v2 : Int32) (v3 : Int32) : Prop :=
  if v3 < (p.1 12 1 48) then (
    (G234 p v3) ∧ (
    if (F234 p v3) = 0 then (
      kg24 v1 v2 (v3 + (cn 1)))
    else (
      (inb (irm v3 (cn 60)) 60) ∧ (
      if (p.1 13 30 ((irm v3 (cn 60))).toNatClampNeg) = v1 then (
        (inb (irm v3 (cn 60)) 60) ∧ (
        if (p.1 15 7 ((irm v3 (cn 60))).toNatClampNeg) = 0 then (
          kg24 v1 v3 (v3 + (cn 1)))
        else (
          kg24 v1 v2 (v3 + (cn 1)))))
      else (
        kg24 v1 v2 (v3 + (cn 1)))))))
  else (
    True)
noncomputable def g12_latest_24 (p : PM) (n : Nat) : Int32 → Int32 → Int32 → Prop := Nat.rec (motive := fun _ => Int32 → Int32 → Int32 → Prop) (fun _ _ _ => False) (fun _ ih => bg12_latest_24 p v12_isKept g12_isKept ih) n
theorem eg12_latest_24 (p : PM) (n : Nat) (v1 : Int32) (v2 : Int32) (v3 : Int32) : g12_latest_24 p (n + 1) v1 v2 v3 = bg12_latest_24 p v12_isKept g12_isKept (g12_latest_24 p n) v1 v2 v3 := rfl
noncomputable def bv12_latest (p : PM) (kv24 : Int32 → Int32 → Int32 → Int32) (v1 : Int32) : Int32 :=
  if ((p.1 12 1 48) - (cn 60)) < 0 then (
    kv24 v1 (cn (-1)) (cn 0))
  else (
    let x1 : Int32 := ((p.1 12 1 48) - (cn 60))
    kv24 v1 (cn (-1)) x1)
noncomputable def v12_latest (p : PM) (v1 : Int32) : Int32 := bv12_latest p (v12_latest_24 p FU) v1
noncomputable def bg12_latest (p : PM) (kg24 : Int32 → Int32 → Int32 → Prop) (v1 : Int32) : Prop :=
  if ((p.1 12 1 48) - (cn 60)) < 0 then (
    kg24 v1 (cn (-1)) (cn 0))
  else (
    let x1 : Int32 := ((p.1 12 1 48) - (cn 60))
    kg24 v1 (cn (-1)) x1)
noncomputable def g12_latest (p : PM) (v1 : Int32) : Prop := bg12_latest p (g12_latest_24 p FU) v1
def R235 : List Row := [(0, .iconst (-1), 1, 0, (0, 0, 0, 0, 0, -1)), (1, .istore_n 2, 1, 0, (0, 0, 0, 0, 0, 0)), (2, .aload_n 0, 1, 0, (0, 0, 0, 0, 0, 0)), (3, .getfield 206, 3, 0, (12, 48, 0, 1, 0, 0)), (6, .bipush 60, 2, 0, (0, 0, 0, 0, 0, 60)), (8, .isub, 1, 0, (0, 0, 0, 0, 0, 0)), (9, .ifCond .ge 7, 3, 0, (0, 0, 0, 0, 0, 0)), (12, .iconst 0, 1, 0, (0, 0, 0, 0, 0, 0)), (13, .goto 10, 3, 0, (0, 0, 0, 0, 0, 0)), (16, .aload_n 0, 1, 0, (0, 0, 0, 0, 0, 0)), (17, .getfield 206, 3, 0, (12, 48, 0, 1, 0, 0)), (20, .bipush 60, 2, 0, (0, 0, 0, 0, 0, 60)), (22, .isub, 1, 0, (0, 0, 0, 0, 0, 0)), (23, .istore_n 3, 1, 0, (0, 0, 0, 0, 0, 0)), (24, .iload_n 3, 1, 1, (0, 0, 0, 0, 0, 0)), (25, .aload_n 0, 1, 0, (0, 0, 0, 0, 0, 0)), (26, .getfield 206, 3, 0, (12, 48, 0, 1, 0, 0)), (29, .if_icmp .ge 48, 3, 0, (0, 0, 0, 0, 0, 0)), (32, .aload_n 0, 1, 0, (0, 0, 0, 0, 0, 0)), (33, .iload_n 3, 1, 0, (0, 0, 0, 0, 0, 0)), (34, .invokevirtual 240, 3, 0, (0, 2, 0, 0, 1, 0)), (37, .ifCond .eq 32, 3, 0, (0, 0, 0, 0, 0, 0)), (40, .aload_n 0, 1, 0, (0, 0, 0, 0, 0, 0)), (41, .getfield 120, 3, 0, (12, 41, 16, 2, 30, 0)), (44, .iload_n 3, 1, 0, (0, 0, 0, 0, 0, 0)), (45, .bipush 60, 2, 0, (0, 0, 0, 0, 0, 60)), (47, .irem, 1, 0, (0, 0, 0, 0, 0, 0)), (48, .iaload, 1, 0, (13, 60, 0, 0, 0, 0)), (49, .iload_n 1, 1, 0, (0, 0, 0, 0, 0, 0)), (50, .if_icmp .ne 19, 3, 0, (0, 0, 0, 0, 0, 0)), (53, .aload_n 0, 1, 0, (0, 0, 0, 0, 0, 0)), (54, .getfield 135, 3, 0, (12, 46, 18, 2, 7, 0)), (57, .iload_n 3, 1, 0, (0, 0, 0, 0, 0, 0)), (58, .bipush 60, 2, 0, (0, 0, 0, 0, 0, 60)), (60, .irem, 1, 0, (0, 0, 0, 0, 0, 0)), (61, .baload, 1, 0, (15, 60, 0, 0, 0, 0)), (62, .ifCond .ne 7, 3, 0, (0, 0, 0, 0, 0, 0)), (65, .iload_n 3, 1, 0, (0, 0, 0, 0, 0, 0)), (66, .goto 4, 3, 0, (0, 0, 0, 0, 0, 0)), (69, .iload_n 2, 1, 0, (0, 0, 0, 0, 0, 0)), (70, .istore_n 2, 1, 0, (0, 0, 0, 0, 0, 0)), (71, .iinc 3 1, 3, 0, (0, 0, 0, 0, 0, 1)), (74, .goto (-50), 3, 0, (0, 0, 0, 0, 0, 0)), (77, .iload_n 2, 1, 0, (0, 0, 0, 0, 0, 0)), (78, .ireturn, 1, 0, (0, 0, 0, 0, 0, 0))]
set_option maxRecDepth 100000 in
theorem rk235 : R235.all (rok 2 235 1 [(234, [15, 0])]) = true := by decide +kernel
set_option maxRecDepth 100000 in
theorem tab235 {F234 : PM → Int32 → Int32} {G234 : PM → Int32 → Prop} : TabOK 2 235 1 [CC234 F234 G234] R235 := tab_ok (K := K235) rfl rfl (fun h => d235 h) rk235 (by decide +kernel)
set_option maxRecDepth 100000 in
theorem pc235 : cutpc [24] R235 = true := by decide +kernel
set_option maxRecDepth 100000 in
theorem r12_latest_24 (p : PM) (hg : Gr 2 p) (F234 : PM → Int32 → Int32) (G234 : PM → Int32 → Prop) (o234 : CalOK 2 (CC234 F234 G234)) (kv24 : Int32 → Int32 → Int32 → Int32) (kg24 : Int32 → Int32 → Int32 → Prop) (hk24 : ∀ (v1 : Int32) (v2 : Int32) (v3 : Int32), kg24 v1 v2 v3 → ZJ 2 235 24 [zR 12 1, zI v1, zI v2, zI v3] [] p (hoI p (kv24 v1 v2 v3))) : ∀ (v1 : Int32) (v2 : Int32) (v3 : Int32), bg12_latest_24 p F234 G234 kg24 v1 v2 v3 → ZJ 2 235 24 [zR 12 1, zI v1, zI v2, zI v3] [] p (hoI p (bv12_latest_24 p F234 kv24 v1 v2 v3)) := by
  intro v1 v2 v3  H
  exact roI (n := 3000) (q := 24) (la := [zR 12 1, zI v1, zI v2, zI v3]) (sa := []) (ks := [fun la sa _ => kv24 (ai la 1) (ai la 2) (ai la 3)]) (gs := [fun la sa _ => zsw (tc2 la [(112, 1), (0, 0), (0, 0), (0, 0)] && tc2 sa []) False (kg24 (ai la 1) (ai la 2) (ai la 3))]) (fcons o234 (fnil)) tab235 pc235 ⟨fun la sa s hg H => zcut H fun H => hk24 (ai la 1) (ai la 2) (ai la 3) H, trivial⟩ hg H
theorem t12_latest_24 (p : PM) (hg : Gr 2 p) : ∀ (n : Nat), ∀ (v1 : Int32) (v2 : Int32) (v3 : Int32), g12_latest_24 p n v1 v2 v3 → ZJ 2 235 24 [zR 12 1, zI v1, zI v2, zI v3] [] p (hoI p (v12_latest_24 p n v1 v2 v3)) := by
  intro n
  induction n with
  | zero =>
    intro v1 v2 v3  H
    exact H.elim
  | succ n ih => exact r12_latest_24 p hg v12_isKept g12_isKept ok234 (v12_latest_24 p n) (g12_latest_24 p n) ih
set_option maxRecDepth 100000 in
theorem r12_latest (p : PM) (hg : Gr 2 p) (F234 : PM → Int32 → Int32) (G234 : PM → Int32 → Prop) (o234 : CalOK 2 (CC234 F234 G234)) (kv24 : Int32 → Int32 → Int32 → Int32) (kg24 : Int32 → Int32 → Int32 → Prop) (hk24 : ∀ (v1 : Int32) (v2 : Int32) (v3 : Int32), kg24 v1 v2 v3 → ZJ 2 235 24 [zR 12 1, zI v1, zI v2, zI v3] [] p (hoI p (kv24 v1 v2 v3))) : ∀ (v1 : Int32), bg12_latest p kg24 v1 → ZJ 2 235 0 [zR 12 1, zI v1, zJ, zJ] [] p (hoI p (bv12_latest p kv24 v1)) := by
  intro v1  H
  exact roI (n := 3000) (q := 0) (la := [zR 12 1, zI v1, zJ, zJ]) (sa := []) (ks := [fun la sa _ => kv24 (ai la 1) (ai la 2) (ai la 3)]) (gs := [fun la sa _ => zsw (tc2 la [(112, 1), (0, 0), (0, 0), (0, 0)] && tc2 sa []) False (kg24 (ai la 1) (ai la 2) (ai la 3))]) (fcons o234 (fnil)) tab235 pc235 ⟨fun la sa s hg H => zcut H fun H => hk24 (ai la 1) (ai la 2) (ai la 3) H, trivial⟩ hg H
theorem t12_latest (p : PM) (hg : Gr 2 p) : ∀ (v1 : Int32), g12_latest p v1 → ZJ 2 235 0 [zR 12 1, zI v1, zJ, zJ] [] p (hoI p (v12_latest p v1)) := r12_latest p hg v12_isKept g12_isKept ok234 (v12_latest_24 p FU) (g12_latest_24 p FU) (t12_latest_24 p hg FU)
def CC235 (F : PM → Int32 → Int32) (G : PM → Int32 → Prop) : Cal := (235, [15, 0], 1, true, fun as p => (zI (F p (ai as 1)), p), fun as p => zsw (tc2 as [(112, 1), (0, 0)]) False (G p (ai as 1)))
set_option maxRecDepth 100000 in
theorem okr235 (F : PM → Int32 → Int32) (G : PM → Int32 → Prop) (h : ∀ (p : PM) (v1 : Int32), Gr 2 p → G p v1 → ZJ 2 235 0 [zR 12 1, zI v1, zJ, zJ] [] p (hoI p (F p v1))) : CalOK 2 (CC235 F G) := cal_ok (m := 4) (by unfold mL; rw [mX_235]) (fun as p hg H => h p (ai as 1) hg H)
theorem ok235 : CalOK 2 (CC235 v12_latest g12_latest) := okr235 v12_latest g12_latest (fun p v1 hg H => t12_latest p hg v1 H)
noncomputable def bv12_falls (p : PM) (v1 : Int32) (v2 : Int32) (v3 : Int32) : PM :=
  let p1 : PM := pI p 13 17 (v1).toNatClampNeg ((p.1 13 17 (v1).toNatClampNeg) - v2)
  if v3 = 0 then (
    let p2 : PM := pI p1 13 22 (v1).toNatClampNeg ((p1.1 13 22 (v1).toNatClampNeg) - (cn 0))
    let p3 : PM := pI p2 15 6 (v1).toNatClampNeg (cn 1)
    if (p3.1 13 19 (v1).toNatClampNeg) = (cn 4) then (
      let p7 : PM := pI p3 13 4 ((p3.1 13 15 (v1).toNatClampNeg)).toNatClampNeg ((p3.1 13 4 ((p3.1 13 15 (v1).toNatClampNeg)).toNatClampNeg) + v2)
      if 0 < (p7.1 13 17 (v1).toNatClampNeg) then (
        let p9 : PM := pI p7 15 3 (v1).toNatClampNeg (cn 1)
        p9)
      else (
        let p8 : PM := pI p7 15 3 (v1).toNatClampNeg (cn 0)
        p8))
    else (
      let p4 : PM := pI p3 13 4 ((p3.1 13 15 (v1).toNatClampNeg)).toNatClampNeg ((p3.1 13 4 ((p3.1 13 15 (v1).toNatClampNeg)).toNatClampNeg) + (cn 0))
      if 0 < (p4.1 13 17 (v1).toNatClampNeg) then (
        let p6 : PM := pI p4 15 3 (v1).toNatClampNeg (cn 1)
        p6)
      else (
        let p5 : PM := pI p4 15 3 (v1).toNatClampNeg (cn 0)
        p5)))
  else (
    let p10 : PM := pI p1 13 22 (v1).toNatClampNeg ((p1.1 13 22 (v1).toNatClampNeg) - v2)
    let p11 : PM := pI p10 15 6 (v1).toNatClampNeg (cn 1)
    if (p11.1 13 19 (v1).toNatClampNeg) = (cn 4) then (
      let p15 : PM := pI p11 13 4 ((p11.1 13 15 (v1).toNatClampNeg)).toNatClampNeg ((p11.1 13 4 ((p11.1 13 15 (v1).toNatClampNeg)).toNatClampNeg) + v2)
      if 0 < (p15.1 13 17 (v1).toNatClampNeg) then (
        let p17 : PM := pI p15 15 3 (v1).toNatClampNeg (cn 1)
        p17)
      else (
        let p16 : PM := pI p15 15 3 (v1).toNatClampNeg (cn 0)
        p16))
    else (
      let p12 : PM := pI p11 13 4 ((p11.1 13 15 (v1).toNatClampNeg)).toNatClampNeg ((p11.1 13 4 ((p11.1 13 15 (v1).toNatClampNeg)).toNatClampNeg) + (cn 0))
      if 0 < (p12.1 13 17 (v1).toNatClampNeg) then (
        let p14 : PM := pI p12 15 3 (v1).toNatClampNeg (cn 1)
        p14)
      else (
        let p13 : PM := pI p12 15 3 (v1).toNatClampNeg (cn 0)
        p13)))
noncomputable def v12_falls (p : PM) (v1 : Int32) (v2 : Int32) (v3 : Int32) : PM := bv12_falls p v1 v2 v3
noncomputable def bg12_falls (p : PM) (v1 : Int32) (v2 : Int32) (v3 : Int32) : Prop :=
  (inb v1 44) ∧ (
  (inb v1 44) ∧ (
  let p1 : PM := pI p 13 17 (v1).toNatClampNeg ((p.1 13 17 (v1).toNatClampNeg) - v2)
  (inb v1 44) ∧ (
  if v3 = 0 then (
    (inb v1 44) ∧ (
    let p2 : PM := pI p1 13 22 (v1).toNatClampNeg ((p1.1 13 22 (v1).toNatClampNeg) - (cn 0))
    (inb v1 44) ∧ (
    let p3 : PM := pI p2 15 6 (v1).toNatClampNeg (cn 1)
    (inb v1 44) ∧ (
    (inb (p3.1 13 15 (v1).toNatClampNeg) 8) ∧ (
    (inb v1 44) ∧ (
    if (p3.1 13 19 (v1).toNatClampNeg) = (cn 4) then (
      (inb (p3.1 13 15 (v1).toNatClampNeg) 8) ∧ (
      let p7 : PM := pI p3 13 4 ((p3.1 13 15 (v1).toNatClampNeg)).toNatClampNeg ((p3.1 13 4 ((p3.1 13 15 (v1).toNatClampNeg)).toNatClampNeg) + v2)
      (inb v1 44) ∧ (
      if 0 < (p7.1 13 17 (v1).toNatClampNeg) then (
        (inb v1 44) ∧ (
        let p9 : PM := pI p7 15 3 (v1).toNatClampNeg (cn 1)
        True))
      else (
        (inb v1 44) ∧ (
        let p8 : PM := pI p7 15 3 (v1).toNatClampNeg (cn 0)
        True)))))
    else (
      (inb (p3.1 13 15 (v1).toNatClampNeg) 8) ∧ (
      let p4 : PM := pI p3 13 4 ((p3.1 13 15 (v1).toNatClampNeg)).toNatClampNeg ((p3.1 13 4 ((p3.1 13 15 (v1).toNatClampNeg)).toNatClampNeg) + (cn 0))
      (inb v1 44) ∧ (
      if 0 < (p4.1 13 17 (v1).toNatClampNeg) then (
        (inb v1 44) ∧ (
        let p6 : PM := pI p4 15 3 (v1).toNatClampNeg (cn 1)
        True))
      else (
        (inb v1 44) ∧ (
        let p5 : PM := pI p4 15 3 (v1).toNatClampNeg (cn 0)
        True)))))))))))
  else (
    (inb v1 44) ∧ (
    let p10 : PM := pI p1 13 22 (v1).toNatClampNeg ((p1.1 13 22 (v1).toNatClampNeg) - v2)
    (inb v1 44) ∧ (
    let p11 : PM := pI p10 15 6 (v1).toNatClampNeg (cn 1)
    (inb v1 44) ∧ (
    (inb (p11.1 13 15 (v1).toNatClampNeg) 8) ∧ (
    (inb v1 44) ∧ (
    if (p11.1 13 19 (v1).toNatClampNeg) = (cn 4) then (
      (inb (p11.1 13 15 (v1).toNatClampNeg) 8) ∧ (
      let p15 : PM := pI p11 13 4 ((p11.1 13 15 (v1).toNatClampNeg)).toNatClampNeg ((p11.1 13 4 ((p11.1 13 15 (v1).toNatClampNeg)).toNatClampNeg) + v2)
      (inb v1 44) ∧ (
      if 0 < (p15.1 13 17 (v1).toNatClampNeg) then (
        (inb v1 44) ∧ (
        let p17 : PM := pI p15 15 3 (v1).toNatClampNeg (cn 1)
        True))
      else (
        (inb v1 44) ∧ (
        let p16 : PM := pI p15 15 3 (v1).toNatClampNeg (cn 0)
        True)))))
    else (
      (inb (p11.1 13 15 (v1).toNatClampNeg) 8) ∧ (
      let p12 : PM := pI p11 13 4 ((p11.1 13 15 (v1).toNatClampNeg)).toNatClampNeg ((p11.1 13 4 ((p11.1 13 15 (v1).toNatClampNeg)).toNatClampNeg) + (cn 0))
      (inb v1 44) ∧ (
      if 0 < (p12.1 13 17 (v1).toNatClampNeg) then (
        (inb v1 44) ∧ (
        let p14 : PM := pI p12 15 3 (v1).toNatClampNeg (cn 1)
        True))
      else (
        (inb v1 44) ∧ (
        let p13 : PM := pI p12 15 3 (v1).toNatClampNeg (cn 0)
        True))))))))))))))
noncomputable def g12_falls (p : PM) (v1 : Int32) (v2 : Int32) (v3 : Int32) : Prop := bg12_falls p v1 v2 v3
def R236 : List Row := [(0, .aload_n 0, 1, 0, (0, 0, 0, 0, 0, 0)), (1, .getfield 75, 3, 0, (12, 24, 16, 2, 17, 0)), (4, .iload_n 1, 1, 0, (0, 0, 0, 0, 0, 0)), (5, .dup2, 1, 0, (0, 0, 0, 0, 0, 0)), (6, .iaload, 1, 0, (13, 44, 0, 0, 0, 0)), (7, .iload_n 2, 1, 0, (0, 0, 0, 0, 0, 0)), (8, .isub, 1, 0, (0, 0, 0, 0, 0, 0)), (9, .iastore, 1, 0, (13, 44, 0, 0, 0, 0)), (10, .aload_n 0, 1, 0, (0, 0, 0, 0, 0, 0)), (11, .getfield 93, 3, 0, (12, 30, 16, 2, 22, 0)), (14, .iload_n 1, 1, 0, (0, 0, 0, 0, 0, 0)), (15, .dup2, 1, 0, (0, 0, 0, 0, 0, 0)), (16, .iaload, 1, 0, (13, 44, 0, 0, 0, 0)), (17, .iload_n 3, 1, 0, (0, 0, 0, 0, 0, 0)), (18, .ifCond .eq 7, 3, 0, (0, 0, 0, 0, 0, 0)), (21, .iload_n 2, 1, 0, (0, 0, 0, 0, 0, 0)), (22, .goto 4, 3, 0, (0, 0, 0, 0, 0, 0)), (25, .iconst 0, 1, 0, (0, 0, 0, 0, 0, 0)), (26, .isub, 1, 0, (0, 0, 0, 0, 0, 0)), (27, .iastore, 1, 0, (13, 44, 0, 0, 0, 0)), (28, .aload_n 0, 1, 0, (0, 0, 0, 0, 0, 0)), (29, .getfield 114, 3, 0, (12, 37, 18, 2, 6, 0)), (32, .iload_n 1, 1, 0, (0, 0, 0, 0, 0, 0)), (33, .iconst 1, 1, 0, (0, 0, 0, 0, 0, 1)), (34, .bastore, 1, 0, (15, 44, 0, 0, 0, 0)), (35, .aload_n 0, 1, 0, (0, 0, 0, 0, 0, 0)), (36, .getfield 23, 3, 0, (12, 5, 16, 2, 4, 0)), (39, .aload_n 0, 1, 0, (0, 0, 0, 0, 0, 0)), (40, .getfield 66, 3, 0, (12, 21, 16, 2, 15, 0)), (43, .iload_n 1, 1, 0, (0, 0, 0, 0, 0, 0)), (44, .iaload, 1, 0, (13, 44, 0, 0, 0, 0)), (45, .dup2, 1, 0, (0, 0, 0, 0, 0, 0)), (46, .iaload, 1, 0, (13, 8, 0, 0, 0, 0)), (47, .aload_n 0, 1, 0, (0, 0, 0, 0, 0, 0)), (48, .getfield 84, 3, 0, (12, 27, 16, 2, 19, 0)), (51, .iload_n 1, 1, 0, (0, 0, 0, 0, 0, 0)), (52, .iaload, 1, 0, (13, 44, 0, 0, 0, 0)), (53, .iconst 4, 1, 0, (0, 0, 0, 0, 0, 4)), (54, .if_icmp .ne 7, 3, 0, (0, 0, 0, 0, 0, 0)), (57, .iload_n 2, 1, 0, (0, 0, 0, 0, 0, 0)), (58, .goto 4, 3, 0, (0, 0, 0, 0, 0, 0)), (61, .iconst 0, 1, 0, (0, 0, 0, 0, 0, 0)), (62, .iadd, 1, 0, (0, 0, 0, 0, 0, 0)), (63, .iastore, 1, 0, (13, 8, 0, 0, 0, 0)), (64, .aload_n 0, 1, 0, (0, 0, 0, 0, 0, 0)), (65, .getfield 60, 3, 0, (12, 19, 18, 2, 3, 0)), (68, .iload_n 1, 1, 0, (0, 0, 0, 0, 0, 0)), (69, .aload_n 0, 1, 0, (0, 0, 0, 0, 0, 0)), (70, .getfield 75, 3, 0, (12, 24, 16, 2, 17, 0)), (73, .iload_n 1, 1, 0, (0, 0, 0, 0, 0, 0)), (74, .iaload, 1, 0, (13, 44, 0, 0, 0, 0)), (75, .ifCond .le 7, 3, 0, (0, 0, 0, 0, 0, 0)), (78, .iconst 1, 1, 0, (0, 0, 0, 0, 0, 1)), (79, .goto 4, 3, 0, (0, 0, 0, 0, 0, 0)), (82, .iconst 0, 1, 0, (0, 0, 0, 0, 0, 0)), (83, .bastore, 1, 0, (15, 44, 0, 0, 0, 0)), (84, .return_, 1, 0, (0, 0, 0, 0, 0, 0))]
set_option maxRecDepth 100000 in
theorem rk236 : R236.all (rok 2 236 0 []) = true := by decide +kernel
set_option maxRecDepth 100000 in
theorem tab236 : TabOK 2 236 0 [] R236 := tab_ok (K := K236) rfl rfl (fun h => d236 h) rk236 (by decide +kernel)
set_option maxRecDepth 100000 in
theorem pc236 : cutpc [] R236 = true := by decide +kernel
set_option maxRecDepth 100000 in
theorem r12_falls : ∀ (p : PM) (v1 : Int32) (v2 : Int32) (v3 : Int32), Gr 2 p → bg12_falls p v1 v2 v3 → ZJ 2 236 0 [zR 12 1, zI v1, zI v2, zI v3] [] p (hwV (bv12_falls p v1 v2 v3)) := by
  intro p v1 v2 v3  hg H
  exact rwV (n := 3000) (q := 0) (la := [zR 12 1, zI v1, zI v2, zI v3]) (sa := []) (ks := []) (gs := []) (fnil) tab236 pc236 trivial hg H
theorem t12_falls : ∀ (p : PM) (v1 : Int32) (v2 : Int32) (v3 : Int32), Gr 2 p → g12_falls p v1 v2 v3 → ZJ 2 236 0 [zR 12 1, zI v1, zI v2, zI v3] [] p (hwV (v12_falls p v1 v2 v3)) := r12_falls
def CC236 (F : PM → Int32 → Int32 → Int32 → PM) (G : PM → Int32 → Int32 → Int32 → Prop) : Cal := (236, [15, 0, 0, 0], 0, false, fun as p => (zJ, (F p (ai as 1) (ai as 2) (ai as 3))), fun as p => zsw (tc2 as [(112, 1), (0, 0), (0, 0), (0, 0)]) False (G p (ai as 1) (ai as 2) (ai as 3)))
set_option maxRecDepth 100000 in
theorem okr236 (F : PM → Int32 → Int32 → Int32 → PM) (G : PM → Int32 → Int32 → Int32 → Prop) (h : ∀ (p : PM) (v1 : Int32) (v2 : Int32) (v3 : Int32), Gr 2 p → G p v1 v2 v3 → ZJ 2 236 0 [zR 12 1, zI v1, zI v2, zI v3] [] p (hwV (F p v1 v2 v3))) : CalOK 2 (CC236 F G) := cal_ok (m := 4) (by unfold mL; rw [mX_236]) (fun as p hg H => h p (ai as 1) (ai as 2) (ai as 3) hg H)
theorem ok236 : CalOK 2 (CC236 v12_falls g12_falls) := okr236 v12_falls g12_falls t12_falls
noncomputable def bv12_guards_50 (kv50 : PM → Int32 → Int32 → PM) (p : PM) (v2 : Int32) (v3 : Int32) : PM :=
  if v3 < (cn 44) then (
    if (p.1 15 3 (v3).toNatClampNeg) = 0 then (
      let p1 : PM := pI p 15 3 (v3).toNatClampNeg (cn 0)
      kv50 p1 v2 (v3 + (cn 1)))
    else (
      if (p.1 13 15 (v3).toNatClampNeg) = v2 then (
        if (p.1 13 19 (v3).toNatClampNeg) = (cn 4) then (
          let p3 : PM := pI p 15 3 (v3).toNatClampNeg (cn 0)
          kv50 p3 v2 (v3 + (cn 1)))
        else (
          let p4 : PM := pI p 15 3 (v3).toNatClampNeg (cn 1)
          kv50 p4 v2 (v3 + (cn 1))))
      else (
        let p2 : PM := pI p 15 3 (v3).toNatClampNeg (cn 1)
        kv50 p2 v2 (v3 + (cn 1)))))
  else (
    p)
noncomputable def v12_guards_50 (n : Nat) : PM → Int32 → Int32 → PM := Nat.rec (motive := fun _ => PM → Int32 → Int32 → PM) (fun p _ _ => p) (fun _ ih => bv12_guards_50 ih) n
theorem ev12_guards_50 (n : Nat) (p : PM) (v2 : Int32) (v3 : Int32) : v12_guards_50 (n + 1) p v2 v3 = bv12_guards_50 (v12_guards_50 n) p v2 v3 := rfl
noncomputable def bg12_guards_50 (kg50 : PM → Int32 → Int32 → Prop) (p : PM) (v2 : Int32) (v3 : Int32) : Prop :=
  if v3 < (cn 44) then (
    (inb v3 44) ∧ (
    if (p.1 15 3 (v3).toNatClampNeg) = 0 then (
      (inb v3 44) ∧ (
      let p1 : PM := pI p 15 3 (v3).toNatClampNeg (cn 0)
      kg50 p1 v2 (v3 + (cn 1))))
    else (
      (inb v3 44) ∧ (
      if (p.1 13 15 (v3).toNatClampNeg) = v2 then (
        (inb v3 44) ∧ (
        if (p.1 13 19 (v3).toNatClampNeg) = (cn 4) then (
          (inb v3 44) ∧ (
          let p3 : PM := pI p 15 3 (v3).toNatClampNeg (cn 0)
          kg50 p3 v2 (v3 + (cn 1))))
        else (
          (inb v3 44) ∧ (
          let p4 : PM := pI p 15 3 (v3).toNatClampNeg (cn 1)
          kg50 p4 v2 (v3 + (cn 1))))))
      else (
        (inb v3 44) ∧ (
        let p2 : PM := pI p 15 3 (v3).toNatClampNeg (cn 1)
        kg50 p2 v2 (v3 + (cn 1))))))))
  else (
    True)
noncomputable def g12_guards_50 (n : Nat) : PM → Int32 → Int32 → Prop := Nat.rec (motive := fun _ => PM → Int32 → Int32 → Prop) (fun _ _ _ => False) (fun _ ih => bg12_guards_50 ih) n
theorem eg12_guards_50 (n : Nat) (p : PM) (v2 : Int32) (v3 : Int32) : g12_guards_50 (n + 1) p v2 v3 = bg12_guards_50 (g12_guards_50 n) p v2 v3 := rfl
noncomputable def bv12_guards (kv50 : PM → Int32 → Int32 → PM) (p : PM) (v1 : Int32) : PM :=
  let x1 : Int32 := (p.1 13 15 (v1).toNatClampNeg)
  if (p.1 13 19 (v1).toNatClampNeg) = (cn 4) then (
    if 0 < (p.1 13 3 (x1).toNatClampNeg) then (
      if (p.1 13 4 (x1).toNatClampNeg) < (p.1 13 3 (x1).toNatClampNeg) then (
        p)
      else (
        let p2 : PM := pI p 15 1 (x1).toNatClampNeg (cn 1)
        kv50 p2 x1 (cn 0)))
    else (
      p))
  else (
    p)
noncomputable def v12_guards (p : PM) (v1 : Int32) : PM := bv12_guards (v12_guards_50 FU) p v1
noncomputable def bg12_guards (kg50 : PM → Int32 → Int32 → Prop) (p : PM) (v1 : Int32) : Prop :=
  (inb v1 44) ∧ (
  let x1 : Int32 := (p.1 13 15 (v1).toNatClampNeg)
  (inb v1 44) ∧ (
  if (p.1 13 19 (v1).toNatClampNeg) = (cn 4) then (
    (inb x1 8) ∧ (
    if 0 < (p.1 13 3 (x1).toNatClampNeg) then (
      (inb x1 8) ∧ (
      (inb x1 8) ∧ (
      if (p.1 13 4 (x1).toNatClampNeg) < (p.1 13 3 (x1).toNatClampNeg) then (
        True)
      else (
        (inb x1 8) ∧ (
        let p2 : PM := pI p 15 1 (x1).toNatClampNeg (cn 1)
        kg50 p2 x1 (cn 0))))))
    else (
      True)))
  else (
    True)))
noncomputable def g12_guards (p : PM) (v1 : Int32) : Prop := bg12_guards (g12_guards_50 FU) p v1
def R237 : List Row := [(0, .aload_n 0, 1, 0, (0, 0, 0, 0, 0, 0)), (1, .getfield 66, 3, 0, (12, 21, 16, 2, 15, 0)), (4, .iload_n 1, 1, 0, (0, 0, 0, 0, 0, 0)), (5, .iaload, 1, 0, (13, 44, 0, 0, 0, 0)), (6, .istore_n 2, 1, 0, (0, 0, 0, 0, 0, 0)), (7, .aload_n 0, 1, 0, (0, 0, 0, 0, 0, 0)), (8, .getfield 84, 3, 0, (12, 27, 16, 2, 19, 0)), (11, .iload_n 1, 1, 0, (0, 0, 0, 0, 0, 0)), (12, .iaload, 1, 0, (13, 44, 0, 0, 0, 0)), (13, .iconst 4, 1, 0, (0, 0, 0, 0, 0, 4)), (14, .if_icmp .ne 88, 3, 0, (0, 0, 0, 0, 0, 0)), (17, .aload_n 0, 1, 0, (0, 0, 0, 0, 0, 0)), (18, .getfield 20, 3, 0, (12, 4, 16, 2, 3, 0)), (21, .iload_n 2, 1, 0, (0, 0, 0, 0, 0, 0)), (22, .iaload, 1, 0, (13, 8, 0, 0, 0, 0)), (23, .ifCond .le 79, 3, 0, (0, 0, 0, 0, 0, 0)), (26, .aload_n 0, 1, 0, (0, 0, 0, 0, 0, 0)), (27, .getfield 23, 3, 0, (12, 5, 16, 2, 4, 0)), (30, .iload_n 2, 1, 0, (0, 0, 0, 0, 0, 0)), (31, .iaload, 1, 0, (13, 8, 0, 0, 0, 0)), (32, .aload_n 0, 1, 0, (0, 0, 0, 0, 0, 0)), (33, .getfield 20, 3, 0, (12, 4, 16, 2, 3, 0)), (36, .iload_n 2, 1, 0, (0, 0, 0, 0, 0, 0)), (37, .iaload, 1, 0, (13, 8, 0, 0, 0, 0)), (38, .if_icmp .lt 64, 3, 0, (0, 0, 0, 0, 0, 0)), (41, .aload_n 0, 1, 0, (0, 0, 0, 0, 0, 0)), (42, .getfield 26, 3, 0, (12, 6, 18, 2, 1, 0)), (45, .iload_n 2, 1, 0, (0, 0, 0, 0, 0, 0)), (46, .iconst 1, 1, 0, (0, 0, 0, 0, 0, 1)), (47, .bastore, 1, 0, (15, 8, 0, 0, 0, 0)), (48, .iconst 0, 1, 0, (0, 0, 0, 0, 0, 0)), (49, .istore_n 3, 1, 0, (0, 0, 0, 0, 0, 0)), (50, .iload_n 3, 1, 1, (0, 0, 0, 0, 0, 0)), (51, .bipush 44, 2, 0, (0, 0, 0, 0, 0, 44)), (53, .if_icmp .ge 49, 3, 0, (0, 0, 0, 0, 0, 0)), (56, .aload_n 0, 1, 0, (0, 0, 0, 0, 0, 0)), (57, .getfield 60, 3, 0, (12, 19, 18, 2, 3, 0)), (60, .iload_n 3, 1, 0, (0, 0, 0, 0, 0, 0)), (61, .aload_n 0, 1, 0, (0, 0, 0, 0, 0, 0)), (62, .getfield 60, 3, 0, (12, 19, 18, 2, 3, 0)), (65, .iload_n 3, 1, 0, (0, 0, 0, 0, 0, 0)), (66, .baload, 1, 0, (15, 44, 0, 0, 0, 0)), (67, .ifCond .eq 27, 3, 0, (0, 0, 0, 0, 0, 0)), (70, .aload_n 0, 1, 0, (0, 0, 0, 0, 0, 0)), (71, .getfield 66, 3, 0, (12, 21, 16, 2, 15, 0)), (74, .iload_n 3, 1, 0, (0, 0, 0, 0, 0, 0)), (75, .iaload, 1, 0, (13, 44, 0, 0, 0, 0)), (76, .iload_n 2, 1, 0, (0, 0, 0, 0, 0, 0)), (77, .if_icmp .ne 13, 3, 0, (0, 0, 0, 0, 0, 0)), (80, .aload_n 0, 1, 0, (0, 0, 0, 0, 0, 0)), (81, .getfield 84, 3, 0, (12, 27, 16, 2, 19, 0)), (84, .iload_n 3, 1, 0, (0, 0, 0, 0, 0, 0)), (85, .iaload, 1, 0, (13, 44, 0, 0, 0, 0)), (86, .iconst 4, 1, 0, (0, 0, 0, 0, 0, 4)), (87, .if_icmp .eq 7, 3, 0, (0, 0, 0, 0, 0, 0)), (90, .iconst 1, 1, 0, (0, 0, 0, 0, 0, 1)), (91, .goto 4, 3, 0, (0, 0, 0, 0, 0, 0)), (94, .iconst 0, 1, 0, (0, 0, 0, 0, 0, 0)), (95, .bastore, 1, 0, (15, 44, 0, 0, 0, 0)), (96, .iinc 3 1, 3, 0, (0, 0, 0, 0, 0, 1)), (99, .goto (-49), 3, 0, (0, 0, 0, 0, 0, 0)), (102, .return_, 1, 0, (0, 0, 0, 0, 0, 0))]
set_option maxRecDepth 100000 in
theorem rk237 : R237.all (rok 2 237 0 []) = true := by decide +kernel
set_option maxRecDepth 100000 in
theorem tab237 : TabOK 2 237 0 [] R237 := tab_ok (K := K237) rfl rfl (fun h => d237 h) rk237 (by decide +kernel)
set_option maxRecDepth 100000 in
theorem pc237 : cutpc [50] R237 = true := by decide +kernel
set_option maxRecDepth 100000 in
theorem r12_guards_50 (kv50 : PM → Int32 → Int32 → PM) (kg50 : PM → Int32 → Int32 → Prop) (hk50 : ∀ (p : PM) (v2 : Int32) (v3 : Int32) (d1 : ZV), Gr 2 p → kg50 p v2 v3 → ZJ 2 237 50 [zR 12 1, d1, zI v2, zI v3] [] p (hwV (kv50 p v2 v3))) : ∀ (p : PM) (v2 : Int32) (v3 : Int32) (d1 : ZV), Gr 2 p → bg12_guards_50 kg50 p v2 v3 → ZJ 2 237 50 [zR 12 1, d1, zI v2, zI v3] [] p (hwV (bv12_guards_50 kv50 p v2 v3)) := by
  intro p v2 v3 d1 hg H
  exact rwV (n := 3000) (q := 50) (la := [zR 12 1, d1, zI v2, zI v3]) (sa := []) (ks := [fun la sa s => kv50 s (ai la 2) (ai la 3)]) (gs := [fun la sa s => zsw (tc2 la [(112, 1), (2, 0), (0, 0), (0, 0)] && tc2 sa []) False (kg50 s (ai la 2) (ai la 3))]) (fnil) tab237 pc237 ⟨fun la sa s hg H => zcut H fun H => hk50 s (ai la 2) (ai la 3) (zld la 1) hg H, trivial⟩ hg H
theorem t12_guards_50 : ∀ (n : Nat), ∀ (p : PM) (v2 : Int32) (v3 : Int32) (d1 : ZV), Gr 2 p → g12_guards_50 n p v2 v3 → ZJ 2 237 50 [zR 12 1, d1, zI v2, zI v3] [] p (hwV (v12_guards_50 n p v2 v3)) := by
  intro n
  induction n with
  | zero =>
    intro p v2 v3 d1 hg H
    exact H.elim
  | succ n ih => exact r12_guards_50 (v12_guards_50 n) (g12_guards_50 n) ih
set_option maxRecDepth 100000 in
theorem r12_guards (kv50 : PM → Int32 → Int32 → PM) (kg50 : PM → Int32 → Int32 → Prop) (hk50 : ∀ (p : PM) (v2 : Int32) (v3 : Int32) (d1 : ZV), Gr 2 p → kg50 p v2 v3 → ZJ 2 237 50 [zR 12 1, d1, zI v2, zI v3] [] p (hwV (kv50 p v2 v3))) : ∀ (p : PM) (v1 : Int32), Gr 2 p → bg12_guards kg50 p v1 → ZJ 2 237 0 [zR 12 1, zI v1, zJ, zJ] [] p (hwV (bv12_guards kv50 p v1)) := by
  intro p v1  hg H
  exact rwV (n := 3000) (q := 0) (la := [zR 12 1, zI v1, zJ, zJ]) (sa := []) (ks := [fun la sa s => kv50 s (ai la 2) (ai la 3)]) (gs := [fun la sa s => zsw (tc2 la [(112, 1), (2, 0), (0, 0), (0, 0)] && tc2 sa []) False (kg50 s (ai la 2) (ai la 3))]) (fnil) tab237 pc237 ⟨fun la sa s hg H => zcut H fun H => hk50 s (ai la 2) (ai la 3) (zld la 1) hg H, trivial⟩ hg H
theorem t12_guards : ∀ (p : PM) (v1 : Int32), Gr 2 p → g12_guards p v1 → ZJ 2 237 0 [zR 12 1, zI v1, zJ, zJ] [] p (hwV (v12_guards p v1)) := r12_guards (v12_guards_50 FU) (g12_guards_50 FU) (t12_guards_50 FU)
def CC237 (F : PM → Int32 → PM) (G : PM → Int32 → Prop) : Cal := (237, [15, 0], 0, false, fun as p => (zJ, (F p (ai as 1))), fun as p => zsw (tc2 as [(112, 1), (0, 0)]) False (G p (ai as 1)))
set_option maxRecDepth 100000 in
theorem okr237 (F : PM → Int32 → PM) (G : PM → Int32 → Prop) (h : ∀ (p : PM) (v1 : Int32), Gr 2 p → G p v1 → ZJ 2 237 0 [zR 12 1, zI v1, zJ, zJ] [] p (hwV (F p v1))) : CalOK 2 (CC237 F G) := cal_ok (m := 4) (by unfold mL; rw [mX_237]) (fun as p hg H => h p (ai as 1) hg H)
theorem ok237 : CalOK 2 (CC237 v12_guards g12_guards) := okr237 v12_guards g12_guards t12_guards
noncomputable def bv12_isThere (p : PM) (v1 : Int32) (v2 : Int32) (v3 : Int32) : Int32 :=
  if (p.1 15 3 (v1).toNatClampNeg) = 0 then (
    (cn 0))
  else (
    if (p.1 13 24 (v1).toNatClampNeg) = (cn 1) then (
      if (p.1 13 16 (v1).toNatClampNeg) = v2 then (
        if (p.1 15 4 (v1).toNatClampNeg) = v3 then (
          (cn 1))
        else (
          (cn 0)))
      else (
        (cn 0)))
    else (
      (cn 0)))
noncomputable def v12_isThere (p : PM) (v1 : Int32) (v2 : Int32) (v3 : Int32) : Int32 := bv12_isThere p v1 v2 v3
noncomputable def bg12_isThere (p : PM) (v1 : Int32) (v2 : Int32) (v3 : Int32) : Prop :=
  (inb v1 44) ∧ (
  if (p.1 15 3 (v1).toNatClampNeg) = 0 then (
    True)
  else (
    (inb v1 44) ∧ (
    if (p.1 13 24 (v1).toNatClampNeg) = (cn 1) then (
      (inb v1 44) ∧ (
      if (p.1 13 16 (v1).toNatClampNeg) = v2 then (
        (inb v1 44) ∧ (
        if (p.1 15 4 (v1).toNatClampNeg) = v3 then (
          True)
        else (
          True)))
      else (
        True)))
    else (
      True))))
noncomputable def g12_isThere (p : PM) (v1 : Int32) (v2 : Int32) (v3 : Int32) : Prop := bg12_isThere p v1 v2 v3
def R238 : List Row := [(0, .aload_n 0, 1, 0, (0, 0, 0, 0, 0, 0)), (1, .getfield 60, 3, 0, (12, 19, 18, 2, 3, 0)), (4, .iload_n 1, 1, 0, (0, 0, 0, 0, 0, 0)), (5, .baload, 1, 0, (15, 44, 0, 0, 0, 0)), (6, .ifCond .eq 37, 3, 0, (0, 0, 0, 0, 0, 0)), (9, .aload_n 0, 1, 0, (0, 0, 0, 0, 0, 0)), (10, .getfield 99, 3, 0, (12, 32, 16, 2, 24, 0)), (13, .iload_n 1, 1, 0, (0, 0, 0, 0, 0, 0)), (14, .iaload, 1, 0, (13, 44, 0, 0, 0, 0)), (15, .iconst 1, 1, 0, (0, 0, 0, 0, 0, 1)), (16, .if_icmp .ne 27, 3, 0, (0, 0, 0, 0, 0, 0)), (19, .aload_n 0, 1, 0, (0, 0, 0, 0, 0, 0)), (20, .getfield 69, 3, 0, (12, 22, 16, 2, 16, 0)), (23, .iload_n 1, 1, 0, (0, 0, 0, 0, 0, 0)), (24, .iaload, 1, 0, (13, 44, 0, 0, 0, 0)), (25, .iload_n 2, 1, 0, (0, 0, 0, 0, 0, 0)), (26, .if_icmp .ne 17, 3, 0, (0, 0, 0, 0, 0, 0)), (29, .aload_n 0, 1, 0, (0, 0, 0, 0, 0, 0)), (30, .getfield 72, 3, 0, (12, 23, 18, 2, 4, 0)), (33, .iload_n 1, 1, 0, (0, 0, 0, 0, 0, 0)), (34, .baload, 1, 0, (15, 44, 0, 0, 0, 0)), (35, .iload_n 3, 1, 0, (0, 0, 0, 0, 0, 0)), (36, .if_icmp .ne 7, 3, 0, (0, 0, 0, 0, 0, 0)), (39, .iconst 1, 1, 0, (0, 0, 0, 0, 0, 1)), (40, .goto 4, 3, 0, (0, 0, 0, 0, 0, 0)), (43, .iconst 0, 1, 0, (0, 0, 0, 0, 0, 0)), (44, .ireturn, 1, 0, (1, 0, 0, 0, 0, 0))]
set_option maxRecDepth 100000 in
theorem rk238 : R238.all (rok 2 238 1 []) = true := by decide +kernel
set_option maxRecDepth 100000 in
theorem tab238 : TabOK 2 238 1 [] R238 := tab_ok (K := K238) rfl rfl (fun h => d238 h) rk238 (by decide +kernel)
set_option maxRecDepth 100000 in
theorem pc238 : cutpc [] R238 = true := by decide +kernel
set_option maxRecDepth 100000 in
theorem r12_isThere (p : PM) (hg : Gr 2 p) : ∀ (v1 : Int32) (v2 : Int32) (v3 : Int32), bg12_isThere p v1 v2 v3 → ZJ 2 238 0 [zR 12 1, zI v1, zI v2, zI v3] [] p (hoI p (bv12_isThere p v1 v2 v3)) := by
  intro v1 v2 v3  H
  exact roI (n := 3000) (q := 0) (la := [zR 12 1, zI v1, zI v2, zI v3]) (sa := []) (ks := []) (gs := []) (fnil) tab238 pc238 trivial hg H
theorem t12_isThere (p : PM) (hg : Gr 2 p) : ∀ (v1 : Int32) (v2 : Int32) (v3 : Int32), g12_isThere p v1 v2 v3 → ZJ 2 238 0 [zR 12 1, zI v1, zI v2, zI v3] [] p (hoI p (v12_isThere p v1 v2 v3)) := r12_isThere p hg
def CC238 (F : PM → Int32 → Int32 → Int32 → Int32) (G : PM → Int32 → Int32 → Int32 → Prop) : Cal := (238, [15, 0, 0, 0], 1, true, fun as p => (zI (F p (ai as 1) (ai as 2) (ai as 3)), p), fun as p => zsw (tc2 as [(112, 1), (0, 0), (0, 0), (0, 0)]) False (G p (ai as 1) (ai as 2) (ai as 3)))
set_option maxRecDepth 100000 in
theorem okr238 (F : PM → Int32 → Int32 → Int32 → Int32) (G : PM → Int32 → Int32 → Int32 → Prop) (h : ∀ (p : PM) (v1 : Int32) (v2 : Int32) (v3 : Int32), Gr 2 p → G p v1 v2 v3 → ZJ 2 238 0 [zR 12 1, zI v1, zI v2, zI v3] [] p (hoI p (F p v1 v2 v3))) : CalOK 2 (CC238 F G) := cal_ok (m := 4) (by unfold mL; rw [mX_238]) (fun as p hg H => h p (ai as 1) (ai as 2) (ai as 3) hg H)
theorem ok238 : CalOK 2 (CC238 v12_isThere g12_isThere) := okr238 v12_isThere g12_isThere (fun p v1 v2 v3 hg H => t12_isThere p hg v1 v2 v3 H)
noncomputable def bv12_isBetter (p : PM) (v0 : Int32) (v1 : Int32) (v2 : Int32) : Int32 :=
  if v2 = 0 then (
    if v0 < v1 then (
      (cn 1))
    else (
      (cn 0)))
  else (
    if v1 < v0 then (
      (cn 1))
    else (
      (cn 0)))
noncomputable def v12_isBetter (p : PM) (v0 : Int32) (v1 : Int32) (v2 : Int32) : Int32 := bv12_isBetter p v0 v1 v2
noncomputable def bg12_isBetter (p : PM) (v0 : Int32) (v1 : Int32) (v2 : Int32) : Prop :=
  if v2 = 0 then (
    if v0 < v1 then (
      True)
    else (
      True))
  else (
    if v1 < v0 then (
      True)
    else (
      True))
noncomputable def g12_isBetter (p : PM) (v0 : Int32) (v1 : Int32) (v2 : Int32) : Prop := bg12_isBetter p v0 v1 v2
def R239 : List Row := [(0, .iload_n 2, 1, 0, (0, 0, 0, 0, 0, 0)), (1, .ifCond .eq 16, 3, 0, (0, 0, 0, 0, 0, 0)), (4, .iload_n 0, 1, 0, (0, 0, 0, 0, 0, 0)), (5, .iload_n 1, 1, 0, (0, 0, 0, 0, 0, 0)), (6, .if_icmp .le 7, 3, 0, (0, 0, 0, 0, 0, 0)), (9, .iconst 1, 1, 0, (0, 0, 0, 0, 0, 1)), (10, .goto 17, 3, 0, (0, 0, 0, 0, 0, 0)), (13, .iconst 0, 1, 0, (0, 0, 0, 0, 0, 0)), (14, .goto 13, 3, 0, (0, 0, 0, 0, 0, 0)), (17, .iload_n 0, 1, 0, (0, 0, 0, 0, 0, 0)), (18, .iload_n 1, 1, 0, (0, 0, 0, 0, 0, 0)), (19, .if_icmp .ge 7, 3, 0, (0, 0, 0, 0, 0, 0)), (22, .iconst 1, 1, 0, (0, 0, 0, 0, 0, 1)), (23, .goto 4, 3, 0, (0, 0, 0, 0, 0, 0)), (26, .iconst 0, 1, 0, (0, 0, 0, 0, 0, 0)), (27, .ireturn, 1, 0, (1, 0, 0, 0, 0, 0))]
set_option maxRecDepth 100000 in
theorem rk239 : R239.all (rok 2 239 1 []) = true := by decide +kernel
set_option maxRecDepth 100000 in
theorem tab239 : TabOK 2 239 1 [] R239 := tab_ok (K := K239) rfl rfl (fun h => d239 h) rk239 (by decide +kernel)
set_option maxRecDepth 100000 in
theorem pc239 : cutpc [] R239 = true := by decide +kernel
set_option maxRecDepth 100000 in
theorem r12_isBetter (p : PM) (hg : Gr 2 p) : ∀ (v0 : Int32) (v1 : Int32) (v2 : Int32), bg12_isBetter p v0 v1 v2 → ZJ 2 239 0 [zI v0, zI v1, zI v2] [] p (hoI p (bv12_isBetter p v0 v1 v2)) := by
  intro v0 v1 v2  H
  exact roI (n := 3000) (q := 0) (la := [zI v0, zI v1, zI v2]) (sa := []) (ks := []) (gs := []) (fnil) tab239 pc239 trivial hg H
theorem t12_isBetter (p : PM) (hg : Gr 2 p) : ∀ (v0 : Int32) (v1 : Int32) (v2 : Int32), g12_isBetter p v0 v1 v2 → ZJ 2 239 0 [zI v0, zI v1, zI v2] [] p (hoI p (v12_isBetter p v0 v1 v2)) := r12_isBetter p hg
def CC239 (F : PM → Int32 → Int32 → Int32 → Int32) (G : PM → Int32 → Int32 → Int32 → Prop) : Cal := (239, [0, 0, 0], 1, true, fun as p => (zI (F p (ai as 0) (ai as 1) (ai as 2)), p), fun as p => zsw (tc2 as [(0, 0), (0, 0), (0, 0)]) False (G p (ai as 0) (ai as 1) (ai as 2)))
set_option maxRecDepth 100000 in
theorem okr239 (F : PM → Int32 → Int32 → Int32 → Int32) (G : PM → Int32 → Int32 → Int32 → Prop) (h : ∀ (p : PM) (v0 : Int32) (v1 : Int32) (v2 : Int32), Gr 2 p → G p v0 v1 v2 → ZJ 2 239 0 [zI v0, zI v1, zI v2] [] p (hoI p (F p v0 v1 v2))) : CalOK 2 (CC239 F G) := cal_ok (m := 3) (by unfold mL; rw [mX_239]) (fun as p hg H => h p (ai as 0) (ai as 1) (ai as 2) hg H)
theorem ok239 : CalOK 2 (CC239 v12_isBetter g12_isBetter) := okr239 v12_isBetter g12_isBetter (fun p v0 v1 v2 hg H => t12_isBetter p hg v0 v1 v2 H)
noncomputable def bv12_bestOf_7 (p : PM) (F238 : PM → Int32 → Int32 → Int32 → Int32) (F239 : PM → Int32 → Int32 → Int32 → Int32) (kv7 : Int32 → Int32 → Int32 → Int32 → Int32 → Int32) (v1 : Int32) (v2 : Int32) (v3 : Int32) (v4 : Int32) (v5 : Int32) : Int32 :=
  if v5 < (cn 44) then (
    if (F238 p v5 v1 v2) = 0 then (
      kv7 v1 v2 v3 v4 (v5 + (cn 1)))
    else (
      if (p.1 15 5 (v5).toNatClampNeg) = 0 then (
        if v3 = 0 then (
          if (p.1 13 19 (v5).toNatClampNeg) = (cn 2) then (
            kv7 v1 v2 v3 v4 (v5 + (cn 1)))
          else (
            if v4 = (cn (-100000)) then (
              let x3 : Int32 := (p.1 13 25 (v5).toNatClampNeg)
              kv7 v1 v2 v3 x3 (v5 + (cn 1)))
            else (
              if (F239 p (p.1 13 25 (v5).toNatClampNeg) v4 v2) = 0 then (
                kv7 v1 v2 v3 v4 (v5 + (cn 1)))
              else (
                let x4 : Int32 := (p.1 13 25 (v5).toNatClampNeg)
                kv7 v1 v2 v3 x4 (v5 + (cn 1))))))
        else (
          if v4 = (cn (-100000)) then (
            let x1 : Int32 := (p.1 13 25 (v5).toNatClampNeg)
            kv7 v1 v2 v3 x1 (v5 + (cn 1)))
          else (
            if (F239 p (p.1 13 25 (v5).toNatClampNeg) v4 v2) = 0 then (
              kv7 v1 v2 v3 v4 (v5 + (cn 1)))
            else (
              let x2 : Int32 := (p.1 13 25 (v5).toNatClampNeg)
              kv7 v1 v2 v3 x2 (v5 + (cn 1))))))
      else (
        kv7 v1 v2 v3 v4 (v5 + (cn 1)))))
  else (
    v4)
noncomputable def v12_bestOf_7 (p : PM) (n : Nat) : Int32 → Int32 → Int32 → Int32 → Int32 → Int32 := Nat.rec (motive := fun _ => Int32 → Int32 → Int32 → Int32 → Int32 → Int32) (fun _ _ _ _ _ => 0) (fun _ ih => bv12_bestOf_7 p v12_isThere v12_isBetter ih) n
theorem ev12_bestOf_7 (p : PM) (n : Nat) (v1 : Int32) (v2 : Int32) (v3 : Int32) (v4 : Int32) (v5 : Int32) : v12_bestOf_7 p (n + 1) v1 v2 v3 v4 v5 = bv12_bestOf_7 p v12_isThere v12_isBetter (v12_bestOf_7 p n) v1 v2 v3 v4 v5 := rfl
noncomputable def bg12_bestOf_7 (p : PM) (F238 : PM → Int32 → Int32 → Int32 → Int32) (G238 : PM → Int32 → Int32 → Int32 → Prop) (F239 : PM → Int32 → Int32 → Int32 → Int32) (G239 : PM → Int32 → Int32 → Int32 → Prop) (kg7 : Int32 → Int32 → Int32 → Int32 → Int32 → Prop) (v1 : Int32) (v2 : Int32) (v3 : Int32) (v4 : Int32) (v5 : Int32) : Prop :=
  if v5 < (cn 44) then (
    (G238 p v5 v1 v2) ∧ (
    if (F238 p v5 v1 v2) = 0 then (
      kg7 v1 v2 v3 v4 (v5 + (cn 1)))
    else (
      (inb v5 44) ∧ (
      if (p.1 15 5 (v5).toNatClampNeg) = 0 then (
        if v3 = 0 then (
          (inb v5 44) ∧ (
          if (p.1 13 19 (v5).toNatClampNeg) = (cn 2) then (
            kg7 v1 v2 v3 v4 (v5 + (cn 1)))
          else (
            if v4 = (cn (-100000)) then (
              (inb v5 44) ∧ (
              let x3 : Int32 := (p.1 13 25 (v5).toNatClampNeg)
              kg7 v1 v2 v3 x3 (v5 + (cn 1))))
            else (
              (inb v5 44) ∧ (
              (G239 p (p.1 13 25 (v5).toNatClampNeg) v4 v2) ∧ (
              if (F239 p (p.1 13 25 (v5).toNatClampNeg) v4 v2) = 0 then (
                kg7 v1 v2 v3 v4 (v5 + (cn 1)))
              else (
                (inb v5 44) ∧ (
                let x4 : Int32 := (p.1 13 25 (v5).toNatClampNeg)
                kg7 v1 v2 v3 x4 (v5 + (cn 1))))))))))
        else (
          if v4 = (cn (-100000)) then (
            (inb v5 44) ∧ (
            let x1 : Int32 := (p.1 13 25 (v5).toNatClampNeg)
            kg7 v1 v2 v3 x1 (v5 + (cn 1))))
          else (
            (inb v5 44) ∧ (
            (G239 p (p.1 13 25 (v5).toNatClampNeg) v4 v2) ∧ (
            if (F239 p (p.1 13 25 (v5).toNatClampNeg) v4 v2) = 0 then (
              kg7 v1 v2 v3 v4 (v5 + (cn 1)))
            else (
              (inb v5 44) ∧ (
              let x2 : Int32 := (p.1 13 25 (v5).toNatClampNeg)
              kg7 v1 v2 v3 x2 (v5 + (cn 1)))))))))
      else (
        kg7 v1 v2 v3 v4 (v5 + (cn 1)))))))
  else (
    True)
noncomputable def g12_bestOf_7 (p : PM) (n : Nat) : Int32 → Int32 → Int32 → Int32 → Int32 → Prop := Nat.rec (motive := fun _ => Int32 → Int32 → Int32 → Int32 → Int32 → Prop) (fun _ _ _ _ _ => False) (fun _ ih => bg12_bestOf_7 p v12_isThere g12_isThere v12_isBetter g12_isBetter ih) n
theorem eg12_bestOf_7 (p : PM) (n : Nat) (v1 : Int32) (v2 : Int32) (v3 : Int32) (v4 : Int32) (v5 : Int32) : g12_bestOf_7 p (n + 1) v1 v2 v3 v4 v5 = bg12_bestOf_7 p v12_isThere g12_isThere v12_isBetter g12_isBetter (g12_bestOf_7 p n) v1 v2 v3 v4 v5 := rfl
noncomputable def bv12_bestOf (p : PM) (kv7 : Int32 → Int32 → Int32 → Int32 → Int32 → Int32) (v1 : Int32) (v2 : Int32) (v3 : Int32) : Int32 :=
  kv7 v1 v2 v3 (cn (-100000)) (cn 0)
noncomputable def v12_bestOf (p : PM) (v1 : Int32) (v2 : Int32) (v3 : Int32) : Int32 := bv12_bestOf p (v12_bestOf_7 p FU) v1 v2 v3
noncomputable def bg12_bestOf (p : PM) (kg7 : Int32 → Int32 → Int32 → Int32 → Int32 → Prop) (v1 : Int32) (v2 : Int32) (v3 : Int32) : Prop :=
  kg7 v1 v2 v3 (cn (-100000)) (cn 0)
noncomputable def g12_bestOf (p : PM) (v1 : Int32) (v2 : Int32) (v3 : Int32) : Prop := bg12_bestOf p (g12_bestOf_7 p FU) v1 v2 v3
def R240 : List Row := [(0, .ldc 184, 2, 0, (0, 0, 0, 0, 0, -100000)), (2, .istore 4, 2, 0, (0, 0, 0, 0, 0, 0)), (4, .iconst 0, 1, 0, (0, 0, 0, 0, 0, 0)), (5, .istore 5, 2, 0, (0, 0, 0, 0, 0, 0)), (7, .iload 5, 2, 1, (0, 0, 0, 0, 0, 0)), (9, .bipush 44, 2, 0, (0, 0, 0, 0, 0, 44)), (11, .if_icmp .ge 82, 3, 0, (0, 0, 0, 0, 0, 0)), (14, .aload_n 0, 1, 0, (0, 0, 0, 0, 0, 0)), (15, .iload 5, 2, 0, (0, 0, 0, 0, 0, 0)), (17, .iload_n 1, 1, 0, (0, 0, 0, 0, 0, 0)), (18, .iload_n 2, 1, 0, (0, 0, 0, 0, 0, 0)), (19, .invokevirtual 244, 3, 0, (0, 4, 0, 0, 1, 0)), (22, .ifCond .eq 65, 3, 0, (0, 0, 0, 0, 0, 0)), (25, .aload_n 0, 1, 0, (0, 0, 0, 0, 0, 0)), (26, .getfield 78, 3, 0, (12, 25, 18, 2, 5, 0)), (29, .iload 5, 2, 0, (0, 0, 0, 0, 0, 0)), (31, .baload, 1, 0, (15, 44, 0, 0, 0, 0)), (32, .ifCond .ne 55, 3, 0, (0, 0, 0, 0, 0, 0)), (35, .iload_n 3, 1, 0, (0, 0, 0, 0, 0, 0)), (36, .ifCond .ne 14, 3, 0, (0, 0, 0, 0, 0, 0)), (39, .aload_n 0, 1, 0, (0, 0, 0, 0, 0, 0)), (40, .getfield 84, 3, 0, (12, 27, 16, 2, 19, 0)), (43, .iload 5, 2, 0, (0, 0, 0, 0, 0, 0)), (45, .iaload, 1, 0, (13, 44, 0, 0, 0, 0)), (46, .iconst 2, 1, 0, (0, 0, 0, 0, 0, 2)), (47, .if_icmp .eq 40, 3, 0, (0, 0, 0, 0, 0, 0)), (50, .iload 4, 2, 0, (0, 0, 0, 0, 0, 0)), (52, .ldc 184, 2, 0, (0, 0, 0, 0, 0, -100000)), (54, .if_icmp .eq 19, 3, 0, (0, 0, 0, 0, 0, 0)), (57, .aload_n 0, 1, 0, (0, 0, 0, 0, 0, 0)), (58, .getfield 102, 3, 0, (12, 33, 16, 2, 25, 0)), (61, .iload 5, 2, 0, (0, 0, 0, 0, 0, 0)), (63, .iaload, 1, 0, (13, 44, 0, 0, 0, 0)), (64, .iload 4, 2, 0, (0, 0, 0, 0, 0, 0)), (66, .iload_n 2, 1, 0, (0, 0, 0, 0, 0, 0)), (67, .invokestatic 248, 3, 0, (1, 3, 0, 0, 0, 0)), (70, .ifCond .eq 13, 3, 0, (0, 0, 0, 0, 0, 0)), (73, .aload_n 0, 1, 0, (0, 0, 0, 0, 0, 0)), (74, .getfield 102, 3, 0, (12, 33, 16, 2, 25, 0)), (77, .iload 5, 2, 0, (0, 0, 0, 0, 0, 0)), (79, .iaload, 1, 0, (13, 44, 0, 0, 0, 0)), (80, .goto 5, 3, 0, (0, 0, 0, 0, 0, 0)), (83, .iload 4, 2, 0, (0, 0, 0, 0, 0, 0)), (85, .istore 4, 2, 0, (0, 0, 0, 0, 0, 0)), (87, .iinc 5 1, 3, 0, (0, 0, 0, 0, 0, 1)), (90, .goto (-83), 3, 0, (0, 0, 0, 0, 0, 0)), (93, .iload 4, 2, 0, (0, 0, 0, 0, 0, 0)), (95, .ireturn, 1, 0, (0, 0, 0, 0, 0, 0))]
set_option maxRecDepth 100000 in
theorem rk240 : R240.all (rok 2 240 1 [(238, [15, 0, 0, 0]), (239, [0, 0, 0])]) = true := by decide +kernel
set_option maxRecDepth 100000 in
theorem tab240 {F238 : PM → Int32 → Int32 → Int32 → Int32} {G238 : PM → Int32 → Int32 → Int32 → Prop} {F239 : PM → Int32 → Int32 → Int32 → Int32} {G239 : PM → Int32 → Int32 → Int32 → Prop} : TabOK 2 240 1 [CC238 F238 G238, CC239 F239 G239] R240 := tab_ok (K := K240) rfl rfl (fun h => d240 h) rk240 (by decide +kernel)
set_option maxRecDepth 100000 in
theorem pc240 : cutpc [7] R240 = true := by decide +kernel
set_option maxRecDepth 100000 in
theorem r12_bestOf_7 (p : PM) (hg : Gr 2 p) (F238 : PM → Int32 → Int32 → Int32 → Int32) (G238 : PM → Int32 → Int32 → Int32 → Prop) (o238 : CalOK 2 (CC238 F238 G238)) (F239 : PM → Int32 → Int32 → Int32 → Int32) (G239 : PM → Int32 → Int32 → Int32 → Prop) (o239 : CalOK 2 (CC239 F239 G239)) (kv7 : Int32 → Int32 → Int32 → Int32 → Int32 → Int32) (kg7 : Int32 → Int32 → Int32 → Int32 → Int32 → Prop) (hk7 : ∀ (v1 : Int32) (v2 : Int32) (v3 : Int32) (v4 : Int32) (v5 : Int32), kg7 v1 v2 v3 v4 v5 → ZJ 2 240 7 [zR 12 1, zI v1, zI v2, zI v3, zI v4, zI v5] [] p (hoI p (kv7 v1 v2 v3 v4 v5))) : ∀ (v1 : Int32) (v2 : Int32) (v3 : Int32) (v4 : Int32) (v5 : Int32), bg12_bestOf_7 p F238 G238 F239 G239 kg7 v1 v2 v3 v4 v5 → ZJ 2 240 7 [zR 12 1, zI v1, zI v2, zI v3, zI v4, zI v5] [] p (hoI p (bv12_bestOf_7 p F238 F239 kv7 v1 v2 v3 v4 v5)) := by
  intro v1 v2 v3 v4 v5  H
  exact roI (n := 3000) (q := 7) (la := [zR 12 1, zI v1, zI v2, zI v3, zI v4, zI v5]) (sa := []) (ks := [fun la sa _ => kv7 (ai la 1) (ai la 2) (ai la 3) (ai la 4) (ai la 5)]) (gs := [fun la sa _ => zsw (tc2 la [(112, 1), (0, 0), (0, 0), (0, 0), (0, 0), (0, 0)] && tc2 sa []) False (kg7 (ai la 1) (ai la 2) (ai la 3) (ai la 4) (ai la 5))]) (fcons o238 (fcons o239 (fnil))) tab240 pc240 ⟨fun la sa s hg H => zcut H fun H => hk7 (ai la 1) (ai la 2) (ai la 3) (ai la 4) (ai la 5) H, trivial⟩ hg H
theorem t12_bestOf_7 (p : PM) (hg : Gr 2 p) : ∀ (n : Nat), ∀ (v1 : Int32) (v2 : Int32) (v3 : Int32) (v4 : Int32) (v5 : Int32), g12_bestOf_7 p n v1 v2 v3 v4 v5 → ZJ 2 240 7 [zR 12 1, zI v1, zI v2, zI v3, zI v4, zI v5] [] p (hoI p (v12_bestOf_7 p n v1 v2 v3 v4 v5)) := by
  intro n
  induction n with
  | zero =>
    intro v1 v2 v3 v4 v5  H
    exact H.elim
  | succ n ih => exact r12_bestOf_7 p hg v12_isThere g12_isThere ok238 v12_isBetter g12_isBetter ok239 (v12_bestOf_7 p n) (g12_bestOf_7 p n) ih
set_option maxRecDepth 100000 in
theorem r12_bestOf (p : PM) (hg : Gr 2 p) (F238 : PM → Int32 → Int32 → Int32 → Int32) (G238 : PM → Int32 → Int32 → Int32 → Prop) (o238 : CalOK 2 (CC238 F238 G238)) (F239 : PM → Int32 → Int32 → Int32 → Int32) (G239 : PM → Int32 → Int32 → Int32 → Prop) (o239 : CalOK 2 (CC239 F239 G239)) (kv7 : Int32 → Int32 → Int32 → Int32 → Int32 → Int32) (kg7 : Int32 → Int32 → Int32 → Int32 → Int32 → Prop) (hk7 : ∀ (v1 : Int32) (v2 : Int32) (v3 : Int32) (v4 : Int32) (v5 : Int32), kg7 v1 v2 v3 v4 v5 → ZJ 2 240 7 [zR 12 1, zI v1, zI v2, zI v3, zI v4, zI v5] [] p (hoI p (kv7 v1 v2 v3 v4 v5))) : ∀ (v1 : Int32) (v2 : Int32) (v3 : Int32), bg12_bestOf p kg7 v1 v2 v3 → ZJ 2 240 0 [zR 12 1, zI v1, zI v2, zI v3, zJ, zJ] [] p (hoI p (bv12_bestOf p kv7 v1 v2 v3)) := by
  intro v1 v2 v3  H
  exact roI (n := 3000) (q := 0) (la := [zR 12 1, zI v1, zI v2, zI v3, zJ, zJ]) (sa := []) (ks := [fun la sa _ => kv7 (ai la 1) (ai la 2) (ai la 3) (ai la 4) (ai la 5)]) (gs := [fun la sa _ => zsw (tc2 la [(112, 1), (0, 0), (0, 0), (0, 0), (0, 0), (0, 0)] && tc2 sa []) False (kg7 (ai la 1) (ai la 2) (ai la 3) (ai la 4) (ai la 5))]) (fcons o238 (fcons o239 (fnil))) tab240 pc240 ⟨fun la sa s hg H => zcut H fun H => hk7 (ai la 1) (ai la 2) (ai la 3) (ai la 4) (ai la 5) H, trivial⟩ hg H
theorem t12_bestOf (p : PM) (hg : Gr 2 p) : ∀ (v1 : Int32) (v2 : Int32) (v3 : Int32), g12_bestOf p v1 v2 v3 → ZJ 2 240 0 [zR 12 1, zI v1, zI v2, zI v3, zJ, zJ] [] p (hoI p (v12_bestOf p v1 v2 v3)) := r12_bestOf p hg v12_isThere g12_isThere ok238 v12_isBetter g12_isBetter ok239 (v12_bestOf_7 p FU) (g12_bestOf_7 p FU) (t12_bestOf_7 p hg FU)
def CC240 (F : PM → Int32 → Int32 → Int32 → Int32) (G : PM → Int32 → Int32 → Int32 → Prop) : Cal := (240, [15, 0, 0, 0], 1, true, fun as p => (zI (F p (ai as 1) (ai as 2) (ai as 3)), p), fun as p => zsw (tc2 as [(112, 1), (0, 0), (0, 0), (0, 0)]) False (G p (ai as 1) (ai as 2) (ai as 3)))
set_option maxRecDepth 100000 in
theorem okr240 (F : PM → Int32 → Int32 → Int32 → Int32) (G : PM → Int32 → Int32 → Int32 → Prop) (h : ∀ (p : PM) (v1 : Int32) (v2 : Int32) (v3 : Int32), Gr 2 p → G p v1 v2 v3 → ZJ 2 240 0 [zR 12 1, zI v1, zI v2, zI v3, zJ, zJ] [] p (hoI p (F p v1 v2 v3))) : CalOK 2 (CC240 F G) := cal_ok (m := 6) (by unfold mL; rw [mX_240]) (fun as p hg H => h p (ai as 1) (ai as 2) (ai as 3) hg H)
theorem ok240 : CalOK 2 (CC240 v12_bestOf g12_bestOf) := okr240 v12_bestOf g12_bestOf (fun p v1 v2 v3 hg H => t12_bestOf p hg v1 v2 v3 H)
noncomputable def bv12_isAt (p : PM) (F238 : PM → Int32 → Int32 → Int32 → Int32) (v1 : Int32) (v2 : Int32) (v3 : Int32) (v4 : Int32) : Int32 :=
  if (F238 p v1 v2 v3) = 0 then (
    (cn 0))
  else (
    if (p.1 15 5 (v1).toNatClampNeg) = 0 then (
      if (p.1 13 25 (v1).toNatClampNeg) = v4 then (
        (cn 1))
      else (
        (cn 0)))
    else (
      (cn 0)))
noncomputable def v12_isAt (p : PM) (v1 : Int32) (v2 : Int32) (v3 : Int32) (v4 : Int32) : Int32 := bv12_isAt p v12_isThere v1 v2 v3 v4
noncomputable def bg12_isAt (p : PM) (F238 : PM → Int32 → Int32 → Int32 → Int32) (G238 : PM → Int32 → Int32 → Int32 → Prop) (v1 : Int32) (v2 : Int32) (v3 : Int32) (v4 : Int32) : Prop :=
  (G238 p v1 v2 v3) ∧ (
  if (F238 p v1 v2 v3) = 0 then (
    True)
  else (
    (inb v1 44) ∧ (
    if (p.1 15 5 (v1).toNatClampNeg) = 0 then (
      (inb v1 44) ∧ (
      if (p.1 13 25 (v1).toNatClampNeg) = v4 then (
        True)
      else (
        True)))
    else (
      True))))
noncomputable def g12_isAt (p : PM) (v1 : Int32) (v2 : Int32) (v3 : Int32) (v4 : Int32) : Prop := bg12_isAt p v12_isThere g12_isThere v1 v2 v3 v4
def R241 : List Row := [(0, .aload_n 0, 1, 0, (0, 0, 0, 0, 0, 0)), (1, .iload_n 1, 1, 0, (0, 0, 0, 0, 0, 0)), (2, .iload_n 2, 1, 0, (0, 0, 0, 0, 0, 0)), (3, .iload_n 3, 1, 0, (0, 0, 0, 0, 0, 0)), (4, .invokevirtual 244, 3, 0, (0, 4, 0, 0, 1, 0)), (7, .ifCond .eq 27, 3, 0, (0, 0, 0, 0, 0, 0)), (10, .aload_n 0, 1, 0, (0, 0, 0, 0, 0, 0)), (11, .getfield 78, 3, 0, (12, 25, 18, 2, 5, 0)), (14, .iload_n 1, 1, 0, (0, 0, 0, 0, 0, 0)), (15, .baload, 1, 0, (15, 44, 0, 0, 0, 0)), (16, .ifCond .ne 18, 3, 0, (0, 0, 0, 0, 0, 0)), (19, .aload_n 0, 1, 0, (0, 0, 0, 0, 0, 0)), (20, .getfield 102, 3, 0, (12, 33, 16, 2, 25, 0)), (23, .iload_n 1, 1, 0, (0, 0, 0, 0, 0, 0)), (24, .iaload, 1, 0, (13, 44, 0, 0, 0, 0)), (25, .iload 4, 2, 0, (0, 0, 0, 0, 0, 0)), (27, .if_icmp .ne 7, 3, 0, (0, 0, 0, 0, 0, 0)), (30, .iconst 1, 1, 0, (0, 0, 0, 0, 0, 1)), (31, .goto 4, 3, 0, (0, 0, 0, 0, 0, 0)), (34, .iconst 0, 1, 0, (0, 0, 0, 0, 0, 0)), (35, .ireturn, 1, 0, (1, 0, 0, 0, 0, 0))]
set_option maxRecDepth 100000 in
theorem rk241 : R241.all (rok 2 241 1 [(238, [15, 0, 0, 0])]) = true := by decide +kernel
set_option maxRecDepth 100000 in
theorem tab241 {F238 : PM → Int32 → Int32 → Int32 → Int32} {G238 : PM → Int32 → Int32 → Int32 → Prop} : TabOK 2 241 1 [CC238 F238 G238] R241 := tab_ok (K := K241) rfl rfl (fun h => d241 h) rk241 (by decide +kernel)
set_option maxRecDepth 100000 in
theorem pc241 : cutpc [] R241 = true := by decide +kernel
set_option maxRecDepth 100000 in
theorem r12_isAt (p : PM) (hg : Gr 2 p) (F238 : PM → Int32 → Int32 → Int32 → Int32) (G238 : PM → Int32 → Int32 → Int32 → Prop) (o238 : CalOK 2 (CC238 F238 G238)) : ∀ (v1 : Int32) (v2 : Int32) (v3 : Int32) (v4 : Int32), bg12_isAt p F238 G238 v1 v2 v3 v4 → ZJ 2 241 0 [zR 12 1, zI v1, zI v2, zI v3, zI v4] [] p (hoI p (bv12_isAt p F238 v1 v2 v3 v4)) := by
  intro v1 v2 v3 v4  H
  exact roI (n := 3000) (q := 0) (la := [zR 12 1, zI v1, zI v2, zI v3, zI v4]) (sa := []) (ks := []) (gs := []) (fcons o238 (fnil)) tab241 pc241 trivial hg H
theorem t12_isAt (p : PM) (hg : Gr 2 p) : ∀ (v1 : Int32) (v2 : Int32) (v3 : Int32) (v4 : Int32), g12_isAt p v1 v2 v3 v4 → ZJ 2 241 0 [zR 12 1, zI v1, zI v2, zI v3, zI v4] [] p (hoI p (v12_isAt p v1 v2 v3 v4)) := r12_isAt p hg v12_isThere g12_isThere ok238
def CC241 (F : PM → Int32 → Int32 → Int32 → Int32 → Int32) (G : PM → Int32 → Int32 → Int32 → Int32 → Prop) : Cal := (241, [15, 0, 0, 0, 0], 1, true, fun as p => (zI (F p (ai as 1) (ai as 2) (ai as 3) (ai as 4)), p), fun as p => zsw (tc2 as [(112, 1), (0, 0), (0, 0), (0, 0), (0, 0)]) False (G p (ai as 1) (ai as 2) (ai as 3) (ai as 4)))
set_option maxRecDepth 100000 in
theorem okr241 (F : PM → Int32 → Int32 → Int32 → Int32 → Int32) (G : PM → Int32 → Int32 → Int32 → Int32 → Prop) (h : ∀ (p : PM) (v1 : Int32) (v2 : Int32) (v3 : Int32) (v4 : Int32), Gr 2 p → G p v1 v2 v3 v4 → ZJ 2 241 0 [zR 12 1, zI v1, zI v2, zI v3, zI v4] [] p (hoI p (F p v1 v2 v3 v4))) : CalOK 2 (CC241 F G) := cal_ok (m := 5) (by unfold mL; rw [mX_241]) (fun as p hg H => h p (ai as 1) (ai as 2) (ai as 3) (ai as 4) hg H)
theorem ok241 : CalOK 2 (CC241 v12_isAt g12_isAt) := okr241 v12_isAt g12_isAt (fun p v1 v2 v3 v4 hg H => t12_isAt p hg v1 v2 v3 v4 H)
noncomputable def bv12_behindTurn_6 (p : PM) (F241 : PM → Int32 → Int32 → Int32 → Int32 → Int32) (kv6 : Int32 → Int32 → Int32 → Int32 → Int32 → Int32 → Int32) (v1 : Int32) (v2 : Int32) (v3 : Int32) (v4 : Int32) (v5 : Int32) (v6 : Int32) : Int32 :=
  if v6 < (cn 44) then (
    if (F241 p v6 v1 v2 v3) = 0 then (
      kv6 v1 v2 v3 v4 v5 (v6 + (cn 1)))
    else (
      if v4 < (p.1 13 23 (v6).toNatClampNeg) then (
        if v5 < 0 then (
          kv6 v1 v2 v3 v4 v6 (v6 + (cn 1)))
        else (
          if (p.1 13 23 (v6).toNatClampNeg) < (p.1 13 23 (v5).toNatClampNeg) then (
            kv6 v1 v2 v3 v4 v6 (v6 + (cn 1)))
          else (
            kv6 v1 v2 v3 v4 v5 (v6 + (cn 1)))))
      else (
        kv6 v1 v2 v3 v4 v5 (v6 + (cn 1)))))
  else (
    v5)
noncomputable def v12_behindTurn_6 (p : PM) (n : Nat) : Int32 → Int32 → Int32 → Int32 → Int32 → Int32 → Int32 := Nat.rec (motive := fun _ => Int32 → Int32 → Int32 → Int32 → Int32 → Int32 → Int32) (fun _ _ _ _ _ _ => 0) (fun _ ih => bv12_behindTurn_6 p v12_isAt ih) n
theorem ev12_behindTurn_6 (p : PM) (n : Nat) (v1 : Int32) (v2 : Int32) (v3 : Int32) (v4 : Int32) (v5 : Int32) (v6 : Int32) : v12_behindTurn_6 p (n + 1) v1 v2 v3 v4 v5 v6 = bv12_behindTurn_6 p v12_isAt (v12_behindTurn_6 p n) v1 v2 v3 v4 v5 v6 := rfl
noncomputable def bg12_behindTurn_6 (p : PM) (F241 : PM → Int32 → Int32 → Int32 → Int32 → Int32) (G241 : PM → Int32 → Int32 → Int32 → Int32 → Prop) (kg6 : Int32 → Int32 → Int32 → Int32 → Int32 → Int32 → Prop) (v1 : Int32) (v2 : Int32) (v3 : Int32) (v4 : Int32) (v5 : Int32) (v6 : Int32) : Prop :=
  if v6 < (cn 44) then (
    (G241 p v6 v1 v2 v3) ∧ (
    if (F241 p v6 v1 v2 v3) = 0 then (
      kg6 v1 v2 v3 v4 v5 (v6 + (cn 1)))
    else (
      (inb v6 44) ∧ (
      if v4 < (p.1 13 23 (v6).toNatClampNeg) then (
        if v5 < 0 then (
          kg6 v1 v2 v3 v4 v6 (v6 + (cn 1)))
        else (
          (inb v6 44) ∧ (
          (inb v5 44) ∧ (
          if (p.1 13 23 (v6).toNatClampNeg) < (p.1 13 23 (v5).toNatClampNeg) then (
            kg6 v1 v2 v3 v4 v6 (v6 + (cn 1)))
          else (
            kg6 v1 v2 v3 v4 v5 (v6 + (cn 1)))))))
      else (
        kg6 v1 v2 v3 v4 v5 (v6 + (cn 1)))))))
  else (
    True)
noncomputable def g12_behindTurn_6 (p : PM) (n : Nat) : Int32 → Int32 → Int32 → Int32 → Int32 → Int32 → Prop := Nat.rec (motive := fun _ => Int32 → Int32 → Int32 → Int32 → Int32 → Int32 → Prop) (fun _ _ _ _ _ _ => False) (fun _ ih => bg12_behindTurn_6 p v12_isAt g12_isAt ih) n
theorem eg12_behindTurn_6 (p : PM) (n : Nat) (v1 : Int32) (v2 : Int32) (v3 : Int32) (v4 : Int32) (v5 : Int32) (v6 : Int32) : g12_behindTurn_6 p (n + 1) v1 v2 v3 v4 v5 v6 = bg12_behindTurn_6 p v12_isAt g12_isAt (g12_behindTurn_6 p n) v1 v2 v3 v4 v5 v6 := rfl
noncomputable def bv12_behindTurn (p : PM) (kv6 : Int32 → Int32 → Int32 → Int32 → Int32 → Int32 → Int32) (v1 : Int32) (v2 : Int32) (v3 : Int32) (v4 : Int32) : Int32 :=
  kv6 v1 v2 v3 v4 (cn (-1)) (cn 0)
noncomputable def v12_behindTurn (p : PM) (v1 : Int32) (v2 : Int32) (v3 : Int32) (v4 : Int32) : Int32 := bv12_behindTurn p (v12_behindTurn_6 p FU) v1 v2 v3 v4
noncomputable def bg12_behindTurn (p : PM) (kg6 : Int32 → Int32 → Int32 → Int32 → Int32 → Int32 → Prop) (v1 : Int32) (v2 : Int32) (v3 : Int32) (v4 : Int32) : Prop :=
  kg6 v1 v2 v3 v4 (cn (-1)) (cn 0)
noncomputable def g12_behindTurn (p : PM) (v1 : Int32) (v2 : Int32) (v3 : Int32) (v4 : Int32) : Prop := bg12_behindTurn p (g12_behindTurn_6 p FU) v1 v2 v3 v4
def R242 : List Row := [(0, .iconst (-1), 1, 0, (0, 0, 0, 0, 0, -1)), (1, .istore 5, 2, 0, (0, 0, 0, 0, 0, 0)), (3, .iconst 0, 1, 0, (0, 0, 0, 0, 0, 0)), (4, .istore 6, 2, 0, (0, 0, 0, 0, 0, 0)), (6, .iload 6, 2, 1, (0, 0, 0, 0, 0, 0)), (8, .bipush 44, 2, 0, (0, 0, 0, 0, 0, 44)), (10, .if_icmp .ge 76, 3, 0, (0, 0, 0, 0, 0, 0)), (13, .aload_n 0, 1, 0, (0, 0, 0, 0, 0, 0)), (14, .iload 6, 2, 0, (0, 0, 0, 0, 0, 0)), (16, .iload_n 1, 1, 0, (0, 0, 0, 0, 0, 0)), (17, .iload_n 2, 1, 0, (0, 0, 0, 0, 0, 0)), (18, .iload_n 3, 1, 0, (0, 0, 0, 0, 0, 0)), (19, .invokevirtual 251, 3, 0, (0, 5, 0, 0, 1, 0)), (22, .ifCond .eq 19, 3, 0, (0, 0, 0, 0, 0, 0)), (25, .aload_n 0, 1, 0, (0, 0, 0, 0, 0, 0)), (26, .getfield 96, 3, 0, (12, 31, 16, 2, 23, 0)), (29, .iload 6, 2, 0, (0, 0, 0, 0, 0, 0)), (31, .iaload, 1, 0, (13, 44, 0, 0, 0, 0)), (32, .iload 4, 2, 0, (0, 0, 0, 0, 0, 0)), (34, .if_icmp .le 7, 3, 0, (0, 0, 0, 0, 0, 0)), (37, .iconst 1, 1, 0, (0, 0, 0, 0, 0, 1)), (38, .goto 4, 3, 0, (0, 0, 0, 0, 0, 0)), (41, .iconst 0, 1, 0, (0, 0, 0, 0, 0, 0)), (42, .istore 7, 2, 0, (0, 0, 0, 0, 0, 0)), (44, .iload 7, 2, 0, (0, 0, 0, 0, 0, 0)), (46, .ifCond .eq 30, 3, 0, (0, 0, 0, 0, 0, 0)), (49, .iload 5, 2, 0, (0, 0, 0, 0, 0, 0)), (51, .ifCond .lt 20, 3, 0, (0, 0, 0, 0, 0, 0)), (54, .aload_n 0, 1, 0, (0, 0, 0, 0, 0, 0)), (55, .getfield 96, 3, 0, (12, 31, 16, 2, 23, 0)), (58, .iload 6, 2, 0, (0, 0, 0, 0, 0, 0)), (60, .iaload, 1, 0, (13, 44, 0, 0, 0, 0)), (61, .aload_n 0, 1, 0, (0, 0, 0, 0, 0, 0)), (62, .getfield 96, 3, 0, (12, 31, 16, 2, 23, 0)), (65, .iload 5, 2, 0, (0, 0, 0, 0, 0, 0)), (67, .iaload, 1, 0, (13, 44, 0, 0, 0, 0)), (68, .if_icmp .ge 8, 3, 0, (0, 0, 0, 0, 0, 0)), (71, .iload 6, 2, 0, (0, 0, 0, 0, 0, 0)), (73, .goto 5, 3, 0, (0, 0, 0, 0, 0, 0)), (76, .iload 5, 2, 0, (0, 0, 0, 0, 0, 0)), (78, .istore 5, 2, 0, (0, 0, 0, 0, 0, 0)), (80, .iinc 6 1, 3, 0, (0, 0, 0, 0, 0, 1)), (83, .goto (-77), 3, 0, (0, 0, 0, 0, 0, 0)), (86, .iload 5, 2, 0, (0, 0, 0, 0, 0, 0)), (88, .ireturn, 1, 0, (0, 0, 0, 0, 0, 0))]
set_option maxRecDepth 100000 in
theorem rk242 : R242.all (rok 2 242 1 [(241, [15, 0, 0, 0, 0])]) = true := by decide +kernel
set_option maxRecDepth 100000 in
theorem tab242 {F241 : PM → Int32 → Int32 → Int32 → Int32 → Int32} {G241 : PM → Int32 → Int32 → Int32 → Int32 → Prop} : TabOK 2 242 1 [CC241 F241 G241] R242 := tab_ok (K := K242) rfl rfl (fun h => d242 h) rk242 (by decide +kernel)
set_option maxRecDepth 100000 in
theorem pc242 : cutpc [6] R242 = true := by decide +kernel
set_option maxRecDepth 100000 in
theorem r12_behindTurn_6 (p : PM) (hg : Gr 2 p) (F241 : PM → Int32 → Int32 → Int32 → Int32 → Int32) (G241 : PM → Int32 → Int32 → Int32 → Int32 → Prop) (o241 : CalOK 2 (CC241 F241 G241)) (kv6 : Int32 → Int32 → Int32 → Int32 → Int32 → Int32 → Int32) (kg6 : Int32 → Int32 → Int32 → Int32 → Int32 → Int32 → Prop) (hk6 : ∀ (v1 : Int32) (v2 : Int32) (v3 : Int32) (v4 : Int32) (v5 : Int32) (v6 : Int32) (d7 : ZV), kg6 v1 v2 v3 v4 v5 v6 → ZJ 2 242 6 [zR 12 1, zI v1, zI v2, zI v3, zI v4, zI v5, zI v6, d7] [] p (hoI p (kv6 v1 v2 v3 v4 v5 v6))) : ∀ (v1 : Int32) (v2 : Int32) (v3 : Int32) (v4 : Int32) (v5 : Int32) (v6 : Int32) (d7 : ZV), bg12_behindTurn_6 p F241 G241 kg6 v1 v2 v3 v4 v5 v6 → ZJ 2 242 6 [zR 12 1, zI v1, zI v2, zI v3, zI v4, zI v5, zI v6, d7] [] p (hoI p (bv12_behindTurn_6 p F241 kv6 v1 v2 v3 v4 v5 v6)) := by
  intro v1 v2 v3 v4 v5 v6 d7 H
  exact roI (n := 3000) (q := 6) (la := [zR 12 1, zI v1, zI v2, zI v3, zI v4, zI v5, zI v6, d7]) (sa := []) (ks := [fun la sa _ => kv6 (ai la 1) (ai la 2) (ai la 3) (ai la 4) (ai la 5) (ai la 6)]) (gs := [fun la sa _ => zsw (tc2 la [(112, 1), (0, 0), (0, 0), (0, 0), (0, 0), (0, 0), (0, 0), (2, 0)] && tc2 sa []) False (kg6 (ai la 1) (ai la 2) (ai la 3) (ai la 4) (ai la 5) (ai la 6))]) (fcons o241 (fnil)) tab242 pc242 ⟨fun la sa s hg H => zcut H fun H => hk6 (ai la 1) (ai la 2) (ai la 3) (ai la 4) (ai la 5) (ai la 6) (zld la 7) H, trivial⟩ hg H
theorem t12_behindTurn_6 (p : PM) (hg : Gr 2 p) : ∀ (n : Nat), ∀ (v1 : Int32) (v2 : Int32) (v3 : Int32) (v4 : Int32) (v5 : Int32) (v6 : Int32) (d7 : ZV), g12_behindTurn_6 p n v1 v2 v3 v4 v5 v6 → ZJ 2 242 6 [zR 12 1, zI v1, zI v2, zI v3, zI v4, zI v5, zI v6, d7] [] p (hoI p (v12_behindTurn_6 p n v1 v2 v3 v4 v5 v6)) := by
  intro n
  induction n with
  | zero =>
    intro v1 v2 v3 v4 v5 v6 d7 H
    exact H.elim
  | succ n ih => exact r12_behindTurn_6 p hg v12_isAt g12_isAt ok241 (v12_behindTurn_6 p n) (g12_behindTurn_6 p n) ih
set_option maxRecDepth 100000 in
theorem r12_behindTurn (p : PM) (hg : Gr 2 p) (F241 : PM → Int32 → Int32 → Int32 → Int32 → Int32) (G241 : PM → Int32 → Int32 → Int32 → Int32 → Prop) (o241 : CalOK 2 (CC241 F241 G241)) (kv6 : Int32 → Int32 → Int32 → Int32 → Int32 → Int32 → Int32) (kg6 : Int32 → Int32 → Int32 → Int32 → Int32 → Int32 → Prop) (hk6 : ∀ (v1 : Int32) (v2 : Int32) (v3 : Int32) (v4 : Int32) (v5 : Int32) (v6 : Int32) (d7 : ZV), kg6 v1 v2 v3 v4 v5 v6 → ZJ 2 242 6 [zR 12 1, zI v1, zI v2, zI v3, zI v4, zI v5, zI v6, d7] [] p (hoI p (kv6 v1 v2 v3 v4 v5 v6))) : ∀ (v1 : Int32) (v2 : Int32) (v3 : Int32) (v4 : Int32), bg12_behindTurn p kg6 v1 v2 v3 v4 → ZJ 2 242 0 [zR 12 1, zI v1, zI v2, zI v3, zI v4, zJ, zJ, zJ] [] p (hoI p (bv12_behindTurn p kv6 v1 v2 v3 v4)) := by
  intro v1 v2 v3 v4  H
  exact roI (n := 3000) (q := 0) (la := [zR 12 1, zI v1, zI v2, zI v3, zI v4, zJ, zJ, zJ]) (sa := []) (ks := [fun la sa _ => kv6 (ai la 1) (ai la 2) (ai la 3) (ai la 4) (ai la 5) (ai la 6)]) (gs := [fun la sa _ => zsw (tc2 la [(112, 1), (0, 0), (0, 0), (0, 0), (0, 0), (0, 0), (0, 0), (2, 0)] && tc2 sa []) False (kg6 (ai la 1) (ai la 2) (ai la 3) (ai la 4) (ai la 5) (ai la 6))]) (fcons o241 (fnil)) tab242 pc242 ⟨fun la sa s hg H => zcut H fun H => hk6 (ai la 1) (ai la 2) (ai la 3) (ai la 4) (ai la 5) (ai la 6) (zld la 7) H, trivial⟩ hg H
theorem t12_behindTurn (p : PM) (hg : Gr 2 p) : ∀ (v1 : Int32) (v2 : Int32) (v3 : Int32) (v4 : Int32), g12_behindTurn p v1 v2 v3 v4 → ZJ 2 242 0 [zR 12 1, zI v1, zI v2, zI v3, zI v4, zJ, zJ, zJ] [] p (hoI p (v12_behindTurn p v1 v2 v3 v4)) := r12_behindTurn p hg v12_isAt g12_isAt ok241 (v12_behindTurn_6 p FU) (g12_behindTurn_6 p FU) (t12_behindTurn_6 p hg FU)
def CC242 (F : PM → Int32 → Int32 → Int32 → Int32 → Int32) (G : PM → Int32 → Int32 → Int32 → Int32 → Prop) : Cal := (242, [15, 0, 0, 0, 0], 1, true, fun as p => (zI (F p (ai as 1) (ai as 2) (ai as 3) (ai as 4)), p), fun as p => zsw (tc2 as [(112, 1), (0, 0), (0, 0), (0, 0), (0, 0)]) False (G p (ai as 1) (ai as 2) (ai as 3) (ai as 4)))
set_option maxRecDepth 100000 in
theorem okr242 (F : PM → Int32 → Int32 → Int32 → Int32 → Int32) (G : PM → Int32 → Int32 → Int32 → Int32 → Prop) (h : ∀ (p : PM) (v1 : Int32) (v2 : Int32) (v3 : Int32) (v4 : Int32), Gr 2 p → G p v1 v2 v3 v4 → ZJ 2 242 0 [zR 12 1, zI v1, zI v2, zI v3, zI v4, zJ, zJ, zJ] [] p (hoI p (F p v1 v2 v3 v4))) : CalOK 2 (CC242 F G) := cal_ok (m := 8) (by unfold mL; rw [mX_242]) (fun as p hg H => h p (ai as 1) (ai as 2) (ai as 3) (ai as 4) hg H)
theorem ok242 : CalOK 2 (CC242 v12_behindTurn g12_behindTurn) := okr242 v12_behindTurn g12_behindTurn (fun p v1 v2 v3 v4 hg H => t12_behindTurn p hg v1 v2 v3 v4 H)
