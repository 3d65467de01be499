/-! methods as functions over one part, by program (wip/whole/lift.py) -/
noncomputable def bv6_beginAuction (p : PM) (v1 : Nat) (v2 : Int32) (v3 : Int32) : Int32 × PM :=
  let p1 : PM := pI p 1 v1 5 (cn 1)
  let p2 : PM := pI p1 1 v1 6 (cn 0)
  let p3 : PM := pI p2 1 v1 7 ((p2.1 6 1 2) + v2)
  let p4 : PM := pI p3 1 v1 8 v3
  ((p4.1 1 v1 7), p4)
noncomputable def v6_beginAuction (p : PM) (v1 : Nat) (v2 : Int32) (v3 : Int32) : Int32 × PM := bv6_beginAuction p v1 v2 v3
noncomputable def bg6_beginAuction (p : PM) (v1 : Nat) (v2 : Int32) (v3 : Int32) : Prop :=
  (¬ v1 = 0) ∧ (
  let p1 : PM := pI p 1 v1 5 (cn 1)
  (¬ v1 = 0) ∧ (
  let p2 : PM := pI p1 1 v1 6 (cn 0)
  (¬ v1 = 0) ∧ (
  let p3 : PM := pI p2 1 v1 7 ((p2.1 6 1 2) + v2)
  (¬ v1 = 0) ∧ (
  let p4 : PM := pI p3 1 v1 8 v3
  (¬ v1 = 0) ∧ (
  True)))))
noncomputable def g6_beginAuction (p : PM) (v1 : Nat) (v2 : Int32) (v3 : Int32) : Prop := bg6_beginAuction p v1 v2 v3
def R94 : List Row := [(0, .aload_n 1, 1, 0, (0, 0, 0, 0, 0, 0)), (1, .iconst 1, 1, 0, (0, 0, 0, 0, 0, 1)), (2, .putfield 154, 3, 0, (1, 5, 1, 0, 0, 0)), (5, .aload_n 1, 1, 0, (0, 0, 0, 0, 0, 0)), (6, .iconst 0, 1, 0, (0, 0, 0, 0, 0, 0)), (7, .putfield 164, 3, 0, (1, 6, 1, 0, 0, 0)), (10, .aload_n 1, 1, 0, (0, 0, 0, 0, 0, 0)), (11, .aload_n 0, 1, 0, (0, 0, 0, 0, 0, 0)), (12, .getfield 33, 3, 0, (6, 2, 0, 1, 0, 0)), (15, .iload_n 2, 1, 0, (0, 0, 0, 0, 0, 0)), (16, .iadd, 1, 0, (0, 0, 0, 0, 0, 0)), (17, .putfield 167, 3, 0, (1, 7, 0, 0, 0, 0)), (20, .aload_n 1, 1, 0, (0, 0, 0, 0, 0, 0)), (21, .iload_n 3, 1, 0, (0, 0, 0, 0, 0, 0)), (22, .putfield 170, 3, 0, (1, 8, 0, 0, 0, 0)), (25, .aload_n 1, 1, 0, (0, 0, 0, 0, 0, 0)), (26, .getfield 167, 3, 0, (1, 7, 0, 0, 0, 0)), (29, .ireturn, 1, 0, (0, 0, 0, 0, 0, 0))]
set_option maxRecDepth 100000 in
theorem rk94 : R94.all (rok 0 94 1 []) = true := by decide +kernel
set_option maxRecDepth 100000 in
theorem tab94 : TabOK 0 94 1 [] R94 := tab_ok (K := K94) rfl rfl (fun h => d94 h) rk94 (by decide +kernel)
set_option maxRecDepth 100000 in
theorem pc94 : cutpc [] R94 = true := by decide +kernel
set_option maxRecDepth 100000 in
theorem r6_beginAuction : ∀ (p : PM) (v1 : Nat) (v2 : Int32) (v3 : Int32), Gr 0 p → bg6_beginAuction p v1 v2 v3 → ZJ 0 94 0 [zR 6 1, zR 1 v1, zI v2, zI v3] [] p (hwI (bv6_beginAuction p v1 v2 v3)) := by
  intro p v1 v2 v3  hg H
  exact rwI (n := 3000) (q := 0) (la := [zR 6 1, zR 1 v1, zI v2, zI v3]) (sa := []) (ks := []) (gs := []) (fnil) tab94 pc94 trivial hg H
theorem t6_beginAuction : ∀ (p : PM) (v1 : Nat) (v2 : Int32) (v3 : Int32), Gr 0 p → g6_beginAuction p v1 v2 v3 → ZJ 0 94 0 [zR 6 1, zR 1 v1, zI v2, zI v3] [] p (hwI (v6_beginAuction p v1 v2 v3)) := r6_beginAuction
def CC94 (F : PM → Nat → Int32 → Int32 → Int32 × PM) (G : PM → Nat → Int32 → Int32 → Prop) : Cal := (94, [9, 4, 0, 0], 1, false, fun as p => (zI (F p (ar as 1) (ai as 2) (ai as 3)).1, (F p (ar as 1) (ai as 2) (ai as 3)).2), fun as p => zsw (tc2 as [(106, 1), (5, 0), (0, 0), (0, 0)]) False (G p (ar as 1) (ai as 2) (ai as 3)))
set_option maxRecDepth 100000 in
theorem okr94 (F : PM → Nat → Int32 → Int32 → Int32 × PM) (G : PM → Nat → Int32 → Int32 → Prop) (h : ∀ (p : PM) (v1 : Nat) (v2 : Int32) (v3 : Int32), Gr 0 p → G p v1 v2 v3 → ZJ 0 94 0 [zR 6 1, zR 1 v1, zI v2, zI v3] [] p (hwI (F p v1 v2 v3))) : CalOK 0 (CC94 F G) := cal_ok (m := 4) (by unfold mL; rw [mX_94]) (fun as p hg H => h p (ar as 1) (ai as 2) (ai as 3) hg H)
theorem ok94 : CalOK 0 (CC94 v6_beginAuction g6_beginAuction) := okr94 v6_beginAuction g6_beginAuction t6_beginAuction
noncomputable def bv8_gather_91 (kv37 : PM → Nat → Int32 → Int32 → Int32 → Int32 → Int32 × PM) (kv91 : PM → Nat → Int32 → Int32 → Int32 → Int32 → Nat → Int32 → Int32 × PM) (p : PM) (v1 : Nat) (v2 : Int32) (v3 : Int32) (v4 : Int32) (v7 : Int32) (v8 : Nat) (v9 : Int32) : Int32 × PM :=
  if 0 < v9 then (
    if v9 < (cn 40) then (
      let x3 : Nat := (p.2.2 20 2 ((v9 - (cn 1))).toNatClampNeg)
      if v3 = 0 then (
        if (p.1 10 x3 12) < (p.1 10 v8 12) then (
          if v9 < (cn 40) then (
            let p5 : PM := pR p 20 2 (v9).toNatClampNeg v8
            kv37 p5 v1 v2 v3 (v4 + (cn 1)) (v7 + (cn 1)))
          else (
            kv37 p v1 v2 v3 v4 (v7 + (cn 1))))
        else (
          let p4 : PM := pR p 20 2 (v9).toNatClampNeg x3
          kv91 p4 v1 v2 v3 v4 v7 v8 (v9 + (cn (-1)))))
      else (
        if (p.1 10 v8 11) = (p.1 10 x3 11) then (
          if (p.1 10 x3 12) < (p.1 10 v8 12) then (
            if v9 < (cn 40) then (
              let p7 : PM := pR p 20 2 (v9).toNatClampNeg v8
              kv37 p7 v1 v2 v3 (v4 + (cn 1)) (v7 + (cn 1)))
            else (
              kv37 p v1 v2 v3 v4 (v7 + (cn 1))))
          else (
            let p6 : PM := pR p 20 2 (v9).toNatClampNeg x3
            kv91 p6 v1 v2 v3 v4 v7 v8 (v9 + (cn (-1)))))
        else (
          if (p.1 10 v8 11) < (p.1 10 x3 11) then (
            if v9 < (cn 40) then (
              let p9 : PM := pR p 20 2 (v9).toNatClampNeg v8
              kv37 p9 v1 v2 v3 (v4 + (cn 1)) (v7 + (cn 1)))
            else (
              kv37 p v1 v2 v3 v4 (v7 + (cn 1))))
          else (
            let p8 : PM := pR p 20 2 (v9).toNatClampNeg x3
            kv91 p8 v1 v2 v3 v4 v7 v8 (v9 + (cn (-1)))))))
    else (
      if v9 < (cn 40) then (
        let p2 : PM := pR p 20 2 (v9).toNatClampNeg v8
        kv37 p2 v1 v2 v3 (v4 + (cn 1)) (v7 + (cn 1)))
      else (
        kv37 p v1 v2 v3 v4 (v7 + (cn 1)))))
  else (
    if v9 < (cn 40) then (
      let p1 : PM := pR p 20 2 (v9).toNatClampNeg v8
      kv37 p1 v1 v2 v3 (v4 + (cn 1)) (v7 + (cn 1)))
    else (
      kv37 p v1 v2 v3 v4 (v7 + (cn 1))))
noncomputable def v8_gather_91 (kv37 : PM → Nat → Int32 → Int32 → Int32 → Int32 → Int32 × PM) (n : Nat) : PM → Nat → Int32 → Int32 → Int32 → Int32 → Nat → Int32 → Int32 × PM := Nat.rec (motive := fun _ => PM → Nat → Int32 → Int32 → Int32 → Int32 → Nat → Int32 → Int32 × PM) (fun p _ _ _ _ _ _ _ => (0, p)) (fun _ ih => bv8_gather_91 kv37 ih) n
theorem ev8_gather_91 (kv37 : PM → Nat → Int32 → Int32 → Int32 → Int32 → Int32 × PM) (n : Nat) (p : PM) (v1 : Nat) (v2 : Int32) (v3 : Int32) (v4 : Int32) (v7 : Int32) (v8 : Nat) (v9 : Int32) : v8_gather_91 kv37 (n + 1) p v1 v2 v3 v4 v7 v8 v9 = bv8_gather_91 kv37 (v8_gather_91 kv37 n) p v1 v2 v3 v4 v7 v8 v9 := rfl
noncomputable def bg8_gather_91 (kg37 : PM → Nat → Int32 → Int32 → Int32 → Int32 → Prop) (kg91 : PM → Nat → Int32 → Int32 → Int32 → Int32 → Nat → Int32 → Prop) (p : PM) (v1 : Nat) (v2 : Int32) (v3 : Int32) (v4 : Int32) (v7 : Int32) (v8 : Nat) (v9 : Int32) : Prop :=
  if 0 < v9 then (
    if v9 < (cn 40) then (
      (inb (v9 - (cn 1)) 40) ∧ (
      let x3 : Nat := (p.2.2 20 2 ((v9 - (cn 1))).toNatClampNeg)
      if v3 = 0 then (
        (¬ x3 = 0) ∧ (
        (¬ v8 = 0) ∧ (
        if (p.1 10 x3 12) < (p.1 10 v8 12) then (
          if v9 < (cn 40) then (
            (inb v9 40) ∧ (
            let p5 : PM := pR p 20 2 (v9).toNatClampNeg v8
            kg37 p5 v1 v2 v3 (v4 + (cn 1)) (v7 + (cn 1))))
          else (
            kg37 p v1 v2 v3 v4 (v7 + (cn 1))))
        else (
          (inb v9 40) ∧ (
          let p4 : PM := pR p 20 2 (v9).toNatClampNeg x3
          kg91 p4 v1 v2 v3 v4 v7 v8 (v9 + (cn (-1))))))))
      else (
        (¬ v8 = 0) ∧ (
        (¬ x3 = 0) ∧ (
        if (p.1 10 v8 11) = (p.1 10 x3 11) then (
          (¬ x3 = 0) ∧ (
          (¬ v8 = 0) ∧ (
          if (p.1 10 x3 12) < (p.1 10 v8 12) then (
            if v9 < (cn 40) then (
              (inb v9 40) ∧ (
              let p7 : PM := pR p 20 2 (v9).toNatClampNeg v8
              kg37 p7 v1 v2 v3 (v4 + (cn 1)) (v7 + (cn 1))))
            else (
              kg37 p v1 v2 v3 v4 (v7 + (cn 1))))
          else (
            (inb v9 40) ∧ (
            let p6 : PM := pR p 20 2 (v9).toNatClampNeg x3
            kg91 p6 v1 v2 v3 v4 v7 v8 (v9 + (cn (-1))))))))
        else (
          (¬ x3 = 0) ∧ (
          (¬ v8 = 0) ∧ (
          if (p.1 10 v8 11) < (p.1 10 x3 11) then (
            if v9 < (cn 40) then (
              (inb v9 40) ∧ (
              let p9 : PM := pR p 20 2 (v9).toNatClampNeg v8
              kg37 p9 v1 v2 v3 (v4 + (cn 1)) (v7 + (cn 1))))
            else (
              kg37 p v1 v2 v3 v4 (v7 + (cn 1))))
          else (
            (inb v9 40) ∧ (
            let p8 : PM := pR p 20 2 (v9).toNatClampNeg x3
            kg91 p8 v1 v2 v3 v4 v7 v8 (v9 + (cn (-1)))))))))))))
    else (
      if v9 < (cn 40) then (
        (inb v9 40) ∧ (
        let p2 : PM := pR p 20 2 (v9).toNatClampNeg v8
        kg37 p2 v1 v2 v3 (v4 + (cn 1)) (v7 + (cn 1))))
      else (
        kg37 p v1 v2 v3 v4 (v7 + (cn 1)))))
  else (
    if v9 < (cn 40) then (
      (inb v9 40) ∧ (
      let p1 : PM := pR p 20 2 (v9).toNatClampNeg v8
      kg37 p1 v1 v2 v3 (v4 + (cn 1)) (v7 + (cn 1))))
    else (
      kg37 p v1 v2 v3 v4 (v7 + (cn 1))))
noncomputable def g8_gather_91 (kg37 : PM → Nat → Int32 → Int32 → Int32 → Int32 → Prop) (n : Nat) : PM → Nat → Int32 → Int32 → Int32 → Int32 → Nat → Int32 → Prop := Nat.rec (motive := fun _ => PM → Nat → Int32 → Int32 → Int32 → Int32 → Nat → Int32 → Prop) (fun _ _ _ _ _ _ _ _ => False) (fun _ ih => bg8_gather_91 kg37 ih) n
theorem eg8_gather_91 (kg37 : PM → Nat → Int32 → Int32 → Int32 → Int32 → Prop) (n : Nat) (p : PM) (v1 : Nat) (v2 : Int32) (v3 : Int32) (v4 : Int32) (v7 : Int32) (v8 : Nat) (v9 : Int32) : g8_gather_91 kg37 (n + 1) p v1 v2 v3 v4 v7 v8 v9 = bg8_gather_91 kg37 (g8_gather_91 kg37 n) p v1 v2 v3 v4 v7 v8 v9 := rfl
noncomputable def bv8_gather_37 (F144 : PM → Nat → Nat → Int32 → Int32) (kv37 : PM → Nat → Int32 → Int32 → Int32 → Int32 → Int32 × PM) (kv91 : PM → Nat → Int32 → Int32 → Int32 → Int32 → Nat → Int32 → Int32 × PM) (p : PM) (v1 : Nat) (v2 : Int32) (v3 : Int32) (v4 : Int32) (v7 : Int32) : Int32 × PM :=
  if v7 < (cn 40) then (
    if (p.1 10 v1 5) = 0 then (
      if (F144 p ((v7).toNatClampNeg + 1) (p.2.2 10 v1 4) (cn 1)) = 0 then (
        kv37 p v1 v2 v3 v4 (v7 + (cn 1)))
      else (
        if (p.1 10 ((v7).toNatClampNeg + 1) 7) = v2 then (
          kv91 p v1 v2 v3 v4 v7 ((v7).toNatClampNeg + 1) v4)
        else (
          kv37 p v1 v2 v3 v4 (v7 + (cn 1)))))
    else (
      if (F144 p ((v7).toNatClampNeg + 1) (p.2.2 10 v1 4) (cn 0)) = 0 then (
        kv37 p v1 v2 v3 v4 (v7 + (cn 1)))
      else (
        if (p.1 10 ((v7).toNatClampNeg + 1) 7) = v2 then (
          kv91 p v1 v2 v3 v4 v7 ((v7).toNatClampNeg + 1) v4)
        else (
          kv37 p v1 v2 v3 v4 (v7 + (cn 1))))))
  else (
    (v4, p))
noncomputable def v8_gather_37 (n : Nat) : PM → Nat → Int32 → Int32 → Int32 → Int32 → Int32 × PM := Nat.rec (motive := fun _ => PM → Nat → Int32 → Int32 → Int32 → Int32 → Int32 × PM) (fun p _ _ _ _ _ => (0, p)) (fun _ ih => bv8_gather_37 v10_standsIn ih (v8_gather_91 ih FU)) n
theorem ev8_gather_37 (n : Nat) (p : PM) (v1 : Nat) (v2 : Int32) (v3 : Int32) (v4 : Int32) (v7 : Int32) : v8_gather_37 (n + 1) p v1 v2 v3 v4 v7 = bv8_gather_37 v10_standsIn (v8_gather_37 n) (v8_gather_91 (v8_gather_37 n) FU) p v1 v2 v3 v4 v7 := rfl
noncomputable def bg8_gather_37 (F144 : PM → Nat → Nat → Int32 → Int32) (G144 : PM → Nat → Nat → Int32 → Prop) (kg37 : PM → Nat → Int32 → Int32 → Int32 → Int32 → Prop) (kg91 : PM → Nat → Int32 → Int32 → Int32 → Int32 → Nat → Int32 → Prop) (p : PM) (v1 : Nat) (v2 : Int32) (v3 : Int32) (v4 : Int32) (v7 : Int32) : Prop :=
  if v7 < (cn 40) then (
    (inb v7 40) ∧ (
    (¬ v1 = 0) ∧ (
    (¬ v1 = 0) ∧ (
    if (p.1 10 v1 5) = 0 then (
      (G144 p ((v7).toNatClampNeg + 1) (p.2.2 10 v1 4) (cn 1)) ∧ (
      if (F144 p ((v7).toNatClampNeg + 1) (p.2.2 10 v1 4) (cn 1)) = 0 then (
        kg37 p v1 v2 v3 v4 (v7 + (cn 1)))
      else (
        if (p.1 10 ((v7).toNatClampNeg + 1) 7) = v2 then (
          kg91 p v1 v2 v3 v4 v7 ((v7).toNatClampNeg + 1) v4)
        else (
          kg37 p v1 v2 v3 v4 (v7 + (cn 1))))))
    else (
      (G144 p ((v7).toNatClampNeg + 1) (p.2.2 10 v1 4) (cn 0)) ∧ (
      if (F144 p ((v7).toNatClampNeg + 1) (p.2.2 10 v1 4) (cn 0)) = 0 then (
        kg37 p v1 v2 v3 v4 (v7 + (cn 1)))
      else (
        if (p.1 10 ((v7).toNatClampNeg + 1) 7) = v2 then (
          kg91 p v1 v2 v3 v4 v7 ((v7).toNatClampNeg + 1) v4)
        else (
          kg37 p v1 v2 v3 v4 (v7 + (cn 1))))))))))
  else (
    True)
noncomputable def g8_gather_37 (n : Nat) : PM → Nat → Int32 → Int32 → Int32 → Int32 → Prop := Nat.rec (motive := fun _ => PM → Nat → Int32 → Int32 → Int32 → Int32 → Prop) (fun _ _ _ _ _ _ => False) (fun _ ih => bg8_gather_37 v10_standsIn g10_standsIn ih (g8_gather_91 ih FU)) n
theorem eg8_gather_37 (n : Nat) (p : PM) (v1 : Nat) (v2 : Int32) (v3 : Int32) (v4 : Int32) (v7 : Int32) : g8_gather_37 (n + 1) p v1 v2 v3 v4 v7 = bg8_gather_37 v10_standsIn g10_standsIn (g8_gather_37 n) (g8_gather_91 (g8_gather_37 n) FU) p v1 v2 v3 v4 v7 := rfl
noncomputable def bv8_gather (kv37 : PM → Nat → Int32 → Int32 → Int32 → Int32 → Int32 × PM) (p : PM) (v1 : Nat) (v2 : Int32) : Int32 × PM :=
  if (p.1 1 (p.2.2 10 v1 4) 9) = (cn 2) then (
    kv37 p v1 v2 (cn 1) (cn 0) (cn 0))
  else (
    kv37 p v1 v2 (cn 0) (cn 0) (cn 0))
noncomputable def v8_gather (p : PM) (v1 : Nat) (v2 : Int32) : Int32 × PM := bv8_gather (v8_gather_37 FU) p v1 v2
noncomputable def bg8_gather (kg37 : PM → Nat → Int32 → Int32 → Int32 → Int32 → Prop) (p : PM) (v1 : Nat) (v2 : Int32) : Prop :=
  (¬ v1 = 0) ∧ (
  (¬ (p.2.2 10 v1 4) = 0) ∧ (
  if (p.1 1 (p.2.2 10 v1 4) 9) = (cn 2) then (
    kg37 p v1 v2 (cn 1) (cn 0) (cn 0))
  else (
    kg37 p v1 v2 (cn 0) (cn 0) (cn 0))))
noncomputable def g8_gather (p : PM) (v1 : Nat) (v2 : Int32) : Prop := bg8_gather (g8_gather_37 FU) p v1 v2
def R125 : List Row := [(0, .aload_n 1, 1, 0, (0, 0, 0, 0, 0, 0)), (1, .getfield 34, 3, 0, (10, 4, 4, 0, 0, 0)), (4, .getfield 119, 3, 0, (1, 9, 0, 0, 0, 0)), (7, .iconst 2, 1, 0, (0, 0, 0, 0, 0, 2)), (8, .if_icmp .ne 7, 3, 0, (0, 0, 0, 0, 0, 0)), (11, .iconst 1, 1, 0, (0, 0, 0, 0, 0, 1)), (12, .goto 4, 3, 0, (0, 0, 0, 0, 0, 0)), (15, .iconst 0, 1, 0, (0, 0, 0, 0, 0, 0)), (16, .istore_n 3, 1, 0, (0, 0, 0, 0, 0, 0)), (17, .iconst 0, 1, 0, (0, 0, 0, 0, 0, 0)), (18, .istore 4, 2, 0, (0, 0, 0, 0, 0, 0)), (20, .aload_n 0, 1, 0, (0, 0, 0, 0, 0, 0)), (21, .getfield 21, 3, 0, (8, 0, 9, 2, 1, 0)), (24, .getfield 29, 3, 0, (6, 1, 23, 2, 1, 0)), (27, .astore 5, 2, 0, (0, 0, 0, 0, 0, 0)), (29, .aload 5, 2, 0, (0, 0, 0, 0, 0, 0)), (31, .arraylength, 1, 0, (20, 40, 0, 0, 0, 40)), (32, .istore 6, 2, 0, (0, 0, 0, 0, 0, 0)), (34, .iconst 0, 1, 0, (0, 0, 0, 0, 0, 0)), (35, .istore 7, 2, 0, (0, 0, 0, 0, 0, 0)), (37, .iload 7, 2, 1, (0, 0, 0, 0, 0, 0)), (39, .iload 6, 2, 0, (0, 0, 0, 0, 0, 0)), (41, .if_icmp .ge 185, 3, 0, (0, 0, 0, 0, 0, 0)), (44, .aload 5, 2, 0, (0, 0, 0, 0, 0, 0)), (46, .iload 7, 2, 0, (0, 0, 0, 0, 0, 0)), (48, .aaload, 1, 0, (20, 40, 0, 1, 1, 0)), (49, .astore 8, 2, 0, (0, 0, 0, 0, 0, 0)), (51, .aload 8, 2, 0, (0, 0, 0, 0, 0, 0)), (53, .aload_n 1, 1, 0, (0, 0, 0, 0, 0, 0)), (54, .getfield 34, 3, 0, (10, 4, 4, 0, 0, 0)), (57, .aload_n 1, 1, 0, (0, 0, 0, 0, 0, 0)), (58, .getfield 38, 3, 0, (10, 5, 1, 0, 0, 0)), (61, .ifCond .ne 7, 3, 0, (0, 0, 0, 0, 0, 0)), (64, .iconst 1, 1, 0, (0, 0, 0, 0, 0, 1)), (65, .goto 4, 3, 0, (0, 0, 0, 0, 0, 0)), (68, .iconst 0, 1, 0, (0, 0, 0, 0, 0, 0)), (69, .invokevirtual 42, 3, 0, (0, 3, 0, 0, 1, 0)), (72, .ifCond .eq 148, 3, 0, (0, 0, 0, 0, 0, 0)), (75, .aload 8, 2, 0, (0, 0, 0, 0, 0, 0)), (77, .getfield 56, 3, 0, (10, 7, 0, 1, 0, 0)), (80, .iload_n 2, 1, 0, (0, 0, 0, 0, 0, 0)), (81, .if_icmp .eq 6, 3, 0, (0, 0, 0, 0, 0, 0)), (84, .goto 136, 3, 0, (0, 0, 0, 0, 0, 0)), (87, .iload 4, 2, 0, (0, 0, 0, 0, 0, 0)), (89, .istore 9, 2, 0, (0, 0, 0, 0, 0, 0)), (91, .iload 9, 2, 2, (0, 0, 0, 0, 0, 0)), (93, .ifCond .le 105, 3, 0, (0, 0, 0, 0, 0, 0)), (96, .iload 9, 2, 0, (0, 0, 0, 0, 0, 0)), (98, .aload_n 0, 1, 0, (0, 0, 0, 0, 0, 0)), (99, .getfield 11, 3, 0, (8, 2, 23, 2, 2, 0)), (102, .arraylength, 1, 0, (20, 40, 0, 0, 0, 40)), (103, .if_icmp .ge 95, 3, 0, (0, 0, 0, 0, 0, 0)), (106, .aload_n 0, 1, 0, (0, 0, 0, 0, 0, 0)), (107, .getfield 11, 3, 0, (8, 2, 23, 2, 2, 0)), (110, .iload 9, 2, 0, (0, 0, 0, 0, 0, 0)), (112, .iconst 1, 1, 0, (0, 0, 0, 0, 0, 1)), (113, .isub, 1, 0, (0, 0, 0, 0, 0, 0)), (114, .aaload, 1, 0, (20, 40, 0, 0, 0, 0)), (115, .astore 10, 2, 0, (0, 0, 0, 0, 0, 0)), (117, .iload_n 3, 1, 0, (0, 0, 0, 0, 0, 0)), (118, .ifCond .eq 37, 3, 0, (0, 0, 0, 0, 0, 0)), (121, .aload 8, 2, 0, (0, 0, 0, 0, 0, 0)), (123, .getfield 122, 3, 0, (10, 11, 0, 0, 0, 0)), (126, .aload 10, 2, 0, (0, 0, 0, 0, 0, 0)), (128, .getfield 122, 3, 0, (10, 11, 0, 0, 0, 0)), (131, .if_icmp .eq 24, 3, 0, (0, 0, 0, 0, 0, 0)), (134, .aload 10, 2, 0, (0, 0, 0, 0, 0, 0)), (136, .getfield 122, 3, 0, (10, 11, 0, 0, 0, 0)), (139, .aload 8, 2, 0, (0, 0, 0, 0, 0, 0)), (141, .getfield 122, 3, 0, (10, 11, 0, 0, 0, 0)), (144, .if_icmp .le 7, 3, 0, (0, 0, 0, 0, 0, 0)), (147, .iconst 1, 1, 0, (0, 0, 0, 0, 0, 1)), (148, .goto 25, 3, 0, (0, 0, 0, 0, 0, 0)), (151, .iconst 0, 1, 0, (0, 0, 0, 0, 0, 0)), (152, .goto 21, 3, 0, (0, 0, 0, 0, 0, 0)), (155, .aload 10, 2, 0, (0, 0, 0, 0, 0, 0)), (157, .getfield 125, 3, 0, (10, 12, 0, 0, 0, 0)), (160, .aload 8, 2, 0, (0, 0, 0, 0, 0, 0)), (162, .getfield 125, 3, 0, (10, 12, 0, 0, 0, 0)), (165, .if_icmp .ge 7, 3, 0, (0, 0, 0, 0, 0, 0)), (168, .iconst 1, 1, 0, (0, 0, 0, 0, 0, 1)), (169, .goto 4, 3, 0, (0, 0, 0, 0, 0, 0)), (172, .iconst 0, 1, 0, (0, 0, 0, 0, 0, 0)), (173, .istore 11, 2, 0, (0, 0, 0, 0, 0, 0)), (175, .iload 11, 2, 0, (0, 0, 0, 0, 0, 0)), (177, .ifCond .eq 6, 3, 0, (0, 0, 0, 0, 0, 0)), (180, .goto 18, 3, 0, (0, 0, 0, 0, 0, 0)), (183, .aload_n 0, 1, 0, (0, 0, 0, 0, 0, 0)), (184, .getfield 11, 3, 0, (8, 2, 23, 2, 2, 0)), (187, .iload 9, 2, 0, (0, 0, 0, 0, 0, 0)), (189, .aload 10, 2, 0, (0, 0, 0, 0, 0, 0)), (191, .aastore, 1, 0, (20, 40, 0, 0, 0, 0)), (192, .iinc 9 (-1), 3, 0, (0, 0, 0, 0, 0, -1)), (195, .goto (-104), 3, 0, (0, 0, 0, 0, 0, 0)), (198, .iload 9, 2, 0, (0, 0, 0, 0, 0, 0)), (200, .aload_n 0, 1, 0, (0, 0, 0, 0, 0, 0)), (201, .getfield 11, 3, 0, (8, 2, 23, 2, 2, 0)), (204, .arraylength, 1, 0, (20, 40, 0, 0, 0, 40)), (205, .if_icmp .ge 15, 3, 0, (0, 0, 0, 0, 0, 0)), (208, .aload_n 0, 1, 0, (0, 0, 0, 0, 0, 0)), (209, .getfield 11, 3, 0, (8, 2, 23, 2, 2, 0)), (212, .iload 9, 2, 0, (0, 0, 0, 0, 0, 0)), (214, .aload 8, 2, 0, (0, 0, 0, 0, 0, 0)), (216, .aastore, 1, 0, (20, 40, 0, 0, 0, 0)), (217, .iinc 4 1, 3, 0, (0, 0, 0, 0, 0, 1)), (220, .iinc 7 1, 3, 0, (0, 0, 0, 0, 0, 1)), (223, .goto (-186), 3, 0, (0, 0, 0, 0, 0, 0)), (226, .iload 4, 2, 0, (0, 0, 0, 0, 0, 0)), (228, .ireturn, 1, 0, (0, 0, 0, 0, 0, 0))]
set_option maxRecDepth 100000 in
theorem rk125 : R125.all (rok 0 125 1 [(144, [13, 4, 0])]) = true := by decide +kernel
set_option maxRecDepth 100000 in
theorem tab125 {F144 : PM → Nat → Nat → Int32 → Int32} {G144 : PM → Nat → Nat → Int32 → Prop} : TabOK 0 125 1 [CC144 F144 G144] R125 := tab_ok (K := K125) rfl rfl (fun h => d125 h) rk125 (by decide +kernel)
set_option maxRecDepth 100000 in
theorem pc125 : cutpc [37, 91] R125 = true := by decide +kernel
set_option maxRecDepth 100000 in
theorem r8_gather_91 (F144 : PM → Nat → Nat → Int32 → Int32) (G144 : PM → Nat → Nat → Int32 → Prop) (o144 : CalOK 0 (CC144 F144 G144)) (kv37 : PM → Nat → Int32 → Int32 → Int32 → Int32 → Int32 × PM) (kg37 : PM → Nat → Int32 → Int32 → Int32 → Int32 → Prop) (hk37 : ∀ (p : PM) (v1 : Nat) (v2 : Int32) (v3 : Int32) (v4 : Int32) (v7 : Int32) (d8 d9 d10 d11 : ZV), Gr 0 p → kg37 p v1 v2 v3 v4 v7 → ZJ 0 125 37 [zR 8 1, zR 10 v1, zI v2, zI v3, zI v4, zR 20 1, zC 40, zI v7, d8, d9, d10, d11] [] p (hwI (kv37 p v1 v2 v3 v4 v7))) (kv91 : PM → Nat → Int32 → Int32 → Int32 → Int32 → Nat → Int32 → Int32 × PM) (kg91 : PM → Nat → Int32 → Int32 → Int32 → Int32 → Nat → Int32 → Prop) (hk91 : ∀ (p : PM) (v1 : Nat) (v2 : Int32) (v3 : Int32) (v4 : Int32) (v7 : Int32) (v8 : Nat) (v9 : Int32) (d10 d11 : ZV), Gr 0 p → kg91 p v1 v2 v3 v4 v7 v8 v9 → ZJ 0 125 91 [zR 8 1, zR 10 v1, zI v2, zI v3, zI v4, zR 20 1, zC 40, zI v7, zR 10 v8, zI v9, d10, d11] [] p (hwI (kv91 p v1 v2 v3 v4 v7 v8 v9))) : ∀ (p : PM) (v1 : Nat) (v2 : Int32) (v3 : Int32) (v4 : Int32) (v7 : Int32) (v8 : Nat) (v9 : Int32) (d10 d11 : ZV), Gr 0 p → bg8_gather_91 kg37 kg91 p v1 v2 v3 v4 v7 v8 v9 → ZJ 0 125 91 [zR 8 1, zR 10 v1, zI v2, zI v3, zI v4, zR 20 1, zC 40, zI v7, zR 10 v8, zI v9, d10, d11] [] p (hwI (bv8_gather_91 kv37 kv91 p v1 v2 v3 v4 v7 v8 v9)) := by
  intro p v1 v2 v3 v4 v7 v8 v9 d10 d11 hg H
  exact rwI (n := 3000) (q := 91) (la := [zR 8 1, zR 10 v1, zI v2, zI v3, zI v4, zR 20 1, zC 40, zI v7, zR 10 v8, zI v9, d10, d11]) (sa := []) (ks := [fun la sa s => kv37 s (ar la 1) (ai la 2) (ai la 3) (ai la 4) (ai la 7), fun la sa s => kv91 s (ar la 1) (ai la 2) (ai la 3) (ai la 4) (ai la 7) (ar la 8) (ai la 9)]) (gs := [fun la sa s => zsw (tc2 la [(108, 1), (14, 0), (0, 0), (0, 0), (0, 0), (120, 1), (3, 40), (0, 0), (2, 0), (2, 0), (2, 0), (2, 0)] && tc2 sa []) False (kg37 s (ar la 1) (ai la 2) (ai la 3) (ai la 4) (ai la 7)), fun la sa s => zsw (tc2 la [(108, 1), (14, 0), (0, 0), (0, 0), (0, 0), (120, 1), (3, 40), (0, 0), (14, 0), (0, 0), (2, 0), (2, 0)] && tc2 sa []) False (kg91 s (ar la 1) (ai la 2) (ai la 3) (ai la 4) (ai la 7) (ar la 8) (ai la 9))]) (fcons o144 (fnil)) tab125 pc125 ⟨fun la sa s hg H => zcut H fun H => hk37 s (ar la 1) (ai la 2) (ai la 3) (ai la 4) (ai la 7) (zld la 8) (zld la 9) (zld la 10) (zld la 11) hg H, fun la sa s hg H => zcut H fun H => hk91 s (ar la 1) (ai la 2) (ai la 3) (ai la 4) (ai la 7) (ar la 8) (ai la 9) (zld la 10) (zld la 11) hg H, trivial⟩ hg H
theorem t8_gather_91 (kv37 : PM → Nat → Int32 → Int32 → Int32 → Int32 → Int32 × PM) (kg37 : PM → Nat → Int32 → Int32 → Int32 → Int32 → Prop) (hk37 : ∀ (p : PM) (v1 : Nat) (v2 : Int32) (v3 : Int32) (v4 : Int32) (v7 : Int32) (d8 d9 d10 d11 : ZV), Gr 0 p → kg37 p v1 v2 v3 v4 v7 → ZJ 0 125 37 [zR 8 1, zR 10 v1, zI v2, zI v3, zI v4, zR 20 1, zC 40, zI v7, d8, d9, d10, d11] [] p (hwI (kv37 p v1 v2 v3 v4 v7))) : ∀ (n : Nat), ∀ (p : PM) (v1 : Nat) (v2 : Int32) (v3 : Int32) (v4 : Int32) (v7 : Int32) (v8 : Nat) (v9 : Int32) (d10 d11 : ZV), Gr 0 p → g8_gather_91 kg37 n p v1 v2 v3 v4 v7 v8 v9 → ZJ 0 125 91 [zR 8 1, zR 10 v1, zI v2, zI v3, zI v4, zR 20 1, zC 40, zI v7, zR 10 v8, zI v9, d10, d11] [] p (hwI (v8_gather_91 kv37 n p v1 v2 v3 v4 v7 v8 v9)) := by
  intro n
  induction n with
  | zero =>
    intro p v1 v2 v3 v4 v7 v8 v9 d10 d11 hg H
    exact H.elim
  | succ n ih => exact r8_gather_91 v10_standsIn g10_standsIn ok144 kv37 kg37 hk37 (v8_gather_91 kv37 n) (g8_gather_91 kg37 n) ih
set_option maxRecDepth 100000 in
theorem r8_gather_37 (F144 : PM → Nat → Nat → Int32 → Int32) (G144 : PM → Nat → Nat → Int32 → Prop) (o144 : CalOK 0 (CC144 F144 G144)) (kv37 : PM → Nat → Int32 → Int32 → Int32 → Int32 → Int32 × PM) (kg37 : PM → Nat → Int32 → Int32 → Int32 → Int32 → Prop) (hk37 : ∀ (p : PM) (v1 : Nat) (v2 : Int32) (v3 : Int32) (v4 : Int32) (v7 : Int32) (d8 d9 d10 d11 : ZV), Gr 0 p → kg37 p v1 v2 v3 v4 v7 → ZJ 0 125 37 [zR 8 1, zR 10 v1, zI v2, zI v3, zI v4, zR 20 1, zC 40, zI v7, d8, d9, d10, d11] [] p (hwI (kv37 p v1 v2 v3 v4 v7))) (kv91 : PM → Nat → Int32 → Int32 → Int32 → Int32 → Nat → Int32 → Int32 × PM) (kg91 : PM → Nat → Int32 → Int32 → Int32 → Int32 → Nat → Int32 → Prop) (hk91 : ∀ (p : PM) (v1 : Nat) (v2 : Int32) (v3 : Int32) (v4 : Int32) (v7 : Int32) (v8 : Nat) (v9 : Int32) (d10 d11 : ZV), Gr 0 p → kg91 p v1 v2 v3 v4 v7 v8 v9 → ZJ 0 125 91 [zR 8 1, zR 10 v1, zI v2, zI v3, zI v4, zR 20 1, zC 40, zI v7, zR 10 v8, zI v9, d10, d11] [] p (hwI (kv91 p v1 v2 v3 v4 v7 v8 v9))) : ∀ (p : PM) (v1 : Nat) (v2 : Int32) (v3 : Int32) (v4 : Int32) (v7 : Int32) (d8 d9 d10 d11 : ZV), Gr 0 p → bg8_gather_37 F144 G144 kg37 kg91 p v1 v2 v3 v4 v7 → ZJ 0 125 37 [zR 8 1, zR 10 v1, zI v2, zI v3, zI v4, zR 20 1, zC 40, zI v7, d8, d9, d10, d11] [] p (hwI (bv8_gather_37 F144 kv37 kv91 p v1 v2 v3 v4 v7)) := by
  intro p v1 v2 v3 v4 v7 d8 d9 d10 d11 hg H
  exact rwI (n := 3000) (q := 37) (la := [zR 8 1, zR 10 v1, zI v2, zI v3, zI v4, zR 20 1, zC 40, zI v7, d8, d9, d10, d11]) (sa := []) (ks := [fun la sa s => kv37 s (ar la 1) (ai la 2) (ai la 3) (ai la 4) (ai la 7), fun la sa s => kv91 s (ar la 1) (ai la 2) (ai la 3) (ai la 4) (ai la 7) (ar la 8) (ai la 9)]) (gs := [fun la sa s => zsw (tc2 la [(108, 1), (14, 0), (0, 0), (0, 0), (0, 0), (120, 1), (3, 40), (0, 0), (2, 0), (2, 0), (2, 0), (2, 0)] && tc2 sa []) False (kg37 s (ar la 1) (ai la 2) (ai la 3) (ai la 4) (ai la 7)), fun la sa s => zsw (tc2 la [(108, 1), (14, 0), (0, 0), (0, 0), (0, 0), (120, 1), (3, 40), (0, 0), (14, 0), (0, 0), (2, 0), (2, 0)] && tc2 sa []) False (kg91 s (ar la 1) (ai la 2) (ai la 3) (ai la 4) (ai la 7) (ar la 8) (ai la 9))]) (fcons o144 (fnil)) tab125 pc125 ⟨fun la sa s hg H => zcut H fun H => hk37 s (ar la 1) (ai la 2) (ai la 3) (ai la 4) (ai la 7) (zld la 8) (zld la 9) (zld la 10) (zld la 11) hg H, fun la sa s hg H => zcut H fun H => hk91 s (ar la 1) (ai la 2) (ai la 3) (ai la 4) (ai la 7) (ar la 8) (ai la 9) (zld la 10) (zld la 11) hg H, trivial⟩ hg H
theorem t8_gather_37 : ∀ (n : Nat), ∀ (p : PM) (v1 : Nat) (v2 : Int32) (v3 : Int32) (v4 : Int32) (v7 : Int32) (d8 d9 d10 d11 : ZV), Gr 0 p → g8_gather_37 n p v1 v2 v3 v4 v7 → ZJ 0 125 37 [zR 8 1, zR 10 v1, zI v2, zI v3, zI v4, zR 20 1, zC 40, zI v7, d8, d9, d10, d11] [] p (hwI (v8_gather_37 n p v1 v2 v3 v4 v7)) := by
  intro n
  induction n with
  | zero =>
    intro p v1 v2 v3 v4 v7 d8 d9 d10 d11 hg H
    exact H.elim
  | succ n ih => exact r8_gather_37 v10_standsIn g10_standsIn ok144 (v8_gather_37 n) (g8_gather_37 n) ih (v8_gather_91 (v8_gather_37 n) FU) (g8_gather_91 (g8_gather_37 n) FU) (t8_gather_91 (v8_gather_37 n) (g8_gather_37 n) ih FU)
set_option maxRecDepth 100000 in
theorem r8_gather (F144 : PM → Nat → Nat → Int32 → Int32) (G144 : PM → Nat → Nat → Int32 → Prop) (o144 : CalOK 0 (CC144 F144 G144)) (kv37 : PM → Nat → Int32 → Int32 → Int32 → Int32 → Int32 × PM) (kg37 : PM → Nat → Int32 → Int32 → Int32 → Int32 → Prop) (hk37 : ∀ (p : PM) (v1 : Nat) (v2 : Int32) (v3 : Int32) (v4 : Int32) (v7 : Int32) (d8 d9 d10 d11 : ZV), Gr 0 p → kg37 p v1 v2 v3 v4 v7 → ZJ 0 125 37 [zR 8 1, zR 10 v1, zI v2, zI v3, zI v4, zR 20 1, zC 40, zI v7, d8, d9, d10, d11] [] p (hwI (kv37 p v1 v2 v3 v4 v7))) : ∀ (p : PM) (v1 : Nat) (v2 : Int32), Gr 0 p → bg8_gather kg37 p v1 v2 → ZJ 0 125 0 [zR 8 1, zR 10 v1, zI v2, zJ, zJ, zJ, zJ, zJ, zJ, zJ, zJ, zJ] [] p (hwI (bv8_gather kv37 p v1 v2)) := by
  intro p v1 v2  hg H
  exact rwI (n := 3000) (q := 0) (la := [zR 8 1, zR 10 v1, zI v2, zJ, zJ, zJ, zJ, zJ, zJ, zJ, zJ, zJ]) (sa := []) (ks := [fun la sa s => kv37 s (ar la 1) (ai la 2) (ai la 3) (ai la 4) (ai la 7), fun _ _ s => (0, s)]) (gs := [fun la sa s => zsw (tc2 la [(108, 1), (14, 0), (0, 0), (0, 0), (0, 0), (120, 1), (3, 40), (0, 0), (2, 0), (2, 0), (2, 0), (2, 0)] && tc2 sa []) False (kg37 s (ar la 1) (ai la 2) (ai la 3) (ai la 4) (ai la 7)), fun _ _ _ => False]) (fcons o144 (fnil)) tab125 pc125 ⟨fun la sa s hg H => zcut H fun H => hk37 s (ar la 1) (ai la 2) (ai la 3) (ai la 4) (ai la 7) (zld la 8) (zld la 9) (zld la 10) (zld la 11) hg H, fun _ _ _ _ H => H.elim, trivial⟩ hg H
theorem t8_gather : ∀ (p : PM) (v1 : Nat) (v2 : Int32), Gr 0 p → g8_gather p v1 v2 → ZJ 0 125 0 [zR 8 1, zR 10 v1, zI v2, zJ, zJ, zJ, zJ, zJ, zJ, zJ, zJ, zJ] [] p (hwI (v8_gather p v1 v2)) := r8_gather v10_standsIn g10_standsIn ok144 (v8_gather_37 FU) (g8_gather_37 FU) (t8_gather_37 FU)
def CC125 (F : PM → Nat → Int32 → Int32 × PM) (G : PM → Nat → Int32 → Prop) : Cal := (125, [11, 13, 0], 1, false, fun as p => (zI (F p (ar as 1) (ai as 2)).1, (F p (ar as 1) (ai as 2)).2), fun as p => zsw (tc2 as [(108, 1), (14, 0), (0, 0)]) False (G p (ar as 1) (ai as 2)))
set_option maxRecDepth 100000 in
theorem okr125 (F : PM → Nat → Int32 → Int32 × PM) (G : PM → Nat → Int32 → Prop) (h : ∀ (p : PM) (v1 : Nat) (v2 : Int32), Gr 0 p → G p v1 v2 → ZJ 0 125 0 [zR 8 1, zR 10 v1, zI v2, zJ, zJ, zJ, zJ, zJ, zJ, zJ, zJ, zJ] [] p (hwI (F p v1 v2))) : CalOK 0 (CC125 F G) := cal_ok (m := 12) (by unfold mL; rw [mX_125]) (fun as p hg H => h p (ar as 1) (ai as 2) hg H)
theorem ok125 : CalOK 0 (CC125 v8_gather g8_gather) := okr125 v8_gather g8_gather t8_gather
noncomputable def bv8_meetsOwn_5 (kv5 : PM → Nat → Int32 → Int32 → Int32 → Int32 × PM) (p : PM) (v1 : Nat) (v2 : Int32) (v3 : Int32) (v4 : Int32) : Int32 × PM :=
  if v4 < v2 then (
    if v4 < (cn 40) then (
      let x1 : Nat := (p.2.2 20 2 (v4).toNatClampNeg)
      if (p.1 0 (p.2.2 10 x1 3) 1) = (p.1 0 (p.2.2 10 v1 3) 1) then (
        if (p.1 1 (p.2.2 10 v1 4) 11) = (cn 2) then (
          let p2 : PM := pI p 10 x1 2 (cn 0)
          kv5 p2 v1 v2 (cn 1) (v4 + (cn 1)))
        else (
          kv5 p v1 v2 (cn 1) (v4 + (cn 1))))
      else (
        kv5 p v1 v2 v3 (v4 + (cn 1))))
    else (
      (v3, p)))
  else (
    (v3, p))
noncomputable def v8_meetsOwn_5 (n : Nat) : PM → Nat → Int32 → Int32 → Int32 → Int32 × PM := Nat.rec (motive := fun _ => PM → Nat → Int32 → Int32 → Int32 → Int32 × PM) (fun p _ _ _ _ => (0, p)) (fun _ ih => bv8_meetsOwn_5 ih) n
theorem ev8_meetsOwn_5 (n : Nat) (p : PM) (v1 : Nat) (v2 : Int32) (v3 : Int32) (v4 : Int32) : v8_meetsOwn_5 (n + 1) p v1 v2 v3 v4 = bv8_meetsOwn_5 (v8_meetsOwn_5 n) p v1 v2 v3 v4 := rfl
noncomputable def bg8_meetsOwn_5 (kg5 : PM → Nat → Int32 → Int32 → Int32 → Prop) (p : PM) (v1 : Nat) (v2 : Int32) (v3 : Int32) (v4 : Int32) : Prop :=
  if v4 < v2 then (
    if v4 < (cn 40) then (
      (inb v4 40) ∧ (
      let x1 : Nat := (p.2.2 20 2 (v4).toNatClampNeg)
      (¬ x1 = 0) ∧ (
      (¬ (p.2.2 10 x1 3) = 0) ∧ (
      (¬ v1 = 0) ∧ (
      (¬ (p.2.2 10 v1 3) = 0) ∧ (
      if (p.1 0 (p.2.2 10 x1 3) 1) = (p.1 0 (p.2.2 10 v1 3) 1) then (
        (¬ v1 = 0) ∧ (
        (¬ (p.2.2 10 v1 4) = 0) ∧ (
        if (p.1 1 (p.2.2 10 v1 4) 11) = (cn 2) then (
          (¬ x1 = 0) ∧ (
          let p2 : PM := pI p 10 x1 2 (cn 0)
          kg5 p2 v1 v2 (cn 1) (v4 + (cn 1))))
        else (
          kg5 p v1 v2 (cn 1) (v4 + (cn 1))))))
      else (
        kg5 p v1 v2 v3 (v4 + (cn 1)))))))))
    else (
      (b01 v3) ∧ (
      True)))
  else (
    (b01 v3) ∧ (
    True))
noncomputable def g8_meetsOwn_5 (n : Nat) : PM → Nat → Int32 → Int32 → Int32 → Prop := Nat.rec (motive := fun _ => PM → Nat → Int32 → Int32 → Int32 → Prop) (fun _ _ _ _ _ => False) (fun _ ih => bg8_meetsOwn_5 ih) n
theorem eg8_meetsOwn_5 (n : Nat) (p : PM) (v1 : Nat) (v2 : Int32) (v3 : Int32) (v4 : Int32) : g8_meetsOwn_5 (n + 1) p v1 v2 v3 v4 = bg8_meetsOwn_5 (g8_meetsOwn_5 n) p v1 v2 v3 v4 := rfl
noncomputable def bv8_meetsOwn (kv5 : PM → Nat → Int32 → Int32 → Int32 → Int32 × PM) (p : PM) (v1 : Nat) (v2 : Int32) : Int32 × PM :=
  kv5 p v1 v2 (cn 0) (cn 0)
noncomputable def v8_meetsOwn (p : PM) (v1 : Nat) (v2 : Int32) : Int32 × PM := bv8_meetsOwn (v8_meetsOwn_5 FU) p v1 v2
noncomputable def bg8_meetsOwn (kg5 : PM → Nat → Int32 → Int32 → Int32 → Prop) (p : PM) (v1 : Nat) (v2 : Int32) : Prop :=
  kg5 p v1 v2 (cn 0) (cn 0)
noncomputable def g8_meetsOwn (p : PM) (v1 : Nat) (v2 : Int32) : Prop := bg8_meetsOwn (g8_meetsOwn_5 FU) p v1 v2
def R126 : List Row := [(0, .iconst 0, 1, 0, (0, 0, 0, 0, 0, 0)), (1, .istore_n 3, 1, 0, (0, 0, 0, 0, 0, 0)), (2, .iconst 0, 1, 0, (0, 0, 0, 0, 0, 0)), (3, .istore 4, 2, 0, (0, 0, 0, 0, 0, 0)), (5, .iload 4, 2, 1, (0, 0, 0, 0, 0, 0)), (7, .iload_n 2, 1, 0, (0, 0, 0, 0, 0, 0)), (8, .if_icmp .ge 65, 3, 0, (0, 0, 0, 0, 0, 0)), (11, .iload 4, 2, 0, (0, 0, 0, 0, 0, 0)), (13, .aload_n 0, 1, 0, (0, 0, 0, 0, 0, 0)), (14, .getfield 11, 3, 0, (8, 2, 23, 2, 2, 0)), (17, .arraylength, 1, 0, (20, 40, 0, 0, 0, 40)), (18, .if_icmp .ge 55, 3, 0, (0, 0, 0, 0, 0, 0)), (21, .aload_n 0, 1, 0, (0, 0, 0, 0, 0, 0)), (22, .getfield 11, 3, 0, (8, 2, 23, 2, 2, 0)), (25, .iload 4, 2, 0, (0, 0, 0, 0, 0, 0)), (27, .aaload, 1, 0, (20, 40, 0, 0, 0, 0)), (28, .astore 5, 2, 0, (0, 0, 0, 0, 0, 0)), (30, .aload 5, 2, 0, (0, 0, 0, 0, 0, 0)), (32, .getfield 46, 3, 0, (10, 3, 3, 0, 0, 0)), (35, .getfield 50, 3, 0, (0, 1, 0, 0, 0, 0)), (38, .aload_n 1, 1, 0, (0, 0, 0, 0, 0, 0)), (39, .getfield 46, 3, 0, (10, 3, 3, 0, 0, 0)), (42, .getfield 50, 3, 0, (0, 1, 0, 0, 0, 0)), (45, .if_icmp .ne 22, 3, 0, (0, 0, 0, 0, 0, 0)), (48, .iconst 1, 1, 0, (0, 0, 0, 0, 0, 1)), (49, .istore_n 3, 1, 0, (0, 0, 0, 0, 0, 0)), (50, .aload_n 1, 1, 0, (0, 0, 0, 0, 0, 0)), (51, .getfield 34, 3, 0, (10, 4, 4, 0, 0, 0)), (54, .getfield 88, 3, 0, (1, 11, 0, 0, 0, 0)), (57, .iconst 2, 1, 0, (0, 0, 0, 0, 0, 2)), (58, .if_icmp .ne 9, 3, 0, (0, 0, 0, 0, 0, 0)), (61, .aload 5, 2, 0, (0, 0, 0, 0, 0, 0)), (63, .iconst 0, 1, 0, (0, 0, 0, 0, 0, 0)), (64, .putfield 72, 3, 0, (10, 2, 0, 0, 0, 0)), (67, .iinc 4 1, 3, 0, (0, 0, 0, 0, 0, 1)), (70, .goto (-65), 3, 0, (0, 0, 0, 0, 0, 0)), (73, .iload_n 3, 1, 0, (0, 0, 0, 0, 0, 0)), (74, .ireturn, 1, 0, (1, 0, 0, 0, 0, 0))]
set_option maxRecDepth 100000 in
theorem rk126 : R126.all (rok 0 126 1 []) = true := by decide +kernel
set_option maxRecDepth 100000 in
theorem tab126 : TabOK 0 126 1 [] R126 := tab_ok (K := K126) rfl rfl (fun h => d126 h) rk126 (by decide +kernel)
set_option maxRecDepth 100000 in
theorem pc126 : cutpc [5] R126 = true := by decide +kernel
set_option maxRecDepth 100000 in
theorem r8_meetsOwn_5 (kv5 : PM → Nat → Int32 → Int32 → Int32 → Int32 × PM) (kg5 : PM → Nat → Int32 → Int32 → Int32 → Prop) (hk5 : ∀ (p : PM) (v1 : Nat) (v2 : Int32) (v3 : Int32) (v4 : Int32) (d5 : ZV), Gr 0 p → kg5 p v1 v2 v3 v4 → ZJ 0 126 5 [zR 8 1, zR 10 v1, zI v2, zI v3, zI v4, d5] [] p (hwI (kv5 p v1 v2 v3 v4))) : ∀ (p : PM) (v1 : Nat) (v2 : Int32) (v3 : Int32) (v4 : Int32) (d5 : ZV), Gr 0 p → bg8_meetsOwn_5 kg5 p v1 v2 v3 v4 → ZJ 0 126 5 [zR 8 1, zR 10 v1, zI v2, zI v3, zI v4, d5] [] p (hwI (bv8_meetsOwn_5 kv5 p v1 v2 v3 v4)) := by
  intro p v1 v2 v3 v4 d5 hg H
  exact rwI (n := 3000) (q := 5) (la := [zR 8 1, zR 10 v1, zI v2, zI v3, zI v4, d5]) (sa := []) (ks := [fun la sa s => kv5 s (ar la 1) (ai la 2) (ai la 3) (ai la 4)]) (gs := [fun la sa s => zsw (tc2 la [(108, 1), (14, 0), (0, 0), (0, 0), (0, 0), (2, 0)] && tc2 sa []) False (kg5 s (ar la 1) (ai la 2) (ai la 3) (ai la 4))]) (fnil) tab126 pc126 ⟨fun la sa s hg H => zcut H fun H => hk5 s (ar la 1) (ai la 2) (ai la 3) (ai la 4) (zld la 5) hg H, trivial⟩ hg H
theorem t8_meetsOwn_5 : ∀ (n : Nat), ∀ (p : PM) (v1 : Nat) (v2 : Int32) (v3 : Int32) (v4 : Int32) (d5 : ZV), Gr 0 p → g8_meetsOwn_5 n p v1 v2 v3 v4 → ZJ 0 126 5 [zR 8 1, zR 10 v1, zI v2, zI v3, zI v4, d5] [] p (hwI (v8_meetsOwn_5 n p v1 v2 v3 v4)) := by
  intro n
  induction n with
  | zero =>
    intro p v1 v2 v3 v4 d5 hg H
    exact H.elim
  | succ n ih => exact r8_meetsOwn_5 (v8_meetsOwn_5 n) (g8_meetsOwn_5 n) ih
set_option maxRecDepth 100000 in
theorem r8_meetsOwn (kv5 : PM → Nat → Int32 → Int32 → Int32 → Int32 × PM) (kg5 : PM → Nat → Int32 → Int32 → Int32 → Prop) (hk5 : ∀ (p : PM) (v1 : Nat) (v2 : Int32) (v3 : Int32) (v4 : Int32) (d5 : ZV), Gr 0 p → kg5 p v1 v2 v3 v4 → ZJ 0 126 5 [zR 8 1, zR 10 v1, zI v2, zI v3, zI v4, d5] [] p (hwI (kv5 p v1 v2 v3 v4))) : ∀ (p : PM) (v1 : Nat) (v2 : Int32), Gr 0 p → bg8_meetsOwn kg5 p v1 v2 → ZJ 0 126 0 [zR 8 1, zR 10 v1, zI v2, zJ, zJ, zJ] [] p (hwI (bv8_meetsOwn kv5 p v1 v2)) := by
  intro p v1 v2  hg H
  exact rwI (n := 3000) (q := 0) (la := [zR 8 1, zR 10 v1, zI v2, zJ, zJ, zJ]) (sa := []) (ks := [fun la sa s => kv5 s (ar la 1) (ai la 2) (ai la 3) (ai la 4)]) (gs := [fun la sa s => zsw (tc2 la [(108, 1), (14, 0), (0, 0), (0, 0), (0, 0), (2, 0)] && tc2 sa []) False (kg5 s (ar la 1) (ai la 2) (ai la 3) (ai la 4))]) (fnil) tab126 pc126 ⟨fun la sa s hg H => zcut H fun H => hk5 s (ar la 1) (ai la 2) (ai la 3) (ai la 4) (zld la 5) hg H, trivial⟩ hg H
theorem t8_meetsOwn : ∀ (p : PM) (v1 : Nat) (v2 : Int32), Gr 0 p → g8_meetsOwn p v1 v2 → ZJ 0 126 0 [zR 8 1, zR 10 v1, zI v2, zJ, zJ, zJ] [] p (hwI (v8_meetsOwn p v1 v2)) := r8_meetsOwn (v8_meetsOwn_5 FU) (g8_meetsOwn_5 FU) (t8_meetsOwn_5 FU)
def CC126 (F : PM → Nat → Int32 → Int32 × PM) (G : PM → Nat → Int32 → Prop) : Cal := (126, [11, 13, 0], 1, false, fun as p => (zI (F p (ar as 1) (ai as 2)).1, (F p (ar as 1) (ai as 2)).2), fun as p => zsw (tc2 as [(108, 1), (14, 0), (0, 0)]) False (G p (ar as 1) (ai as 2)))
set_option maxRecDepth 100000 in
theorem okr126 (F : PM → Nat → Int32 → Int32 × PM) (G : PM → Nat → Int32 → Prop) (h : ∀ (p : PM) (v1 : Nat) (v2 : Int32), Gr 0 p → G p v1 v2 → ZJ 0 126 0 [zR 8 1, zR 10 v1, zI v2, zJ, zJ, zJ] [] p (hwI (F p v1 v2))) : CalOK 0 (CC126 F G) := cal_ok (m := 6) (by unfold mL; rw [mX_126]) (fun as p hg H => h p (ar as 1) (ai as 2) hg H)
theorem ok126 : CalOK 0 (CC126 v8_meetsOwn g8_meetsOwn) := okr126 v8_meetsOwn g8_meetsOwn t8_meetsOwn
noncomputable def bv8_giveTop (F377 : PM → Int32 → Int32 → Int32) (p : PM) (v1 : Int32) (v2 : Int32) (v3 : Int32) : Int32 × PM :=
  if 0 < v3 then (
    let p1 : PM := pI p 13 19 0 (F377 p (F377 p v2 v1) (p.1 10 (p.2.2 20 2 0) 11))
    ((p1.1 13 19 0), p1))
  else (
    ((cn 0), p))
noncomputable def v8_giveTop (p : PM) (v1 : Int32) (v2 : Int32) (v3 : Int32) : Int32 × PM := bv8_giveTop v14_min_7cf53 p v1 v2 v3
noncomputable def bg8_giveTop (F377 : PM → Int32 → Int32 → Int32) (G377 : PM → Int32 → Int32 → Prop) (p : PM) (v1 : Int32) (v2 : Int32) (v3 : Int32) : Prop :=
  if 0 < v3 then (
    (G377 p v2 v1) ∧ (
    (¬ (p.2.2 20 2 0) = 0) ∧ (
    (G377 p (F377 p v2 v1) (p.1 10 (p.2.2 20 2 0) 11)) ∧ (
    let p1 : PM := pI p 13 19 0 (F377 p (F377 p v2 v1) (p.1 10 (p.2.2 20 2 0) 11))
    True))))
  else (
    True)
noncomputable def g8_giveTop (p : PM) (v1 : Int32) (v2 : Int32) (v3 : Int32) : Prop := bg8_giveTop v14_min_7cf53 g14_min_7cf53 p v1 v2 v3
def R128 : List Row := [(0, .iload_n 3, 1, 0, (0, 0, 0, 0, 0, 0)), (1, .ifCond .le 19, 3, 0, (0, 0, 0, 0, 0, 0)), (4, .aload_n 0, 1, 0, (0, 0, 0, 0, 0, 0)), (5, .getfield 17, 3, 0, (8, 3, 16, 2, 19, 0)), (8, .arraylength, 1, 0, (13, 40, 0, 0, 0, 40)), (9, .ifCond .eq 11, 3, 0, (0, 0, 0, 0, 0, 0)), (12, .aload_n 0, 1, 0, (0, 0, 0, 0, 0, 0)), (13, .getfield 11, 3, 0, (8, 2, 23, 2, 2, 0)), (16, .arraylength, 1, 0, (20, 40, 0, 0, 0, 40)), (17, .ifCond .ne 5, 3, 0, (0, 0, 0, 0, 0, 0)), (20, .iconst 0, 1, 0, (0, 0, 0, 0, 0, 0)), (21, .ireturn, 1, 0, (0, 0, 0, 0, 0, 0)), (22, .aload_n 0, 1, 0, (0, 0, 0, 0, 0, 0)), (23, .getfield 17, 3, 0, (8, 3, 16, 2, 19, 0)), (26, .iconst 0, 1, 0, (0, 0, 0, 0, 0, 0)), (27, .iload_n 2, 1, 0, (0, 0, 0, 0, 0, 0)), (28, .iload_n 1, 1, 0, (0, 0, 0, 0, 0, 0)), (29, .invokestatic 128, 3, 0, (0, 2, 0, 0, 0, 0)), (32, .aload_n 0, 1, 0, (0, 0, 0, 0, 0, 0)), (33, .getfield 11, 3, 0, (8, 2, 23, 2, 2, 0)), (36, .iconst 0, 1, 0, (0, 0, 0, 0, 0, 0)), (37, .aaload, 1, 0, (20, 40, 0, 0, 0, 0)), (38, .getfield 122, 3, 0, (10, 11, 0, 0, 0, 0)), (41, .invokestatic 128, 3, 0, (0, 2, 0, 0, 0, 0)), (44, .iastore, 1, 0, (13, 40, 0, 0, 0, 0)), (45, .aload_n 0, 1, 0, (0, 0, 0, 0, 0, 0)), (46, .getfield 17, 3, 0, (8, 3, 16, 2, 19, 0)), (49, .iconst 0, 1, 0, (0, 0, 0, 0, 0, 0)), (50, .iaload, 1, 0, (13, 40, 0, 0, 0, 0)), (51, .ireturn, 1, 0, (0, 0, 0, 0, 0, 0))]
set_option maxRecDepth 100000 in
theorem rk128 : R128.all (rok 0 128 1 [(377, [0, 0])]) = true := by decide +kernel
set_option maxRecDepth 100000 in
theorem tab128 {F377 : PM → Int32 → Int32 → Int32} {G377 : PM → Int32 → Int32 → Prop} : TabOK 0 128 1 [CC377 F377 G377] R128 := tab_ok (K := K128) rfl rfl (fun h => d128 h) rk128 (by decide +kernel)
set_option maxRecDepth 100000 in
theorem pc128 : cutpc [] R128 = true := by decide +kernel
set_option maxRecDepth 100000 in
theorem r8_giveTop (F377 : PM → Int32 → Int32 → Int32) (G377 : PM → Int32 → Int32 → Prop) (o377 : CalOK 0 (CC377 F377 G377)) : ∀ (p : PM) (v1 : Int32) (v2 : Int32) (v3 : Int32), Gr 0 p → bg8_giveTop F377 G377 p v1 v2 v3 → ZJ 0 128 0 [zR 8 1, zI v1, zI v2, zI v3] [] p (hwI (bv8_giveTop F377 p v1 v2 v3)) := by
  intro p v1 v2 v3  hg H
  exact rwI (n := 3000) (q := 0) (la := [zR 8 1, zI v1, zI v2, zI v3]) (sa := []) (ks := []) (gs := []) (fcons o377 (fnil)) tab128 pc128 trivial hg H
theorem t8_giveTop : ∀ (p : PM) (v1 : Int32) (v2 : Int32) (v3 : Int32), Gr 0 p → g8_giveTop p v1 v2 v3 → ZJ 0 128 0 [zR 8 1, zI v1, zI v2, zI v3] [] p (hwI (v8_giveTop p v1 v2 v3)) := r8_giveTop v14_min_7cf53 g14_min_7cf53 ok377
def CC128 (F : PM → Int32 → Int32 → Int32 → Int32 × PM) (G : PM → Int32 → Int32 → Int32 → Prop) : Cal := (128, [11, 0, 0, 0], 1, false, fun as p => (zI (F p (ai as 1) (ai as 2) (ai as 3)).1, (F p (ai as 1) (ai as 2) (ai as 3)).2), fun as p => zsw (tc2 as [(108, 1), (0, 0), (0, 0), (0, 0)]) False (G p (ai as 1) (ai as 2) (ai as 3)))
set_option maxRecDepth 100000 in
theorem okr128 (F : PM → Int32 → Int32 → Int32 → Int32 × PM) (G : PM → Int32 → Int32 → Int32 → Prop) (h : ∀ (p : PM) (v1 : Int32) (v2 : Int32) (v3 : Int32), Gr 0 p → G p v1 v2 v3 → ZJ 0 128 0 [zR 8 1, zI v1, zI v2, zI v3] [] p (hwI (F p v1 v2 v3))) : CalOK 0 (CC128 F G) := cal_ok (m := 4) (by unfold mL; rw [mX_128]) (fun as p hg H => h p (ai as 1) (ai as 2) (ai as 3) hg H)
theorem ok128 : CalOK 0 (CC128 v8_giveTop g8_giveTop) := okr128 v8_giveTop g8_giveTop t8_giveTop
noncomputable def bv8_giveShares_170 (kv155 : PM → Int32 → Int32 → Int32 → PM) (kv170 : PM → Int32 → Int32 → Int32 → Int32 → PM) (p : PM) (v2 : Int32) (v5 : Int32) (v6 : Int32) (v7 : Int32) : PM :=
  if v7 < v2 then (
    if v7 < (cn 40) then (
      if v7 < (cn 40) then (
        if 0 < v5 then (
          if (p.1 13 19 (v7).toNatClampNeg) < (p.1 10 (p.2.2 20 2 (v7).toNatClampNeg) 11) then (
            let p1 : PM := pI p 13 19 (v7).toNatClampNeg ((p.1 13 19 (v7).toNatClampNeg) + (cn 1))
            kv170 p1 v2 (v5 + (cn (-1))) v6 (v7 + (cn 1)))
          else (
            kv170 p v2 v5 v6 (v7 + (cn 1))))
        else (
          kv170 p v2 v5 v6 (v7 + (cn 1))))
      else (
        kv155 p v2 v5 (v6 + (cn 1))))
    else (
      kv155 p v2 v5 (v6 + (cn 1))))
  else (
    kv155 p v2 v5 (v6 + (cn 1)))
noncomputable def v8_giveShares_170 (kv155 : PM → Int32 → Int32 → Int32 → PM) (n : Nat) : PM → Int32 → Int32 → Int32 → Int32 → PM := Nat.rec (motive := fun _ => PM → Int32 → Int32 → Int32 → Int32 → PM) (fun p _ _ _ _ => p) (fun _ ih => bv8_giveShares_170 kv155 ih) n
theorem ev8_giveShares_170 (kv155 : PM → Int32 → Int32 → Int32 → PM) (n : Nat) (p : PM) (v2 : Int32) (v5 : Int32) (v6 : Int32) (v7 : Int32) : v8_giveShares_170 kv155 (n + 1) p v2 v5 v6 v7 = bv8_giveShares_170 kv155 (v8_giveShares_170 kv155 n) p v2 v5 v6 v7 := rfl
noncomputable def bg8_giveShares_170 (kg155 : PM → Int32 → Int32 → Int32 → Prop) (kg170 : PM → Int32 → Int32 → Int32 → Int32 → Prop) (p : PM) (v2 : Int32) (v5 : Int32) (v6 : Int32) (v7 : Int32) : Prop :=
  if v7 < v2 then (
    if v7 < (cn 40) then (
      if v7 < (cn 40) then (
        if 0 < v5 then (
          (inb v7 40) ∧ (
          (inb v7 40) ∧ (
          (¬ (p.2.2 20 2 (v7).toNatClampNeg) = 0) ∧ (
          if (p.1 13 19 (v7).toNatClampNeg) < (p.1 10 (p.2.2 20 2 (v7).toNatClampNeg) 11) then (
            (inb v7 40) ∧ (
            (inb v7 40) ∧ (
            let p1 : PM := pI p 13 19 (v7).toNatClampNeg ((p.1 13 19 (v7).toNatClampNeg) + (cn 1))
            kg170 p1 v2 (v5 + (cn (-1))) v6 (v7 + (cn 1)))))
          else (
            kg170 p v2 v5 v6 (v7 + (cn 1)))))))
        else (
          kg170 p v2 v5 v6 (v7 + (cn 1))))
      else (
        kg155 p v2 v5 (v6 + (cn 1))))
    else (
      kg155 p v2 v5 (v6 + (cn 1))))
  else (
    kg155 p v2 v5 (v6 + (cn 1)))
noncomputable def g8_giveShares_170 (kg155 : PM → Int32 → Int32 → Int32 → Prop) (n : Nat) : PM → Int32 → Int32 → Int32 → Int32 → Prop := Nat.rec (motive := fun _ => PM → Int32 → Int32 → Int32 → Int32 → Prop) (fun _ _ _ _ _ => False) (fun _ ih => bg8_giveShares_170 kg155 ih) n
theorem eg8_giveShares_170 (kg155 : PM → Int32 → Int32 → Int32 → Prop) (n : Nat) (p : PM) (v2 : Int32) (v5 : Int32) (v6 : Int32) (v7 : Int32) : g8_giveShares_170 kg155 (n + 1) p v2 v5 v6 v7 = bg8_giveShares_170 kg155 (g8_giveShares_170 kg155 n) p v2 v5 v6 v7 := rfl
noncomputable def bv8_giveShares_155 (kv170 : PM → Int32 → Int32 → Int32 → Int32 → PM) (p : PM) (v2 : Int32) (v5 : Int32) (v6 : Int32) : PM :=
  if v6 < (cn 50) then (
    if 0 < v5 then (
      kv170 p v2 v5 v6 (cn 0))
    else (
      p))
  else (
    p)
noncomputable def v8_giveShares_155 (n : Nat) : PM → Int32 → Int32 → Int32 → PM := Nat.rec (motive := fun _ => PM → Int32 → Int32 → Int32 → PM) (fun p _ _ _ => p) (fun _ ih => bv8_giveShares_155 (v8_giveShares_170 ih FU)) n
theorem ev8_giveShares_155 (n : Nat) (p : PM) (v2 : Int32) (v5 : Int32) (v6 : Int32) : v8_giveShares_155 (n + 1) p v2 v5 v6 = bv8_giveShares_155 (v8_giveShares_170 (v8_giveShares_155 n) FU) p v2 v5 v6 := rfl
noncomputable def bg8_giveShares_155 (kg170 : PM → Int32 → Int32 → Int32 → Int32 → Prop) (p : PM) (v2 : Int32) (v5 : Int32) (v6 : Int32) : Prop :=
  if v6 < (cn 50) then (
    if 0 < v5 then (
      kg170 p v2 v5 v6 (cn 0))
    else (
      True))
  else (
    True)
noncomputable def g8_giveShares_155 (n : Nat) : PM → Int32 → Int32 → Int32 → Prop := Nat.rec (motive := fun _ => PM → Int32 → Int32 → Int32 → Prop) (fun _ _ _ _ => False) (fun _ ih => bg8_giveShares_155 (g8_giveShares_170 ih FU)) n
theorem eg8_giveShares_155 (n : Nat) (p : PM) (v2 : Int32) (v5 : Int32) (v6 : Int32) : g8_giveShares_155 (n + 1) p v2 v5 v6 = bg8_giveShares_155 (g8_giveShares_170 (g8_giveShares_155 n) FU) p v2 v5 v6 := rfl
noncomputable def bv8_giveShares_72 (kv72 : PM → Int32 → Int32 → Int32 → Int32 → Int32 → PM) (kv155 : PM → Int32 → Int32 → Int32 → PM) (p : PM) (v2 : Int32) (v3 : Int32) (v4 : Int32) (v5 : Int32) (v6 : Int32) : PM :=
  if v6 < v2 then (
    if v6 < (cn 40) then (
      if v6 < (cn 40) then (
        if 0 < v3 then (
          let x1 : Int32 := ((v4 * ((p.1 10 (p.2.2 20 2 (v6).toNatClampNeg) 11) - (p.1 13 19 (v6).toNatClampNeg))) / v3)
          let p2 : PM := pI p 13 19 (v6).toNatClampNeg ((p.1 13 19 (v6).toNatClampNeg) + x1)
          kv72 p2 v2 v3 v4 (v5 - x1) (v6 + (cn 1)))
        else (
          kv155 p v2 v5 (cn 0)))
      else (
        kv155 p v2 v5 (cn 0)))
    else (
      kv155 p v2 v5 (cn 0)))
  else (
    kv155 p v2 v5 (cn 0))
noncomputable def v8_giveShares_72 (n : Nat) : PM → Int32 → Int32 → Int32 → Int32 → Int32 → PM := Nat.rec (motive := fun _ => PM → Int32 → Int32 → Int32 → Int32 → Int32 → PM) (fun p _ _ _ _ _ => p) (fun _ ih => bv8_giveShares_72 ih (v8_giveShares_155 FU)) n
theorem ev8_giveShares_72 (n : Nat) (p : PM) (v2 : Int32) (v3 : Int32) (v4 : Int32) (v5 : Int32) (v6 : Int32) : v8_giveShares_72 (n + 1) p v2 v3 v4 v5 v6 = bv8_giveShares_72 (v8_giveShares_72 n) (v8_giveShares_155 FU) p v2 v3 v4 v5 v6 := rfl
noncomputable def bg8_giveShares_72 (kg72 : PM → Int32 → Int32 → Int32 → Int32 → Int32 → Prop) (kg155 : PM → Int32 → Int32 → Int32 → Prop) (p : PM) (v2 : Int32) (v3 : Int32) (v4 : Int32) (v5 : Int32) (v6 : Int32) : Prop :=
  if v6 < v2 then (
    if v6 < (cn 40) then (
      if v6 < (cn 40) then (
        if 0 < v3 then (
          (inb v6 40) ∧ (
          (¬ (p.2.2 20 2 (v6).toNatClampNeg) = 0) ∧ (
          (inb v6 40) ∧ (
          (¬ v3 = 0) ∧ (
          let x1 : Int32 := ((v4 * ((p.1 10 (p.2.2 20 2 (v6).toNatClampNeg) 11) - (p.1 13 19 (v6).toNatClampNeg))) / v3)
          (inb v6 40) ∧ (
          (inb v6 40) ∧ (
          let p2 : PM := pI p 13 19 (v6).toNatClampNeg ((p.1 13 19 (v6).toNatClampNeg) + x1)
          kg72 p2 v2 v3 v4 (v5 - x1) (v6 + (cn 1)))))))))
        else (
          kg155 p v2 v5 (cn 0)))
      else (
        kg155 p v2 v5 (cn 0)))
    else (
      kg155 p v2 v5 (cn 0)))
  else (
    kg155 p v2 v5 (cn 0))
noncomputable def g8_giveShares_72 (n : Nat) : PM → Int32 → Int32 → Int32 → Int32 → Int32 → Prop := Nat.rec (motive := fun _ => PM → Int32 → Int32 → Int32 → Int32 → Int32 → Prop) (fun _ _ _ _ _ _ => False) (fun _ ih => bg8_giveShares_72 ih (g8_giveShares_155 FU)) n
theorem eg8_giveShares_72 (n : Nat) (p : PM) (v2 : Int32) (v3 : Int32) (v4 : Int32) (v5 : Int32) (v6 : Int32) : g8_giveShares_72 (n + 1) p v2 v3 v4 v5 v6 = bg8_giveShares_72 (g8_giveShares_72 n) (g8_giveShares_155 FU) p v2 v3 v4 v5 v6 := rfl
noncomputable def bv8_giveShares_5 (F377 : PM → Int32 → Int32 → Int32) (kv5 : PM → Int32 → Int32 → Int32 → Int32 → PM) (kv72 : PM → Int32 → Int32 → Int32 → Int32 → Int32 → PM) (p : PM) (v1 : Int32) (v2 : Int32) (v3 : Int32) (v4 : Int32) : PM :=
  if v4 < v2 then (
    if v4 < (cn 40) then (
      if v4 < (cn 40) then (
        let x1 : Int32 := (v3 + ((p.1 10 (p.2.2 20 2 (v4).toNatClampNeg) 11) - (p.1 13 19 (v4).toNatClampNeg)))
        kv5 p v1 v2 x1 (v4 + (cn 1)))
      else (
        kv72 p v2 v3 (F377 p v1 v3) (F377 p v1 v3) (cn 0)))
    else (
      kv72 p v2 v3 (F377 p v1 v3) (F377 p v1 v3) (cn 0)))
  else (
    kv72 p v2 v3 (F377 p v1 v3) (F377 p v1 v3) (cn 0))
noncomputable def v8_giveShares_5 (n : Nat) : PM → Int32 → Int32 → Int32 → Int32 → PM := Nat.rec (motive := fun _ => PM → Int32 → Int32 → Int32 → Int32 → PM) (fun p _ _ _ _ => p) (fun _ ih => bv8_giveShares_5 v14_min_7cf53 ih (v8_giveShares_72 FU)) n
theorem ev8_giveShares_5 (n : Nat) (p : PM) (v1 : Int32) (v2 : Int32) (v3 : Int32) (v4 : Int32) : v8_giveShares_5 (n + 1) p v1 v2 v3 v4 = bv8_giveShares_5 v14_min_7cf53 (v8_giveShares_5 n) (v8_giveShares_72 FU) p v1 v2 v3 v4 := rfl
noncomputable def bg8_giveShares_5 (F377 : PM → Int32 → Int32 → Int32) (G377 : PM → Int32 → Int32 → Prop) (kg5 : PM → Int32 → Int32 → Int32 → Int32 → Prop) (kg72 : PM → Int32 → Int32 → Int32 → Int32 → Int32 → Prop) (p : PM) (v1 : Int32) (v2 : Int32) (v3 : Int32) (v4 : Int32) : Prop :=
  if v4 < v2 then (
    if v4 < (cn 40) then (
      if v4 < (cn 40) then (
        (inb v4 40) ∧ (
        (¬ (p.2.2 20 2 (v4).toNatClampNeg) = 0) ∧ (
        (inb v4 40) ∧ (
        let x1 : Int32 := (v3 + ((p.1 10 (p.2.2 20 2 (v4).toNatClampNeg) 11) - (p.1 13 19 (v4).toNatClampNeg)))
        kg5 p v1 v2 x1 (v4 + (cn 1))))))
      else (
        (G377 p v1 v3) ∧ (
        kg72 p v2 v3 (F377 p v1 v3) (F377 p v1 v3) (cn 0))))
    else (
      (G377 p v1 v3) ∧ (
      kg72 p v2 v3 (F377 p v1 v3) (F377 p v1 v3) (cn 0))))
  else (
    (G377 p v1 v3) ∧ (
    kg72 p v2 v3 (F377 p v1 v3) (F377 p v1 v3) (cn 0)))
noncomputable def g8_giveShares_5 (n : Nat) : PM → Int32 → Int32 → Int32 → Int32 → Prop := Nat.rec (motive := fun _ => PM → Int32 → Int32 → Int32 → Int32 → Prop) (fun _ _ _ _ _ => False) (fun _ ih => bg8_giveShares_5 v14_min_7cf53 g14_min_7cf53 ih (g8_giveShares_72 FU)) n
theorem eg8_giveShares_5 (n : Nat) (p : PM) (v1 : Int32) (v2 : Int32) (v3 : Int32) (v4 : Int32) : g8_giveShares_5 (n + 1) p v1 v2 v3 v4 = bg8_giveShares_5 v14_min_7cf53 g14_min_7cf53 (g8_giveShares_5 n) (g8_giveShares_72 FU) p v1 v2 v3 v4 := rfl
noncomputable def bv8_giveShares (kv5 : PM → Int32 → Int32 → Int32 → Int32 → PM) (p : PM) (v1 : Int32) (v2 : Int32) : PM :=
  kv5 p v1 v2 (cn 0) (cn 0)
noncomputable def v8_giveShares (p : PM) (v1 : Int32) (v2 : Int32) : PM := bv8_giveShares (v8_giveShares_5 FU) p v1 v2
noncomputable def bg8_giveShares (kg5 : PM → Int32 → Int32 → Int32 → Int32 → Prop) (p : PM) (v1 : Int32) (v2 : Int32) : Prop :=
  kg5 p v1 v2 (cn 0) (cn 0)
noncomputable def g8_giveShares (p : PM) (v1 : Int32) (v2 : Int32) : Prop := bg8_giveShares (g8_giveShares_5 FU) p v1 v2
def R129 : List Row := [(0, .iconst 0, 1, 0, (0, 0, 0, 0, 0, 0)), (1, .istore_n 3, 1, 0, (0, 0, 0, 0, 0, 0)), (2, .iconst 0, 1, 0, (0, 0, 0, 0, 0, 0)), (3, .istore 4, 2, 0, (0, 0, 0, 0, 0, 0)), (5, .iload 4, 2, 1, (0, 0, 0, 0, 0, 0)), (7, .iload_n 2, 1, 0, (0, 0, 0, 0, 0, 0)), (8, .if_icmp .ge 50, 3, 0, (0, 0, 0, 0, 0, 0)), (11, .iload 4, 2, 0, (0, 0, 0, 0, 0, 0)), (13, .aload_n 0, 1, 0, (0, 0, 0, 0, 0, 0)), (14, .getfield 17, 3, 0, (8, 3, 16, 2, 19, 0)), (17, .arraylength, 1, 0, (13, 40, 0, 0, 0, 40)), (18, .if_icmp .ge 40, 3, 0, (0, 0, 0, 0, 0, 0)), (21, .iload 4, 2, 0, (0, 0, 0, 0, 0, 0)), (23, .aload_n 0, 1, 0, (0, 0, 0, 0, 0, 0)), (24, .getfield 11, 3, 0, (8, 2, 23, 2, 2, 0)), (27, .arraylength, 1, 0, (20, 40, 0, 0, 0, 40)), (28, .if_icmp .ge 30, 3, 0, (0, 0, 0, 0, 0, 0)), (31, .iload_n 3, 1, 0, (0, 0, 0, 0, 0, 0)), (32, .aload_n 0, 1, 0, (0, 0, 0, 0, 0, 0)), (33, .getfield 11, 3, 0, (8, 2, 23, 2, 2, 0)), (36, .iload 4, 2, 0, (0, 0, 0, 0, 0, 0)), (38, .aaload, 1, 0, (20, 40, 0, 0, 0, 0)), (39, .getfield 122, 3, 0, (10, 11, 0, 0, 0, 0)), (42, .aload_n 0, 1, 0, (0, 0, 0, 0, 0, 0)), (43, .getfield 17, 3, 0, (8, 3, 16, 2, 19, 0)), (46, .iload 4, 2, 0, (0, 0, 0, 0, 0, 0)), (48, .iaload, 1, 0, (13, 40, 0, 0, 0, 0)), (49, .isub, 1, 0, (0, 0, 0, 0, 0, 0)), (50, .iadd, 1, 0, (0, 0, 0, 0, 0, 0)), (51, .istore_n 3, 1, 0, (0, 0, 0, 0, 0, 0)), (52, .iinc 4 1, 3, 0, (0, 0, 0, 0, 0, 1)), (55, .goto (-50), 3, 0, (0, 0, 0, 0, 0, 0)), (58, .iload_n 1, 1, 0, (0, 0, 0, 0, 0, 0)), (59, .iload_n 3, 1, 0, (0, 0, 0, 0, 0, 0)), (60, .invokestatic 128, 3, 0, (0, 2, 0, 0, 0, 0)), (63, .istore 4, 2, 0, (0, 0, 0, 0, 0, 0)), (65, .iload 4, 2, 0, (0, 0, 0, 0, 0, 0)), (67, .istore 5, 2, 0, (0, 0, 0, 0, 0, 0)), (69, .iconst 0, 1, 0, (0, 0, 0, 0, 0, 0)), (70, .istore 6, 2, 0, (0, 0, 0, 0, 0, 0)), (72, .iload 6, 2, 2, (0, 0, 0, 0, 0, 0)), (74, .iload_n 2, 1, 0, (0, 0, 0, 0, 0, 0)), (75, .if_icmp .ge 77, 3, 0, (0, 0, 0, 0, 0, 0)), (78, .iload 6, 2, 0, (0, 0, 0, 0, 0, 0)), (80, .aload_n 0, 1, 0, (0, 0, 0, 0, 0, 0)), (81, .getfield 17, 3, 0, (8, 3, 16, 2, 19, 0)), (84, .arraylength, 1, 0, (13, 40, 0, 0, 0, 40)), (85, .if_icmp .ge 67, 3, 0, (0, 0, 0, 0, 0, 0)), (88, .iload 6, 2, 0, (0, 0, 0, 0, 0, 0)), (90, .aload_n 0, 1, 0, (0, 0, 0, 0, 0, 0)), (91, .getfield 11, 3, 0, (8, 2, 23, 2, 2, 0)), (94, .arraylength, 1, 0, (20, 40, 0, 0, 0, 40)), (95, .if_icmp .ge 57, 3, 0, (0, 0, 0, 0, 0, 0)), (98, .iload_n 3, 1, 0, (0, 0, 0, 0, 0, 0)), (99, .ifCond .le 53, 3, 0, (0, 0, 0, 0, 0, 0)), (102, .iload 4, 2, 0, (0, 0, 0, 0, 0, 0)), (104, .aload_n 0, 1, 0, (0, 0, 0, 0, 0, 0)), (105, .getfield 11, 3, 0, (8, 2, 23, 2, 2, 0)), (108, .iload 6, 2, 0, (0, 0, 0, 0, 0, 0)), (110, .aaload, 1, 0, (20, 40, 0, 0, 0, 0)), (111, .getfield 122, 3, 0, (10, 11, 0, 0, 0, 0)), (114, .aload_n 0, 1, 0, (0, 0, 0, 0, 0, 0)), (115, .getfield 17, 3, 0, (8, 3, 16, 2, 19, 0)), (118, .iload 6, 2, 0, (0, 0, 0, 0, 0, 0)), (120, .iaload, 1, 0, (13, 40, 0, 0, 0, 0)), (121, .isub, 1, 0, (0, 0, 0, 0, 0, 0)), (122, .imul, 1, 0, (0, 0, 0, 0, 0, 0)), (123, .iload_n 3, 1, 0, (0, 0, 0, 0, 0, 0)), (124, .idiv, 1, 0, (0, 0, 0, 0, 0, 0)), (125, .istore 7, 2, 0, (0, 0, 0, 0, 0, 0)), (127, .aload_n 0, 1, 0, (0, 0, 0, 0, 0, 0)), (128, .getfield 17, 3, 0, (8, 3, 16, 2, 19, 0)), (131, .iload 6, 2, 0, (0, 0, 0, 0, 0, 0)), (133, .dup2, 1, 0, (0, 0, 0, 0, 0, 0)), (134, .iaload, 1, 0, (13, 40, 0, 0, 0, 0)), (135, .iload 7, 2, 0, (0, 0, 0, 0, 0, 0)), (137, .iadd, 1, 0, (0, 0, 0, 0, 0, 0)), (138, .iastore, 1, 0, (13, 40, 0, 0, 0, 0)), (139, .iload 5, 2, 0, (0, 0, 0, 0, 0, 0)), (141, .iload 7, 2, 0, (0, 0, 0, 0, 0, 0)), (143, .isub, 1, 0, (0, 0, 0, 0, 0, 0)), (144, .istore 5, 2, 0, (0, 0, 0, 0, 0, 0)), (146, .iinc 6 1, 3, 0, (0, 0, 0, 0, 0, 1)), (149, .goto (-77), 3, 0, (0, 0, 0, 0, 0, 0)), (152, .iconst 0, 1, 0, (0, 0, 0, 0, 0, 0)), (153, .istore 6, 2, 0, (0, 0, 0, 0, 0, 0)), (155, .iload 6, 2, 3, (0, 0, 0, 0, 0, 0)), (157, .bipush 50, 2, 0, (0, 0, 0, 0, 0, 50)), (159, .if_icmp .ge 88, 3, 0, (0, 0, 0, 0, 0, 0)), (162, .iload 5, 2, 0, (0, 0, 0, 0, 0, 0)), (164, .ifCond .le 83, 3, 0, (0, 0, 0, 0, 0, 0)), (167, .iconst 0, 1, 0, (0, 0, 0, 0, 0, 0)), (168, .istore 7, 2, 0, (0, 0, 0, 0, 0, 0)), (170, .iload 7, 2, 4, (0, 0, 0, 0, 0, 0)), (172, .iload_n 2, 1, 0, (0, 0, 0, 0, 0, 0)), (173, .if_icmp .ge 68, 3, 0, (0, 0, 0, 0, 0, 0)), (176, .iload 7, 2, 0, (0, 0, 0, 0, 0, 0)), (178, .aload_n 0, 1, 0, (0, 0, 0, 0, 0, 0)), (179, .getfield 17, 3, 0, (8, 3, 16, 2, 19, 0)), (182, .arraylength, 1, 0, (13, 40, 0, 0, 0, 40)), (183, .if_icmp .ge 58, 3, 0, (0, 0, 0, 0, 0, 0)), (186, .iload 7, 2, 0, (0, 0, 0, 0, 0, 0)), (188, .aload_n 0, 1, 0, (0, 0, 0, 0, 0, 0)), (189, .getfield 11, 3, 0, (8, 2, 23, 2, 2, 0)), (192, .arraylength, 1, 0, (20, 40, 0, 0, 0, 40)), (193, .if_icmp .ge 48, 3, 0, (0, 0, 0, 0, 0, 0)), (196, .iload 5, 2, 0, (0, 0, 0, 0, 0, 0)), (198, .ifCond .le 37, 3, 0, (0, 0, 0, 0, 0, 0)), (201, .aload_n 0, 1, 0, (0, 0, 0, 0, 0, 0)), (202, .getfield 17, 3, 0, (8, 3, 16, 2, 19, 0)), (205, .iload 7, 2, 0, (0, 0, 0, 0, 0, 0)), (207, .iaload, 1, 0, (13, 40, 0, 0, 0, 0)), (208, .aload_n 0, 1, 0, (0, 0, 0, 0, 0, 0)), (209, .getfield 11, 3, 0, (8, 2, 23, 2, 2, 0)), (212, .iload 7, 2, 0, (0, 0, 0, 0, 0, 0)), (214, .aaload, 1, 0, (20, 40, 0, 0, 0, 0)), (215, .getfield 122, 3, 0, (10, 11, 0, 0, 0, 0)), (218, .if_icmp .ge 17, 3, 0, (0, 0, 0, 0, 0, 0)), (221, .aload_n 0, 1, 0, (0, 0, 0, 0, 0, 0)), (222, .getfield 17, 3, 0, (8, 3, 16, 2, 19, 0)), (225, .iload 7, 2, 0, (0, 0, 0, 0, 0, 0)), (227, .dup2, 1, 0, (0, 0, 0, 0, 0, 0)), (228, .iaload, 1, 0, (13, 40, 0, 0, 0, 0)), (229, .iconst 1, 1, 0, (0, 0, 0, 0, 0, 1)), (230, .iadd, 1, 0, (0, 0, 0, 0, 0, 0)), (231, .iastore, 1, 0, (13, 40, 0, 0, 0, 0)), (232, .iinc 5 (-1), 3, 0, (0, 0, 0, 0, 0, -1)), (235, .iinc 7 1, 3, 0, (0, 0, 0, 0, 0, 1)), (238, .goto (-68), 3, 0, (0, 0, 0, 0, 0, 0)), (241, .iinc 6 1, 3, 0, (0, 0, 0, 0, 0, 1)), (244, .goto (-89), 3, 0, (0, 0, 0, 0, 0, 0)), (247, .return_, 1, 0, (0, 0, 0, 0, 0, 0))]
set_option maxRecDepth 100000 in
theorem rk129 : R129.all (rok 0 129 0 [(377, [0, 0])]) = true := by decide +kernel
set_option maxRecDepth 100000 in
theorem tab129 {F377 : PM → Int32 → Int32 → Int32} {G377 : PM → Int32 → Int32 → Prop} : TabOK 0 129 0 [CC377 F377 G377] R129 := tab_ok (K := K129) rfl rfl (fun h => d129 h) rk129 (by decide +kernel)
set_option maxRecDepth 100000 in
theorem pc129 : cutpc [5, 72, 155, 170] R129 = true := by decide +kernel
set_option maxRecDepth 100000 in
theorem r8_giveShares_170 (F377 : PM → Int32 → Int32 → Int32) (G377 : PM → Int32 → Int32 → Prop) (o377 : CalOK 0 (CC377 F377 G377)) (kv155 : PM → Int32 → Int32 → Int32 → PM) (kg155 : PM → Int32 → Int32 → Int32 → Prop) (hk155 : ∀ (p : PM) (v2 : Int32) (v5 : Int32) (v6 : Int32) (d1 d3 d4 d7 : ZV), Gr 0 p → kg155 p v2 v5 v6 → ZJ 0 129 155 [zR 8 1, d1, zI v2, d3, d4, zI v5, zI v6, d7] [] p (hwV (kv155 p v2 v5 v6))) (kv170 : PM → Int32 → Int32 → Int32 → Int32 → PM) (kg170 : PM → Int32 → Int32 → Int32 → Int32 → Prop) (hk170 : ∀ (p : PM) (v2 : Int32) (v5 : Int32) (v6 : Int32) (v7 : Int32) (d1 d3 d4 : ZV), Gr 0 p → kg170 p v2 v5 v6 v7 → ZJ 0 129 170 [zR 8 1, d1, zI v2, d3, d4, zI v5, zI v6, zI v7] [] p (hwV (kv170 p v2 v5 v6 v7))) : ∀ (p : PM) (v2 : Int32) (v5 : Int32) (v6 : Int32) (v7 : Int32) (d1 d3 d4 : ZV), Gr 0 p → bg8_giveShares_170 kg155 kg170 p v2 v5 v6 v7 → ZJ 0 129 170 [zR 8 1, d1, zI v2, d3, d4, zI v5, zI v6, zI v7] [] p (hwV (bv8_giveShares_170 kv155 kv170 p v2 v5 v6 v7)) := by
  intro p v2 v5 v6 v7 d1 d3 d4 hg H
  exact rwV (n := 3000) (q := 170) (la := [zR 8 1, d1, zI v2, d3, d4, zI v5, zI v6, zI v7]) (sa := []) (ks := [fun _ _ s => s, fun _ _ s => s, fun la sa s => kv155 s (ai la 2) (ai la 5) (ai la 6), fun la sa s => kv170 s (ai la 2) (ai la 5) (ai la 6) (ai la 7)]) (gs := [fun _ _ _ => False, fun _ _ _ => False, fun la sa s => zsw (tc2 la [(108, 1), (2, 0), (0, 0), (2, 0), (2, 0), (0, 0), (0, 0), (2, 0)] && tc2 sa []) False (kg155 s (ai la 2) (ai la 5) (ai la 6)), fun la sa s => zsw (tc2 la [(108, 1), (2, 0), (0, 0), (2, 0), (2, 0), (0, 0), (0, 0), (0, 0)] && tc2 sa []) False (kg170 s (ai la 2) (ai la 5) (ai la 6) (ai la 7))]) (fcons o377 (fnil)) tab129 pc129 ⟨fun _ _ _ _ H => H.elim, fun _ _ _ _ H => H.elim, fun la sa s hg H => zcut H fun H => hk155 s (ai la 2) (ai la 5) (ai la 6) (zld la 1) (zld la 3) (zld la 4) (zld la 7) hg H, fun la sa s hg H => zcut H fun H => hk170 s (ai la 2) (ai la 5) (ai la 6) (ai la 7) (zld la 1) (zld la 3) (zld la 4) hg H, trivial⟩ hg H
theorem t8_giveShares_170 (kv155 : PM → Int32 → Int32 → Int32 → PM) (kg155 : PM → Int32 → Int32 → Int32 → Prop) (hk155 : ∀ (p : PM) (v2 : Int32) (v5 : Int32) (v6 : Int32) (d1 d3 d4 d7 : ZV), Gr 0 p → kg155 p v2 v5 v6 → ZJ 0 129 155 [zR 8 1, d1, zI v2, d3, d4, zI v5, zI v6, d7] [] p (hwV (kv155 p v2 v5 v6))) : ∀ (n : Nat), ∀ (p : PM) (v2 : Int32) (v5 : Int32) (v6 : Int32) (v7 : Int32) (d1 d3 d4 : ZV), Gr 0 p → g8_giveShares_170 kg155 n p v2 v5 v6 v7 → ZJ 0 129 170 [zR 8 1, d1, zI v2, d3, d4, zI v5, zI v6, zI v7] [] p (hwV (v8_giveShares_170 kv155 n p v2 v5 v6 v7)) := by
  intro n
  induction n with
  | zero =>
    intro p v2 v5 v6 v7 d1 d3 d4 hg H
    exact H.elim
  | succ n ih => exact r8_giveShares_170 v14_min_7cf53 g14_min_7cf53 ok377 kv155 kg155 hk155 (v8_giveShares_170 kv155 n) (g8_giveShares_170 kg155 n) ih
set_option maxRecDepth 100000 in
theorem r8_giveShares_155 (F377 : PM → Int32 → Int32 → Int32) (G377 : PM → Int32 → Int32 → Prop) (o377 : CalOK 0 (CC377 F377 G377)) (kv170 : PM → Int32 → Int32 → Int32 → Int32 → PM) (kg170 : PM → Int32 → Int32 → Int32 → Int32 → Prop) (hk170 : ∀ (p : PM) (v2 : Int32) (v5 : Int32) (v6 : Int32) (v7 : Int32) (d1 d3 d4 : ZV), Gr 0 p → kg170 p v2 v5 v6 v7 → ZJ 0 129 170 [zR 8 1, d1, zI v2, d3, d4, zI v5, zI v6, zI v7] [] p (hwV (kv170 p v2 v5 v6 v7))) : ∀ (p : PM) (v2 : Int32) (v5 : Int32) (v6 : Int32) (d1 d3 d4 d7 : ZV), Gr 0 p → bg8_giveShares_155 kg170 p v2 v5 v6 → ZJ 0 129 155 [zR 8 1, d1, zI v2, d3, d4, zI v5, zI v6, d7] [] p (hwV (bv8_giveShares_155 kv170 p v2 v5 v6)) := by
  intro p v2 v5 v6 d1 d3 d4 d7 hg H
  exact rwV (n := 3000) (q := 155) (la := [zR 8 1, d1, zI v2, d3, d4, zI v5, zI v6, d7]) (sa := []) (ks := [fun _ _ s => s, fun _ _ s => s, fun _ _ s => s, fun la sa s => kv170 s (ai la 2) (ai la 5) (ai la 6) (ai la 7)]) (gs := [fun _ _ _ => False, fun _ _ _ => False, fun _ _ _ => False, fun la sa s => zsw (tc2 la [(108, 1), (2, 0), (0, 0), (2, 0), (2, 0), (0, 0), (0, 0), (0, 0)] && tc2 sa []) False (kg170 s (ai la 2) (ai la 5) (ai la 6) (ai la 7))]) (fcons o377 (fnil)) tab129 pc129 ⟨fun _ _ _ _ H => H.elim, fun _ _ _ _ H => H.elim, fun _ _ _ _ H => H.elim, fun la sa s hg H => zcut H fun H => hk170 s (ai la 2) (ai la 5) (ai la 6) (ai la 7) (zld la 1) (zld la 3) (zld la 4) hg H, trivial⟩ hg H
theorem t8_giveShares_155 : ∀ (n : Nat), ∀ (p : PM) (v2 : Int32) (v5 : Int32) (v6 : Int32) (d1 d3 d4 d7 : ZV), Gr 0 p → g8_giveShares_155 n p v2 v5 v6 → ZJ 0 129 155 [zR 8 1, d1, zI v2, d3, d4, zI v5, zI v6, d7] [] p (hwV (v8_giveShares_155 n p v2 v5 v6)) := by
  intro n
  induction n with
  | zero =>
    intro p v2 v5 v6 d1 d3 d4 d7 hg H
    exact H.elim
  | succ n ih => exact r8_giveShares_155 v14_min_7cf53 g14_min_7cf53 ok377 (v8_giveShares_170 (v8_giveShares_155 n) FU) (g8_giveShares_170 (g8_giveShares_155 n) FU) (t8_giveShares_170 (v8_giveShares_155 n) (g8_giveShares_155 n) ih FU)
set_option maxRecDepth 100000 in
theorem r8_giveShares_72 (F377 : PM → Int32 → Int32 → Int32) (G377 : PM → Int32 → Int32 → Prop) (o377 : CalOK 0 (CC377 F377 G377)) (kv72 : PM → Int32 → Int32 → Int32 → Int32 → Int32 → PM) (kg72 : PM → Int32 → Int32 → Int32 → Int32 → Int32 → Prop) (hk72 : ∀ (p : PM) (v2 : Int32) (v3 : Int32) (v4 : Int32) (v5 : Int32) (v6 : Int32) (d1 d7 : ZV), Gr 0 p → kg72 p v2 v3 v4 v5 v6 → ZJ 0 129 72 [zR 8 1, d1, zI v2, zI v3, zI v4, zI v5, zI v6, d7] [] p (hwV (kv72 p v2 v3 v4 v5 v6))) (kv155 : PM → Int32 → Int32 → Int32 → PM) (kg155 : PM → Int32 → Int32 → Int32 → Prop) (hk155 : ∀ (p : PM) (v2 : Int32) (v5 : Int32) (v6 : Int32) (d1 d3 d4 d7 : ZV), Gr 0 p → kg155 p v2 v5 v6 → ZJ 0 129 155 [zR 8 1, d1, zI v2, d3, d4, zI v5, zI v6, d7] [] p (hwV (kv155 p v2 v5 v6))) : ∀ (p : PM) (v2 : Int32) (v3 : Int32) (v4 : Int32) (v5 : Int32) (v6 : Int32) (d1 d7 : ZV), Gr 0 p → bg8_giveShares_72 kg72 kg155 p v2 v3 v4 v5 v6 → ZJ 0 129 72 [zR 8 1, d1, zI v2, zI v3, zI v4, zI v5, zI v6, d7] [] p (hwV (bv8_giveShares_72 kv72 kv155 p v2 v3 v4 v5 v6)) := by
  intro p v2 v3 v4 v5 v6 d1 d7 hg H
  exact rwV (n := 3000) (q := 72) (la := [zR 8 1, d1, zI v2, zI v3, zI v4, zI v5, zI v6, d7]) (sa := []) (ks := [fun _ _ s => s, fun la sa s => kv72 s (ai la 2) (ai la 3) (ai la 4) (ai la 5) (ai la 6), fun la sa s => kv155 s (ai la 2) (ai la 5) (ai la 6), fun _ _ s => s]) (gs := [fun _ _ _ => False, fun la sa s => zsw (tc2 la [(108, 1), (2, 0), (0, 0), (0, 0), (0, 0), (0, 0), (0, 0), (2, 0)] && tc2 sa []) False (kg72 s (ai la 2) (ai la 3) (ai la 4) (ai la 5) (ai la 6)), fun la sa s => zsw (tc2 la [(108, 1), (2, 0), (0, 0), (2, 0), (2, 0), (0, 0), (0, 0), (2, 0)] && tc2 sa []) False (kg155 s (ai la 2) (ai la 5) (ai la 6)), fun _ _ _ => False]) (fcons o377 (fnil)) tab129 pc129 ⟨fun _ _ _ _ H => H.elim, fun la sa s hg H => zcut H fun H => hk72 s (ai la 2) (ai la 3) (ai la 4) (ai la 5) (ai la 6) (zld la 1) (zld la 7) hg H, fun la sa s hg H => zcut H fun H => hk155 s (ai la 2) (ai la 5) (ai la 6) (zld la 1) (zld la 3) (zld la 4) (zld la 7) hg H, fun _ _ _ _ H => H.elim, trivial⟩ hg H
theorem t8_giveShares_72 : ∀ (n : Nat), ∀ (p : PM) (v2 : Int32) (v3 : Int32) (v4 : Int32) (v5 : Int32) (v6 : Int32) (d1 d7 : ZV), Gr 0 p → g8_giveShares_72 n p v2 v3 v4 v5 v6 → ZJ 0 129 72 [zR 8 1, d1, zI v2, zI v3, zI v4, zI v5, zI v6, d7] [] p (hwV (v8_giveShares_72 n p v2 v3 v4 v5 v6)) := by
  intro n
  induction n with
  | zero =>
    intro p v2 v3 v4 v5 v6 d1 d7 hg H
    exact H.elim
  | succ n ih => exact r8_giveShares_72 v14_min_7cf53 g14_min_7cf53 ok377 (v8_giveShares_72 n) (g8_giveShares_72 n) ih (v8_giveShares_155 FU) (g8_giveShares_155 FU) (t8_giveShares_155 FU)
set_option maxRecDepth 100000 in
theorem r8_giveShares_5 (F377 : PM → Int32 → Int32 → Int32) (G377 : PM → Int32 → Int32 → Prop) (o377 : CalOK 0 (CC377 F377 G377)) (kv5 : PM → Int32 → Int32 → Int32 → Int32 → PM) (kg5 : PM → Int32 → Int32 → Int32 → Int32 → Prop) (hk5 : ∀ (p : PM) (v1 : Int32) (v2 : Int32) (v3 : Int32) (v4 : Int32) (d5 d6 d7 : ZV), Gr 0 p → kg5 p v1 v2 v3 v4 → ZJ 0 129 5 [zR 8 1, zI v1, zI v2, zI v3, zI v4, d5, d6, d7] [] p (hwV (kv5 p v1 v2 v3 v4))) (kv72 : PM → Int32 → Int32 → Int32 → Int32 → Int32 → PM) (kg72 : PM → Int32 → Int32 → Int32 → Int32 → Int32 → Prop) (hk72 : ∀ (p : PM) (v2 : Int32) (v3 : Int32) (v4 : Int32) (v5 : Int32) (v6 : Int32) (d1 d7 : ZV), Gr 0 p → kg72 p v2 v3 v4 v5 v6 → ZJ 0 129 72 [zR 8 1, d1, zI v2, zI v3, zI v4, zI v5, zI v6, d7] [] p (hwV (kv72 p v2 v3 v4 v5 v6))) : ∀ (p : PM) (v1 : Int32) (v2 : Int32) (v3 : Int32) (v4 : Int32) (d5 d6 d7 : ZV), Gr 0 p → bg8_giveShares_5 F377 G377 kg5 kg72 p v1 v2 v3 v4 → ZJ 0 129 5 [zR 8 1, zI v1, zI v2, zI v3, zI v4, d5, d6, d7] [] p (hwV (bv8_giveShares_5 F377 kv5 kv72 p v1 v2 v3 v4)) := by
  intro p v1 v2 v3 v4 d5 d6 d7 hg H
  exact rwV (n := 3000) (q := 5) (la := [zR 8 1, zI v1, zI v2, zI v3, zI v4, d5, d6, d7]) (sa := []) (ks := [fun la sa s => kv5 s (ai la 1) (ai la 2) (ai la 3) (ai la 4), fun la sa s => kv72 s (ai la 2) (ai la 3) (ai la 4) (ai la 5) (ai la 6), fun _ _ s => s, fun _ _ s => s]) (gs := [fun la sa s => zsw (tc2 la [(108, 1), (0, 0), (0, 0), (0, 0), (0, 0), (2, 0), (2, 0), (2, 0)] && tc2 sa []) False (kg5 s (ai la 1) (ai la 2) (ai la 3) (ai la 4)), fun la sa s => zsw (tc2 la [(108, 1), (2, 0), (0, 0), (0, 0), (0, 0), (0, 0), (0, 0), (2, 0)] && tc2 sa []) False (kg72 s (ai la 2) (ai la 3) (ai la 4) (ai la 5) (ai la 6)), fun _ _ _ => False, fun _ _ _ => False]) (fcons o377 (fnil)) tab129 pc129 ⟨fun la sa s hg H => zcut H fun H => hk5 s (ai la 1) (ai la 2) (ai la 3) (ai la 4) (zld la 5) (zld la 6) (zld la 7) hg H, fun la sa s hg H => zcut H fun H => hk72 s (ai la 2) (ai la 3) (ai la 4) (ai la 5) (ai la 6) (zld la 1) (zld la 7) hg H, fun _ _ _ _ H => H.elim, fun _ _ _ _ H => H.elim, trivial⟩ hg H
theorem t8_giveShares_5 : ∀ (n : Nat), ∀ (p : PM) (v1 : Int32) (v2 : Int32) (v3 : Int32) (v4 : Int32) (d5 d6 d7 : ZV), Gr 0 p → g8_giveShares_5 n p v1 v2 v3 v4 → ZJ 0 129 5 [zR 8 1, zI v1, zI v2, zI v3, zI v4, d5, d6, d7] [] p (hwV (v8_giveShares_5 n p v1 v2 v3 v4)) := by
  intro n
  induction n with
  | zero =>
    intro p v1 v2 v3 v4 d5 d6 d7 hg H
    exact H.elim
  | succ n ih => exact r8_giveShares_5 v14_min_7cf53 g14_min_7cf53 ok377 (v8_giveShares_5 n) (g8_giveShares_5 n) ih (v8_giveShares_72 FU) (g8_giveShares_72 FU) (t8_giveShares_72 FU)
set_option maxRecDepth 100000 in
theorem r8_giveShares (F377 : PM → Int32 → Int32 → Int32) (G377 : PM → Int32 → Int32 → Prop) (o377 : CalOK 0 (CC377 F377 G377)) (kv5 : PM → Int32 → Int32 → Int32 → Int32 → PM) (kg5 : PM → Int32 → Int32 → Int32 → Int32 → Prop) (hk5 : ∀ (p : PM) (v1 : Int32) (v2 : Int32) (v3 : Int32) (v4 : Int32) (d5 d6 d7 : ZV), Gr 0 p → kg5 p v1 v2 v3 v4 → ZJ 0 129 5 [zR 8 1, zI v1, zI v2, zI v3, zI v4, d5, d6, d7] [] p (hwV (kv5 p v1 v2 v3 v4))) : ∀ (p : PM) (v1 : Int32) (v2 : Int32), Gr 0 p → bg8_giveShares kg5 p v1 v2 → ZJ 0 129 0 [zR 8 1, zI v1, zI v2, zJ, zJ, zJ, zJ, zJ] [] p (hwV (bv8_giveShares kv5 p v1 v2)) := by
  intro p v1 v2  hg H
  exact rwV (n := 3000) (q := 0) (la := [zR 8 1, zI v1, zI v2, zJ, zJ, zJ, zJ, zJ]) (sa := []) (ks := [fun la sa s => kv5 s (ai la 1) (ai la 2) (ai la 3) (ai la 4), fun _ _ s => s, fun _ _ s => s, fun _ _ s => s]) (gs := [fun la sa s => zsw (tc2 la [(108, 1), (0, 0), (0, 0), (0, 0), (0, 0), (2, 0), (2, 0), (2, 0)] && tc2 sa []) False (kg5 s (ai la 1) (ai la 2) (ai la 3) (ai la 4)), fun _ _ _ => False, fun _ _ _ => False, fun _ _ _ => False]) (fcons o377 (fnil)) tab129 pc129 ⟨fun la sa s hg H => zcut H fun H => hk5 s (ai la 1) (ai la 2) (ai la 3) (ai la 4) (zld la 5) (zld la 6) (zld la 7) hg H, fun _ _ _ _ H => H.elim, fun _ _ _ _ H => H.elim, fun _ _ _ _ H => H.elim, trivial⟩ hg H
theorem t8_giveShares : ∀ (p : PM) (v1 : Int32) (v2 : Int32), Gr 0 p → g8_giveShares p v1 v2 → ZJ 0 129 0 [zR 8 1, zI v1, zI v2, zJ, zJ, zJ, zJ, zJ] [] p (hwV (v8_giveShares p v1 v2)) := r8_giveShares v14_min_7cf53 g14_min_7cf53 ok377 (v8_giveShares_5 FU) (g8_giveShares_5 FU) (t8_giveShares_5 FU)
def CC129 (F : PM → Int32 → Int32 → PM) (G : PM → Int32 → Int32 → Prop) : Cal := (129, [11, 0, 0], 0, false, fun as p => (zJ, (F p (ai as 1) (ai as 2))), fun as p => zsw (tc2 as [(108, 1), (0, 0), (0, 0)]) False (G p (ai as 1) (ai as 2)))
set_option maxRecDepth 100000 in
theorem okr129 (F : PM → Int32 → Int32 → PM) (G : PM → Int32 → Int32 → Prop) (h : ∀ (p : PM) (v1 : Int32) (v2 : Int32), Gr 0 p → G p v1 v2 → ZJ 0 129 0 [zR 8 1, zI v1, zI v2, zJ, zJ, zJ, zJ, zJ] [] p (hwV (F p v1 v2))) : CalOK 0 (CC129 F G) := cal_ok (m := 8) (by unfold mL; rw [mX_129]) (fun as p hg H => h p (ai as 1) (ai as 2) hg H)
theorem ok129 : CalOK 0 (CC129 v8_giveShares g8_giveShares) := okr129 v8_giveShares g8_giveShares t8_giveShares
noncomputable def bv8_share_82 (F377 : PM → Int32 → Int32 → Int32) (kv82 : PM → Int32 → Int32 → Int32 → PM) (p : PM) (v4 : Int32) (v5 : Int32) (v6 : Int32) : PM :=
  if v6 < v4 then (
    let p1 : PM := pI p 13 19 (v6).toNatClampNeg (F377 p v5 (p.1 10 (p.2.2 20 2 (v6).toNatClampNeg) 11))
    let x2 : Int32 := (v5 - (p1.1 13 19 (v6).toNatClampNeg))
    kv82 p1 v4 x2 (v6 + (cn 1)))
  else (
    p)
noncomputable def v8_share_82 (n : Nat) : PM → Int32 → Int32 → Int32 → PM := Nat.rec (motive := fun _ => PM → Int32 → Int32 → Int32 → PM) (fun p _ _ _ => p) (fun _ ih => bv8_share_82 v14_min_7cf53 ih) n
theorem ev8_share_82 (n : Nat) (p : PM) (v4 : Int32) (v5 : Int32) (v6 : Int32) : v8_share_82 (n + 1) p v4 v5 v6 = bv8_share_82 v14_min_7cf53 (v8_share_82 n) p v4 v5 v6 := rfl
noncomputable def bg8_share_82 (F377 : PM → Int32 → Int32 → Int32) (G377 : PM → Int32 → Int32 → Prop) (kg82 : PM → Int32 → Int32 → Int32 → Prop) (p : PM) (v4 : Int32) (v5 : Int32) (v6 : Int32) : Prop :=
  if v6 < v4 then (
    (inb v6 40) ∧ (
    (¬ (p.2.2 20 2 (v6).toNatClampNeg) = 0) ∧ (
    (G377 p v5 (p.1 10 (p.2.2 20 2 (v6).toNatClampNeg) 11)) ∧ (
    (inb v6 40) ∧ (
    let p1 : PM := pI p 13 19 (v6).toNatClampNeg (F377 p v5 (p.1 10 (p.2.2 20 2 (v6).toNatClampNeg) 11))
    (inb v6 40) ∧ (
    let x2 : Int32 := (v5 - (p1.1 13 19 (v6).toNatClampNeg))
    kg82 p1 v4 x2 (v6 + (cn 1))))))))
  else (
    True)
noncomputable def g8_share_82 (n : Nat) : PM → Int32 → Int32 → Int32 → Prop := Nat.rec (motive := fun _ => PM → Int32 → Int32 → Int32 → Prop) (fun _ _ _ _ => False) (fun _ ih => bg8_share_82 v14_min_7cf53 g14_min_7cf53 ih) n
theorem eg8_share_82 (n : Nat) (p : PM) (v4 : Int32) (v5 : Int32) (v6 : Int32) : g8_share_82 (n + 1) p v4 v5 v6 = bg8_share_82 v14_min_7cf53 g14_min_7cf53 (g8_share_82 n) p v4 v5 v6 := rfl
noncomputable def bv8_share_25 (F128 : PM → Int32 → Int32 → Int32 → Int32 × PM) (F129 : PM → Int32 → Int32 → PM) (kv25 : PM → Nat → Int32 → Int32 → Int32 → Int32 → PM) (kv82 : PM → Int32 → Int32 → Int32 → PM) (p : PM) (v1 : Nat) (v2 : Int32) (v4 : Int32) (v5 : Int32) (v6 : Int32) : PM :=
  if v6 < v4 then (
    let p3 : PM := pI p 13 19 (v6).toNatClampNeg (cn 0)
    kv25 p3 v1 v2 v4 v5 (v6 + (cn 1)))
  else (
    if (p.1 1 v1 9) = (cn 1) then (
      let r1 : Int32 × PM := F128 p (p.1 1 v1 10) v2 v4
      let p2 : PM := F129 r1.2 (v5 - r1.1) v4
      p2)
    else (
      kv82 p v4 v5 (cn 0)))
noncomputable def v8_share_25 (n : Nat) : PM → Nat → Int32 → Int32 → Int32 → Int32 → PM := Nat.rec (motive := fun _ => PM → Nat → Int32 → Int32 → Int32 → Int32 → PM) (fun p _ _ _ _ _ => p) (fun _ ih => bv8_share_25 v8_giveTop v8_giveShares ih (v8_share_82 FU)) n
theorem ev8_share_25 (n : Nat) (p : PM) (v1 : Nat) (v2 : Int32) (v4 : Int32) (v5 : Int32) (v6 : Int32) : v8_share_25 (n + 1) p v1 v2 v4 v5 v6 = bv8_share_25 v8_giveTop v8_giveShares (v8_share_25 n) (v8_share_82 FU) p v1 v2 v4 v5 v6 := rfl
noncomputable def bg8_share_25 (F128 : PM → Int32 → Int32 → Int32 → Int32 × PM) (G128 : PM → Int32 → Int32 → Int32 → Prop) (F129 : PM → Int32 → Int32 → PM) (G129 : PM → Int32 → Int32 → Prop) (kg25 : PM → Nat → Int32 → Int32 → Int32 → Int32 → Prop) (kg82 : PM → Int32 → Int32 → Int32 → Prop) (p : PM) (v1 : Nat) (v2 : Int32) (v4 : Int32) (v5 : Int32) (v6 : Int32) : Prop :=
  if v6 < v4 then (
    (inb v6 40) ∧ (
    let p3 : PM := pI p 13 19 (v6).toNatClampNeg (cn 0)
    kg25 p3 v1 v2 v4 v5 (v6 + (cn 1))))
  else (
    (¬ v1 = 0) ∧ (
    if (p.1 1 v1 9) = (cn 1) then (
      (¬ v1 = 0) ∧ (
      (G128 p (p.1 1 v1 10) v2 v4) ∧ (
      let r1 : Int32 × PM := F128 p (p.1 1 v1 10) v2 v4
      (G129 r1.2 (v5 - r1.1) v4) ∧ (
      let p2 : PM := F129 r1.2 (v5 - r1.1) v4
      True))))
    else (
      kg82 p v4 v5 (cn 0))))
noncomputable def g8_share_25 (n : Nat) : PM → Nat → Int32 → Int32 → Int32 → Int32 → Prop := Nat.rec (motive := fun _ => PM → Nat → Int32 → Int32 → Int32 → Int32 → Prop) (fun _ _ _ _ _ _ => False) (fun _ ih => bg8_share_25 v8_giveTop g8_giveTop v8_giveShares g8_giveShares ih (g8_share_82 FU)) n
theorem eg8_share_25 (n : Nat) (p : PM) (v1 : Nat) (v2 : Int32) (v4 : Int32) (v5 : Int32) (v6 : Int32) : g8_share_25 (n + 1) p v1 v2 v4 v5 v6 = bg8_share_25 v8_giveTop g8_giveTop v8_giveShares g8_giveShares (g8_share_25 n) (g8_share_82 FU) p v1 v2 v4 v5 v6 := rfl
noncomputable def bv8_share (F377 : PM → Int32 → Int32 → Int32) (kv25 : PM → Nat → Int32 → Int32 → Int32 → Int32 → PM) (p : PM) (v1 : Nat) (v2 : Int32) (v3 : Int32) : PM :=
  let x1 : Int32 := (F377 p v3 (F377 p (cn 40) (cn 40)))
  kv25 p v1 v2 x1 v2 (cn 0)
noncomputable def v8_share (p : PM) (v1 : Nat) (v2 : Int32) (v3 : Int32) : PM := bv8_share v14_min_7cf53 (v8_share_25 FU) p v1 v2 v3
noncomputable def bg8_share (F377 : PM → Int32 → Int32 → Int32) (G377 : PM → Int32 → Int32 → Prop) (kg25 : PM → Nat → Int32 → Int32 → Int32 → Int32 → Prop) (p : PM) (v1 : Nat) (v2 : Int32) (v3 : Int32) : Prop :=
  (G377 p (cn 40) (cn 40)) ∧ (
  (G377 p v3 (F377 p (cn 40) (cn 40))) ∧ (
  let x1 : Int32 := (F377 p v3 (F377 p (cn 40) (cn 40)))
  kg25 p v1 v2 x1 v2 (cn 0)))
noncomputable def g8_share (p : PM) (v1 : Nat) (v2 : Int32) (v3 : Int32) : Prop := bg8_share v14_min_7cf53 g14_min_7cf53 (g8_share_25 FU) p v1 v2 v3
def R127 : List Row := [(0, .iload_n 3, 1, 0, (0, 0, 0, 0, 0, 0)), (1, .aload_n 0, 1, 0, (0, 0, 0, 0, 0, 0)), (2, .getfield 11, 3, 0, (8, 2, 23, 2, 2, 0)), (5, .arraylength, 1, 0, (20, 40, 0, 0, 0, 40)), (6, .aload_n 0, 1, 0, (0, 0, 0, 0, 0, 0)), (7, .getfield 17, 3, 0, (8, 3, 16, 2, 19, 0)), (10, .arraylength, 1, 0, (13, 40, 0, 0, 0, 40)), (11, .invokestatic 128, 3, 0, (0, 2, 0, 0, 0, 0)), (14, .invokestatic 128, 3, 0, (0, 2, 0, 0, 0, 0)), (17, .istore 4, 2, 0, (0, 0, 0, 0, 0, 0)), (19, .iload_n 2, 1, 0, (0, 0, 0, 0, 0, 0)), (20, .istore 5, 2, 0, (0, 0, 0, 0, 0, 0)), (22, .iconst 0, 1, 0, (0, 0, 0, 0, 0, 0)), (23, .istore 6, 2, 0, (0, 0, 0, 0, 0, 0)), (25, .iload 6, 2, 1, (0, 0, 0, 0, 0, 0)), (27, .iload 4, 2, 0, (0, 0, 0, 0, 0, 0)), (29, .if_icmp .ge 17, 3, 0, (0, 0, 0, 0, 0, 0)), (32, .aload_n 0, 1, 0, (0, 0, 0, 0, 0, 0)), (33, .getfield 17, 3, 0, (8, 3, 16, 2, 19, 0)), (36, .iload 6, 2, 0, (0, 0, 0, 0, 0, 0)), (38, .iconst 0, 1, 0, (0, 0, 0, 0, 0, 0)), (39, .iastore, 1, 0, (13, 40, 0, 0, 0, 0)), (40, .iinc 6 1, 3, 0, (0, 0, 0, 0, 0, 1)), (43, .goto (-18), 3, 0, (0, 0, 0, 0, 0, 0)), (46, .aload_n 1, 1, 0, (0, 0, 0, 0, 0, 0)), (47, .getfield 119, 3, 0, (1, 9, 0, 0, 0, 0)), (50, .iconst 1, 1, 0, (0, 0, 0, 0, 0, 1)), (51, .if_icmp .ne 28, 3, 0, (0, 0, 0, 0, 0, 0)), (54, .iload 5, 2, 0, (0, 0, 0, 0, 0, 0)), (56, .aload_n 0, 1, 0, (0, 0, 0, 0, 0, 0)), (57, .aload_n 1, 1, 0, (0, 0, 0, 0, 0, 0)), (58, .getfield 134, 3, 0, (1, 10, 0, 0, 0, 0)), (61, .iload_n 2, 1, 0, (0, 0, 0, 0, 0, 0)), (62, .iload 4, 2, 0, (0, 0, 0, 0, 0, 0)), (64, .invokevirtual 137, 3, 0, (1, 4, 0, 0, 1, 0)), (67, .isub, 1, 0, (0, 0, 0, 0, 0, 0)), (68, .istore 5, 2, 0, (0, 0, 0, 0, 0, 0)), (70, .aload_n 0, 1, 0, (0, 0, 0, 0, 0, 0)), (71, .iload 5, 2, 0, (0, 0, 0, 0, 0, 0)), (73, .iload 4, 2, 0, (0, 0, 0, 0, 0, 0)), (75, .invokevirtual 141, 3, 0, (2, 3, 0, 0, 1, 0)), (78, .return_, 1, 0, (0, 0, 0, 0, 0, 0)), (79, .iconst 0, 1, 0, (0, 0, 0, 0, 0, 0)), (80, .istore 6, 2, 0, (0, 0, 0, 0, 0, 0)), (82, .iload 6, 2, 2, (0, 0, 0, 0, 0, 0)), (84, .iload 4, 2, 0, (0, 0, 0, 0, 0, 0)), (86, .if_icmp .ge 43, 3, 0, (0, 0, 0, 0, 0, 0)), (89, .aload_n 0, 1, 0, (0, 0, 0, 0, 0, 0)), (90, .getfield 17, 3, 0, (8, 3, 16, 2, 19, 0)), (93, .iload 6, 2, 0, (0, 0, 0, 0, 0, 0)), (95, .iload 5, 2, 0, (0, 0, 0, 0, 0, 0)), (97, .aload_n 0, 1, 0, (0, 0, 0, 0, 0, 0)), (98, .getfield 11, 3, 0, (8, 2, 23, 2, 2, 0)), (101, .iload 6, 2, 0, (0, 0, 0, 0, 0, 0)), (103, .aaload, 1, 0, (20, 40, 0, 0, 0, 0)), (104, .getfield 122, 3, 0, (10, 11, 0, 0, 0, 0)), (107, .invokestatic 128, 3, 0, (0, 2, 0, 0, 0, 0)), (110, .iastore, 1, 0, (13, 40, 0, 0, 0, 0)), (111, .iload 5, 2, 0, (0, 0, 0, 0, 0, 0)), (113, .aload_n 0, 1, 0, (0, 0, 0, 0, 0, 0)), (114, .getfield 17, 3, 0, (8, 3, 16, 2, 19, 0)), (117, .iload 6, 2, 0, (0, 0, 0, 0, 0, 0)), (119, .iaload, 1, 0, (13, 40, 0, 0, 0, 0)), (120, .isub, 1, 0, (0, 0, 0, 0, 0, 0)), (121, .istore 5, 2, 0, (0, 0, 0, 0, 0, 0)), (123, .iinc 6 1, 3, 0, (0, 0, 0, 0, 0, 1)), (126, .goto (-44), 3, 0, (0, 0, 0, 0, 0, 0)), (129, .return_, 1, 0, (0, 0, 0, 0, 0, 0))]
set_option maxRecDepth 100000 in
theorem rk127 : R127.all (rok 0 127 0 [(377, [0, 0]), (128, [11, 0, 0, 0]), (129, [11, 0, 0])]) = true := by decide +kernel
set_option maxRecDepth 100000 in
theorem tab127 {F377 : PM → Int32 → Int32 → Int32} {G377 : PM → Int32 → Int32 → Prop} {F128 : PM → Int32 → Int32 → Int32 → Int32 × PM} {G128 : PM → Int32 → Int32 → Int32 → Prop} {F129 : PM → Int32 → Int32 → PM} {G129 : PM → Int32 → Int32 → Prop} : TabOK 0 127 0 [CC377 F377 G377, CC128 F128 G128, CC129 F129 G129] R127 := tab_ok (K := K127) rfl rfl (fun h => d127 h) rk127 (by decide +kernel)
set_option maxRecDepth 100000 in
theorem pc127 : cutpc [25, 82] R127 = true := by decide +kernel
set_option maxRecDepth 100000 in
theorem r8_share_82 (F377 : PM → Int32 → Int32 → Int32) (G377 : PM → Int32 → Int32 → Prop) (o377 : CalOK 0 (CC377 F377 G377)) (F128 : PM → Int32 → Int32 → Int32 → Int32 × PM) (G128 : PM → Int32 → Int32 → Int32 → Prop) (o128 : CalOK 0 (CC128 F128 G128)) (F129 : PM → Int32 → Int32 → PM) (G129 : PM → Int32 → Int32 → Prop) (o129 : CalOK 0 (CC129 F129 G129)) (kv82 : PM → Int32 → Int32 → Int32 → PM) (kg82 : PM → Int32 → Int32 → Int32 → Prop) (hk82 : ∀ (p : PM) (v4 : Int32) (v5 : Int32) (v6 : Int32) (d1 d2 d3 : ZV), Gr 0 p → kg82 p v4 v5 v6 → ZJ 0 127 82 [zR 8 1, d1, d2, d3, zI v4, zI v5, zI v6] [] p (hwV (kv82 p v4 v5 v6))) : ∀ (p : PM) (v4 : Int32) (v5 : Int32) (v6 : Int32) (d1 d2 d3 : ZV), Gr 0 p → bg8_share_82 F377 G377 kg82 p v4 v5 v6 → ZJ 0 127 82 [zR 8 1, d1, d2, d3, zI v4, zI v5, zI v6] [] p (hwV (bv8_share_82 F377 kv82 p v4 v5 v6)) := by
  intro p v4 v5 v6 d1 d2 d3 hg H
  exact rwV (n := 3000) (q := 82) (la := [zR 8 1, d1, d2, d3, zI v4, zI v5, zI v6]) (sa := []) (ks := [fun _ _ s => s, fun la sa s => kv82 s (ai la 4) (ai la 5) (ai la 6)]) (gs := [fun _ _ _ => False, fun la sa s => zsw (tc2 la [(108, 1), (2, 0), (2, 0), (2, 0), (0, 0), (0, 0), (0, 0)] && tc2 sa []) False (kg82 s (ai la 4) (ai la 5) (ai la 6))]) (fcons o377 (fcons o128 (fcons o129 (fnil)))) tab127 pc127 ⟨fun _ _ _ _ H => H.elim, fun la sa s hg H => zcut H fun H => hk82 s (ai la 4) (ai la 5) (ai la 6) (zld la 1) (zld la 2) (zld la 3) hg H, trivial⟩ hg H
theorem t8_share_82 : ∀ (n : Nat), ∀ (p : PM) (v4 : Int32) (v5 : Int32) (v6 : Int32) (d1 d2 d3 : ZV), Gr 0 p → g8_share_82 n p v4 v5 v6 → ZJ 0 127 82 [zR 8 1, d1, d2, d3, zI v4, zI v5, zI v6] [] p (hwV (v8_share_82 n p v4 v5 v6)) := by
  intro n
  induction n with
  | zero =>
    intro p v4 v5 v6 d1 d2 d3 hg H
    exact H.elim
  | succ n ih => exact r8_share_82 v14_min_7cf53 g14_min_7cf53 ok377 v8_giveTop g8_giveTop ok128 v8_giveShares g8_giveShares ok129 (v8_share_82 n) (g8_share_82 n) ih
set_option maxRecDepth 100000 in
theorem r8_share_25 (F377 : PM → Int32 → Int32 → Int32) (G377 : PM → Int32 → Int32 → Prop) (o377 : CalOK 0 (CC377 F377 G377)) (F128 : PM → Int32 → Int32 → Int32 → Int32 × PM) (G128 : PM → Int32 → Int32 → Int32 → Prop) (o128 : CalOK 0 (CC128 F128 G128)) (F129 : PM → Int32 → Int32 → PM) (G129 : PM → Int32 → Int32 → Prop) (o129 : CalOK 0 (CC129 F129 G129)) (kv25 : PM → Nat → Int32 → Int32 → Int32 → Int32 → PM) (kg25 : PM → Nat → Int32 → Int32 → Int32 → Int32 → Prop) (hk25 : ∀ (p : PM) (v1 : Nat) (v2 : Int32) (v4 : Int32) (v5 : Int32) (v6 : Int32) (d3 : ZV), Gr 0 p → kg25 p v1 v2 v4 v5 v6 → ZJ 0 127 25 [zR 8 1, zR 1 v1, zI v2, d3, zI v4, zI v5, zI v6] [] p (hwV (kv25 p v1 v2 v4 v5 v6))) (kv82 : PM → Int32 → Int32 → Int32 → PM) (kg82 : PM → Int32 → Int32 → Int32 → Prop) (hk82 : ∀ (p : PM) (v4 : Int32) (v5 : Int32) (v6 : Int32) (d1 d2 d3 : ZV), Gr 0 p → kg82 p v4 v5 v6 → ZJ 0 127 82 [zR 8 1, d1, d2, d3, zI v4, zI v5, zI v6] [] p (hwV (kv82 p v4 v5 v6))) : ∀ (p : PM) (v1 : Nat) (v2 : Int32) (v4 : Int32) (v5 : Int32) (v6 : Int32) (d3 : ZV), Gr 0 p → bg8_share_25 F128 G128 F129 G129 kg25 kg82 p v1 v2 v4 v5 v6 → ZJ 0 127 25 [zR 8 1, zR 1 v1, zI v2, d3, zI v4, zI v5, zI v6] [] p (hwV (bv8_share_25 F128 F129 kv25 kv82 p v1 v2 v4 v5 v6)) := by
  intro p v1 v2 v4 v5 v6 d3 hg H
  exact rwV (n := 3000) (q := 25) (la := [zR 8 1, zR 1 v1, zI v2, d3, zI v4, zI v5, zI v6]) (sa := []) (ks := [fun la sa s => kv25 s (ar la 1) (ai la 2) (ai la 4) (ai la 5) (ai la 6), fun la sa s => kv82 s (ai la 4) (ai la 5) (ai la 6)]) (gs := [fun la sa s => zsw (tc2 la [(108, 1), (5, 0), (0, 0), (2, 0), (0, 0), (0, 0), (0, 0)] && tc2 sa []) False (kg25 s (ar la 1) (ai la 2) (ai la 4) (ai la 5) (ai la 6)), fun la sa s => zsw (tc2 la [(108, 1), (2, 0), (2, 0), (2, 0), (0, 0), (0, 0), (0, 0)] && tc2 sa []) False (kg82 s (ai la 4) (ai la 5) (ai la 6))]) (fcons o377 (fcons o128 (fcons o129 (fnil)))) tab127 pc127 ⟨fun la sa s hg H => zcut H fun H => hk25 s (ar la 1) (ai la 2) (ai la 4) (ai la 5) (ai la 6) (zld la 3) hg H, fun la sa s hg H => zcut H fun H => hk82 s (ai la 4) (ai la 5) (ai la 6) (zld la 1) (zld la 2) (zld la 3) hg H, trivial⟩ hg H
theorem t8_share_25 : ∀ (n : Nat), ∀ (p : PM) (v1 : Nat) (v2 : Int32) (v4 : Int32) (v5 : Int32) (v6 : Int32) (d3 : ZV), Gr 0 p → g8_share_25 n p v1 v2 v4 v5 v6 → ZJ 0 127 25 [zR 8 1, zR 1 v1, zI v2, d3, zI v4, zI v5, zI v6] [] p (hwV (v8_share_25 n p v1 v2 v4 v5 v6)) := by
  intro n
  induction n with
  | zero =>
    intro p v1 v2 v4 v5 v6 d3 hg H
    exact H.elim
  | succ n ih => exact r8_share_25 v14_min_7cf53 g14_min_7cf53 ok377 v8_giveTop g8_giveTop ok128 v8_giveShares g8_giveShares ok129 (v8_share_25 n) (g8_share_25 n) ih (v8_share_82 FU) (g8_share_82 FU) (t8_share_82 FU)
set_option maxRecDepth 100000 in
theorem r8_share (F377 : PM → Int32 → Int32 → Int32) (G377 : PM → Int32 → Int32 → Prop) (o377 : CalOK 0 (CC377 F377 G377)) (F128 : PM → Int32 → Int32 → Int32 → Int32 × PM) (G128 : PM → Int32 → Int32 → Int32 → Prop) (o128 : CalOK 0 (CC128 F128 G128)) (F129 : PM → Int32 → Int32 → PM) (G129 : PM → Int32 → Int32 → Prop) (o129 : CalOK 0 (CC129 F129 G129)) (kv25 : PM → Nat → Int32 → Int32 → Int32 → Int32 → PM) (kg25 : PM → Nat → Int32 → Int32 → Int32 → Int32 → Prop) (hk25 : ∀ (p : PM) (v1 : Nat) (v2 : Int32) (v4 : Int32) (v5 : Int32) (v6 : Int32) (d3 : ZV), Gr 0 p → kg25 p v1 v2 v4 v5 v6 → ZJ 0 127 25 [zR 8 1, zR 1 v1, zI v2, d3, zI v4, zI v5, zI v6] [] p (hwV (kv25 p v1 v2 v4 v5 v6))) : ∀ (p : PM) (v1 : Nat) (v2 : Int32) (v3 : Int32), Gr 0 p → bg8_share F377 G377 kg25 p v1 v2 v3 → ZJ 0 127 0 [zR 8 1, zR 1 v1, zI v2, zI v3, zJ, zJ, zJ] [] p (hwV (bv8_share F377 kv25 p v1 v2 v3)) := by
  intro p v1 v2 v3  hg H
  exact rwV (n := 3000) (q := 0) (la := [zR 8 1, zR 1 v1, zI v2, zI v3, zJ, zJ, zJ]) (sa := []) (ks := [fun la sa s => kv25 s (ar la 1) (ai la 2) (ai la 4) (ai la 5) (ai la 6), fun _ _ s => s]) (gs := [fun la sa s => zsw (tc2 la [(108, 1), (5, 0), (0, 0), (2, 0), (0, 0), (0, 0), (0, 0)] && tc2 sa []) False (kg25 s (ar la 1) (ai la 2) (ai la 4) (ai la 5) (ai la 6)), fun _ _ _ => False]) (fcons o377 (fcons o128 (fcons o129 (fnil)))) tab127 pc127 ⟨fun la sa s hg H => zcut H fun H => hk25 s (ar la 1) (ai la 2) (ai la 4) (ai la 5) (ai la 6) (zld la 3) hg H, fun _ _ _ _ H => H.elim, trivial⟩ hg H
theorem t8_share : ∀ (p : PM) (v1 : Nat) (v2 : Int32) (v3 : Int32), Gr 0 p → g8_share p v1 v2 v3 → ZJ 0 127 0 [zR 8 1, zR 1 v1, zI v2, zI v3, zJ, zJ, zJ] [] p (hwV (v8_share p v1 v2 v3)) := r8_share v14_min_7cf53 g14_min_7cf53 ok377 v8_giveTop g8_giveTop ok128 v8_giveShares g8_giveShares ok129 (v8_share_25 FU) (g8_share_25 FU) (t8_share_25 FU)
def CC127 (F : PM → Nat → Int32 → Int32 → PM) (G : PM → Nat → Int32 → Int32 → Prop) : Cal := (127, [11, 4, 0, 0], 0, false, fun as p => (zJ, (F p (ar as 1) (ai as 2) (ai as 3))), fun as p => zsw (tc2 as [(108, 1), (5, 0), (0, 0), (0, 0)]) False (G p (ar as 1) (ai as 2) (ai as 3)))
set_option maxRecDepth 100000 in
theorem okr127 (F : PM → Nat → Int32 → Int32 → PM) (G : PM → Nat → Int32 → Int32 → Prop) (h : ∀ (p : PM) (v1 : Nat) (v2 : Int32) (v3 : Int32), Gr 0 p → G p v1 v2 v3 → ZJ 0 127 0 [zR 8 1, zR 1 v1, zI v2, zI v3, zJ, zJ, zJ] [] p (hwV (F p v1 v2 v3))) : CalOK 0 (CC127 F G) := cal_ok (m := 7) (by unfold mL; rw [mX_127]) (fun as p hg H => h p (ar as 1) (ai as 2) (ai as 3) hg H)
theorem ok127 : CalOK 0 (CC127 v8_share g8_share) := okr127 v8_share g8_share t8_share
noncomputable def bv8_strike (F90 : PM → Nat → Int32 → PM) (F106 : PM → Nat → Nat → Nat → Int32 → Int32 → PM) (F151 : PM → Nat → Int32 → PM) (p : PM) (v1 : Nat) (v2 : Nat) (v3 : Int32) (v4 : Int32) : PM :=
  if (p.1 10 v1 5) = 0 then (
    if (p.1 10 v1 5) = 0 then (
      let p1 : PM := F106 p (p.2.2 10 v1 4) (p.2.2 10 v2 3) (p.2.2 10 v1 3) v3 v4
      let p2 : PM := F151 p1 v1 v4
      let p3 : PM := F151 p2 v2 v4
      let p4 : PM := F90 p3 v2 v4
      let p5 : PM := F90 p4 v1 v4
      p5)
    else (
      let p6 : PM := F106 p (p.2.2 10 v1 4) (p.2.2 10 v2 3) (p.2.2 10 v2 3) v3 v4
      let p7 : PM := F151 p6 v1 v4
      let p8 : PM := F151 p7 v2 v4
      let p9 : PM := F90 p8 v2 v4
      let p10 : PM := F90 p9 v1 v4
      p10))
  else (
    if (p.1 10 v1 5) = 0 then (
      let p11 : PM := F106 p (p.2.2 10 v1 4) (p.2.2 10 v1 3) (p.2.2 10 v1 3) v3 v4
      let p12 : PM := F151 p11 v1 v4
      let p13 : PM := F151 p12 v2 v4
      let p14 : PM := F90 p13 v2 v4
      let p15 : PM := F90 p14 v1 v4
      p15)
    else (
      let p16 : PM := F106 p (p.2.2 10 v1 4) (p.2.2 10 v1 3) (p.2.2 10 v2 3) v3 v4
      let p17 : PM := F151 p16 v1 v4
      let p18 : PM := F151 p17 v2 v4
      let p19 : PM := F90 p18 v2 v4
      let p20 : PM := F90 p19 v1 v4
      p20))
noncomputable def v8_strike (p : PM) (v1 : Nat) (v2 : Nat) (v3 : Int32) (v4 : Int32) : PM := bv8_strike v6_guard v7_record v10_fall p v1 v2 v3 v4
noncomputable def bg8_strike (F90 : PM → Nat → Int32 → PM) (G90 : PM → Nat → Int32 → Prop) (F106 : PM → Nat → Nat → Nat → Int32 → Int32 → PM) (G106 : PM → Nat → Nat → Nat → Int32 → Int32 → Prop) (F151 : PM → Nat → Int32 → PM) (G151 : PM → Nat → Int32 → Prop) (p : PM) (v1 : Nat) (v2 : Nat) (v3 : Int32) (v4 : Int32) : Prop :=
  (¬ v1 = 0) ∧ (
  if (p.1 10 v1 5) = 0 then (
    (¬ v2 = 0) ∧ (
    (¬ v1 = 0) ∧ (
    if (p.1 10 v1 5) = 0 then (
      (¬ v1 = 0) ∧ (
      (¬ v1 = 0) ∧ (
      (G106 p (p.2.2 10 v1 4) (p.2.2 10 v2 3) (p.2.2 10 v1 3) v3 v4) ∧ (
      let p1 : PM := F106 p (p.2.2 10 v1 4) (p.2.2 10 v2 3) (p.2.2 10 v1 3) v3 v4
      (¬ v1 = 0) ∧ (
      (G151 p1 v1 v4) ∧ (
      let p2 : PM := F151 p1 v1 v4
      (¬ v2 = 0) ∧ (
      (G151 p2 v2 v4) ∧ (
      let p3 : PM := F151 p2 v2 v4
      (G90 p3 v2 v4) ∧ (
      let p4 : PM := F90 p3 v2 v4
      (G90 p4 v1 v4) ∧ (
      let p5 : PM := F90 p4 v1 v4
      True))))))))))
    else (
      (¬ v2 = 0) ∧ (
      (¬ v1 = 0) ∧ (
      (G106 p (p.2.2 10 v1 4) (p.2.2 10 v2 3) (p.2.2 10 v2 3) v3 v4) ∧ (
      let p6 : PM := F106 p (p.2.2 10 v1 4) (p.2.2 10 v2 3) (p.2.2 10 v2 3) v3 v4
      (¬ v1 = 0) ∧ (
      (G151 p6 v1 v4) ∧ (
      let p7 : PM := F151 p6 v1 v4
      (¬ v2 = 0) ∧ (
      (G151 p7 v2 v4) ∧ (
      let p8 : PM := F151 p7 v2 v4
      (G90 p8 v2 v4) ∧ (
      let p9 : PM := F90 p8 v2 v4
      (G90 p9 v1 v4) ∧ (
      let p10 : PM := F90 p9 v1 v4
      True)))))))))))))
  else (
    (¬ v1 = 0) ∧ (
    (¬ v1 = 0) ∧ (
    if (p.1 10 v1 5) = 0 then (
      (¬ v1 = 0) ∧ (
      (¬ v1 = 0) ∧ (
      (G106 p (p.2.2 10 v1 4) (p.2.2 10 v1 3) (p.2.2 10 v1 3) v3 v4) ∧ (
      let p11 : PM := F106 p (p.2.2 10 v1 4) (p.2.2 10 v1 3) (p.2.2 10 v1 3) v3 v4
      (¬ v1 = 0) ∧ (
      (G151 p11 v1 v4) ∧ (
      let p12 : PM := F151 p11 v1 v4
      (¬ v2 = 0) ∧ (
      (G151 p12 v2 v4) ∧ (
      let p13 : PM := F151 p12 v2 v4
      (G90 p13 v2 v4) ∧ (
      let p14 : PM := F90 p13 v2 v4
      (G90 p14 v1 v4) ∧ (
      let p15 : PM := F90 p14 v1 v4
      True))))))))))
    else (
      (¬ v2 = 0) ∧ (
      (¬ v1 = 0) ∧ (
      (G106 p (p.2.2 10 v1 4) (p.2.2 10 v1 3) (p.2.2 10 v2 3) v3 v4) ∧ (
      let p16 : PM := F106 p (p.2.2 10 v1 4) (p.2.2 10 v1 3) (p.2.2 10 v2 3) v3 v4
      (¬ v1 = 0) ∧ (
      (G151 p16 v1 v4) ∧ (
      let p17 : PM := F151 p16 v1 v4
      (¬ v2 = 0) ∧ (
      (G151 p17 v2 v4) ∧ (
      let p18 : PM := F151 p17 v2 v4
      (G90 p18 v2 v4) ∧ (
      let p19 : PM := F90 p18 v2 v4
      (G90 p19 v1 v4) ∧ (
      let p20 : PM := F90 p19 v1 v4
      True))))))))))))))
noncomputable def g8_strike (p : PM) (v1 : Nat) (v2 : Nat) (v3 : Int32) (v4 : Int32) : Prop := bg8_strike v6_guard g6_guard v7_record g7_record v10_fall g10_fall p v1 v2 v3 v4
def R130 : List Row := [(0, .aload_n 1, 1, 0, (0, 0, 0, 0, 0, 0)), (1, .getfield 38, 3, 0, (10, 5, 1, 0, 0, 0)), (4, .ifCond .eq 10, 3, 0, (0, 0, 0, 0, 0, 0)), (7, .aload_n 1, 1, 0, (0, 0, 0, 0, 0, 0)), (8, .getfield 46, 3, 0, (10, 3, 3, 0, 0, 0)), (11, .goto 7, 3, 0, (0, 0, 0, 0, 0, 0)), (14, .aload_n 2, 1, 0, (0, 0, 0, 0, 0, 0)), (15, .getfield 46, 3, 0, (10, 3, 3, 0, 0, 0)), (18, .astore 5, 2, 0, (0, 0, 0, 0, 0, 0)), (20, .aload_n 1, 1, 0, (0, 0, 0, 0, 0, 0)), (21, .getfield 38, 3, 0, (10, 5, 1, 0, 0, 0)), (24, .ifCond .eq 10, 3, 0, (0, 0, 0, 0, 0, 0)), (27, .aload_n 2, 1, 0, (0, 0, 0, 0, 0, 0)), (28, .getfield 46, 3, 0, (10, 3, 3, 0, 0, 0)), (31, .goto 7, 3, 0, (0, 0, 0, 0, 0, 0)), (34, .aload_n 1, 1, 0, (0, 0, 0, 0, 0, 0)), (35, .getfield 46, 3, 0, (10, 3, 3, 0, 0, 0)), (38, .astore 6, 2, 0, (0, 0, 0, 0, 0, 0)), (40, .aload_n 0, 1, 0, (0, 0, 0, 0, 0, 0)), (41, .getfield 25, 3, 0, (8, 1, 10, 2, 1, 0)), (44, .aload_n 1, 1, 0, (0, 0, 0, 0, 0, 0)), (45, .getfield 34, 3, 0, (10, 4, 4, 0, 0, 0)), (48, .aload 5, 2, 0, (0, 0, 0, 0, 0, 0)), (50, .aload 6, 2, 0, (0, 0, 0, 0, 0, 0)), (52, .iload_n 3, 1, 0, (0, 0, 0, 0, 0, 0)), (53, .iload 4, 2, 0, (0, 0, 0, 0, 0, 0)), (55, .invokevirtual 145, 3, 0, (0, 6, 0, 0, 1, 0)), (58, .aload_n 1, 1, 0, (0, 0, 0, 0, 0, 0)), (59, .iload 4, 2, 0, (0, 0, 0, 0, 0, 0)), (61, .invokevirtual 151, 3, 0, (1, 2, 0, 0, 2, 0)), (64, .aload_n 2, 1, 0, (0, 0, 0, 0, 0, 0)), (65, .iload 4, 2, 0, (0, 0, 0, 0, 0, 0)), (67, .invokevirtual 151, 3, 0, (1, 2, 0, 0, 2, 0)), (70, .aload_n 0, 1, 0, (0, 0, 0, 0, 0, 0)), (71, .getfield 21, 3, 0, (8, 0, 9, 2, 1, 0)), (74, .aload_n 2, 1, 0, (0, 0, 0, 0, 0, 0)), (75, .iload 4, 2, 0, (0, 0, 0, 0, 0, 0)), (77, .invokevirtual 155, 3, 0, (2, 3, 0, 0, 1, 0)), (80, .aload_n 0, 1, 0, (0, 0, 0, 0, 0, 0)), (81, .getfield 21, 3, 0, (8, 0, 9, 2, 1, 0)), (84, .aload_n 1, 1, 0, (0, 0, 0, 0, 0, 0)), (85, .iload 4, 2, 0, (0, 0, 0, 0, 0, 0)), (87, .invokevirtual 155, 3, 0, (2, 3, 0, 0, 1, 0)), (90, .return_, 1, 0, (0, 0, 0, 0, 0, 0))]
set_option maxRecDepth 100000 in
theorem rk130 : R130.all (rok 0 130 0 [(106, [10, 4, 3, 3, 0, 0]), (151, [13, 0]), (90, [9, 13, 0])]) = true := by decide +kernel
set_option maxRecDepth 100000 in
theorem tab130 {F106 : PM → Nat → Nat → Nat → Int32 → Int32 → PM} {G106 : PM → Nat → Nat → Nat → Int32 → Int32 → Prop} {F151 : PM → Nat → Int32 → PM} {G151 : PM → Nat → Int32 → Prop} {F90 : PM → Nat → Int32 → PM} {G90 : PM → Nat → Int32 → Prop} : TabOK 0 130 0 [CC106 F106 G106, CC151 F151 G151, CC90 F90 G90] R130 := tab_ok (K := K130) rfl rfl (fun h => d130 h) rk130 (by decide +kernel)
set_option maxRecDepth 100000 in
theorem pc130 : cutpc [] R130 = true := by decide +kernel
set_option maxRecDepth 100000 in
theorem r8_strike (F106 : PM → Nat → Nat → Nat → Int32 → Int32 → PM) (G106 : PM → Nat → Nat → Nat → Int32 → Int32 → Prop) (o106 : CalOK 0 (CC106 F106 G106)) (F151 : PM → Nat → Int32 → PM) (G151 : PM → Nat → Int32 → Prop) (o151 : CalOK 0 (CC151 F151 G151)) (F90 : PM → Nat → Int32 → PM) (G90 : PM → Nat → Int32 → Prop) (o90 : CalOK 0 (CC90 F90 G90)) : ∀ (p : PM) (v1 : Nat) (v2 : Nat) (v3 : Int32) (v4 : Int32), Gr 0 p → bg8_strike F90 G90 F106 G106 F151 G151 p v1 v2 v3 v4 → ZJ 0 130 0 [zR 8 1, zR 10 v1, zR 10 v2, zI v3, zI v4, zJ, zJ] [] p (hwV (bv8_strike F90 F106 F151 p v1 v2 v3 v4)) := by
  intro p v1 v2 v3 v4  hg H
  exact rwV (n := 3000) (q := 0) (la := [zR 8 1, zR 10 v1, zR 10 v2, zI v3, zI v4, zJ, zJ]) (sa := []) (ks := []) (gs := []) (fcons o106 (fcons o151 (fcons o90 (fnil)))) tab130 pc130 trivial hg H
theorem t8_strike : ∀ (p : PM) (v1 : Nat) (v2 : Nat) (v3 : Int32) (v4 : Int32), Gr 0 p → g8_strike p v1 v2 v3 v4 → ZJ 0 130 0 [zR 8 1, zR 10 v1, zR 10 v2, zI v3, zI v4, zJ, zJ] [] p (hwV (v8_strike p v1 v2 v3 v4)) := r8_strike v7_record g7_record ok106 v10_fall g10_fall ok151 v6_guard g6_guard ok90
def CC130 (F : PM → Nat → Nat → Int32 → Int32 → PM) (G : PM → Nat → Nat → Int32 → Int32 → Prop) : Cal := (130, [11, 13, 13, 0, 0], 0, false, fun as p => (zJ, (F p (ar as 1) (ar as 2) (ai as 3) (ai as 4))), fun as p => zsw (tc2 as [(108, 1), (14, 0), (14, 0), (0, 0), (0, 0)]) False (G p (ar as 1) (ar as 2) (ai as 3) (ai as 4)))
set_option maxRecDepth 100000 in
theorem okr130 (F : PM → Nat → Nat → Int32 → Int32 → PM) (G : PM → Nat → Nat → Int32 → Int32 → Prop) (h : ∀ (p : PM) (v1 : Nat) (v2 : Nat) (v3 : Int32) (v4 : Int32), Gr 0 p → G p v1 v2 v3 v4 → ZJ 0 130 0 [zR 8 1, zR 10 v1, zR 10 v2, zI v3, zI v4, zJ, zJ] [] p (hwV (F p v1 v2 v3 v4))) : CalOK 0 (CC130 F G) := cal_ok (m := 7) (by unfold mL; rw [mX_130]) (fun as p hg H => h p (ar as 1) (ar as 2) (ai as 3) (ai as 4) hg H)
theorem ok130 : CalOK 0 (CC130 v8_strike g8_strike) := okr130 v8_strike g8_strike t8_strike
noncomputable def bv8_settle (F78 : PM → Nat → PM) (p : PM) (v1 : Nat) : PM :=
  if (p.1 10 v1 2) = 0 then (
    p)
  else (
    if (p.1 10 v1 6) = (cn (-100000)) then (
      let p1 : PM := pI p 10 v1 2 (cn 0)
      p1)
    else (
      if (p.1 10 v1 8) = (cn (-100000)) then (
        let p3 : PM := pI p 10 v1 2 (cn 0)
        p3)
      else (
        let p2 : PM := F78 p v1
        p2)))
noncomputable def v8_settle (p : PM) (v1 : Nat) : PM := bv8_settle v6_stand p v1
noncomputable def bg8_settle (F78 : PM → Nat → PM) (G78 : PM → Nat → Prop) (p : PM) (v1 : Nat) : Prop :=
  (¬ v1 = 0) ∧ (
  if (p.1 10 v1 2) = 0 then (
    True)
  else (
    (¬ v1 = 0) ∧ (
    if (p.1 10 v1 6) = (cn (-100000)) then (
      (¬ v1 = 0) ∧ (
      let p1 : PM := pI p 10 v1 2 (cn 0)
      True))
    else (
      (¬ v1 = 0) ∧ (
      if (p.1 10 v1 8) = (cn (-100000)) then (
        (¬ v1 = 0) ∧ (
        let p3 : PM := pI p 10 v1 2 (cn 0)
        True))
      else (
        (G78 p v1) ∧ (
        let p2 : PM := F78 p v1
        True)))))))
noncomputable def g8_settle (p : PM) (v1 : Nat) : Prop := bg8_settle v6_stand g6_stand p v1
def R124 : List Row := [(0, .aload_n 1, 1, 0, (0, 0, 0, 0, 0, 0)), (1, .getfield 72, 3, 0, (10, 2, 0, 0, 0, 0)), (4, .ifCond .ne 4, 3, 0, (0, 0, 0, 0, 0, 0)), (7, .return_, 1, 0, (0, 0, 0, 0, 0, 0)), (8, .aload_n 1, 1, 0, (0, 0, 0, 0, 0, 0)), (9, .getfield 110, 3, 0, (10, 6, 0, 0, 0, 0)), (12, .ldc 79, 2, 0, (0, 0, 0, 0, 0, -100000)), (14, .if_icmp .eq 12, 3, 0, (0, 0, 0, 0, 0, 0)), (17, .aload_n 1, 1, 0, (0, 0, 0, 0, 0, 0)), (18, .getfield 113, 3, 0, (10, 8, 0, 0, 0, 0)), (21, .ldc 79, 2, 0, (0, 0, 0, 0, 0, -100000)), (23, .if_icmp .ne 11, 3, 0, (0, 0, 0, 0, 0, 0)), (26, .aload_n 1, 1, 0, (0, 0, 0, 0, 0, 0)), (27, .iconst 0, 1, 0, (0, 0, 0, 0, 0, 0)), (28, .putfield 72, 3, 0, (10, 2, 0, 0, 0, 0)), (31, .goto 11, 3, 0, (0, 0, 0, 0, 0, 0)), (34, .aload_n 0, 1, 0, (0, 0, 0, 0, 0, 0)), (35, .getfield 21, 3, 0, (8, 0, 9, 2, 1, 0)), (38, .aload_n 1, 1, 0, (0, 0, 0, 0, 0, 0)), (39, .invokevirtual 116, 3, 0, (0, 2, 0, 0, 1, 0)), (42, .return_, 1, 0, (0, 0, 0, 0, 0, 0))]
set_option maxRecDepth 100000 in
theorem rk124 : R124.all (rok 0 124 0 [(78, [9, 13])]) = true := by decide +kernel
set_option maxRecDepth 100000 in
theorem tab124 {F78 : PM → Nat → PM} {G78 : PM → Nat → Prop} : TabOK 0 124 0 [CC78 F78 G78] R124 := tab_ok (K := K124) rfl rfl (fun h => d124 h) rk124 (by decide +kernel)
set_option maxRecDepth 100000 in
theorem pc124 : cutpc [] R124 = true := by decide +kernel
set_option maxRecDepth 100000 in
theorem r8_settle (F78 : PM → Nat → PM) (G78 : PM → Nat → Prop) (o78 : CalOK 0 (CC78 F78 G78)) : ∀ (p : PM) (v1 : Nat), Gr 0 p → bg8_settle F78 G78 p v1 → ZJ 0 124 0 [zR 8 1, zR 10 v1] [] p (hwV (bv8_settle F78 p v1)) := by
  intro p v1  hg H
  exact rwV (n := 3000) (q := 0) (la := [zR 8 1, zR 10 v1]) (sa := []) (ks := []) (gs := []) (fcons o78 (fnil)) tab124 pc124 trivial hg H
theorem t8_settle : ∀ (p : PM) (v1 : Nat), Gr 0 p → g8_settle p v1 → ZJ 0 124 0 [zR 8 1, zR 10 v1] [] p (hwV (v8_settle p v1)) := r8_settle v6_stand g6_stand ok78
def CC124 (F : PM → Nat → PM) (G : PM → Nat → Prop) : Cal := (124, [11, 13], 0, false, fun as p => (zJ, (F p (ar as 1))), fun as p => zsw (tc2 as [(108, 1), (14, 0)]) False (G p (ar as 1)))
set_option maxRecDepth 100000 in
theorem okr124 (F : PM → Nat → PM) (G : PM → Nat → Prop) (h : ∀ (p : PM) (v1 : Nat), Gr 0 p → G p v1 → ZJ 0 124 0 [zR 8 1, zR 10 v1] [] p (hwV (F p v1))) : CalOK 0 (CC124 F G) := cal_ok (m := 2) (by unfold mL; rw [mX_124]) (fun as p hg H => h p (ar as 1) hg H)
theorem ok124 : CalOK 0 (CC124 v8_settle g8_settle) := okr124 v8_settle g8_settle t8_settle
noncomputable def bv8_match_141 (F80 : PM → Nat → PM) (F130 : PM → Nat → Nat → Int32 → Int32 → PM) (kv7 : PM → Nat → Nat → Int32 → PM) (kv141 : PM → Nat → Nat → Int32 → Int32 → Int32 → Int32 → PM) (p : PM) (v1 : Nat) (v2 : Nat) (v3 : Int32) (v4 : Int32) (v5 : Int32) (v6 : Int32) : PM :=
  if v6 < v5 then (
    if v6 < (cn 40) then (
      if v6 < (cn 40) then (
        let x1 : Nat := (p.2.2 20 2 (v6).toNatClampNeg)
        let x2 : Int32 := (p.1 13 19 (v6).toNatClampNeg)
        if 0 < x2 then (
          if (p.1 10 x1 2) = 0 then (
            kv141 p v1 v2 v3 v4 v5 (v6 + (cn 1)))
          else (
            if (p.1 10 v1 2) = 0 then (
              kv141 p v1 v2 v3 v4 v5 (v6 + (cn 1)))
            else (
              let p3 : PM := F130 p v1 x1 v4 x2
              let p4 : PM := F80 p3 x1
              kv141 p4 v1 v2 v3 v4 v5 (v6 + (cn 1)))))
        else (
          kv141 p v1 v2 v3 v4 v5 (v6 + (cn 1))))
      else (
        kv7 p v1 v2 (v3 + (cn 1))))
    else (
      kv7 p v1 v2 (v3 + (cn 1))))
  else (
    kv7 p v1 v2 (v3 + (cn 1)))
noncomputable def v8_match_141 (kv7 : PM → Nat → Nat → Int32 → PM) (n : Nat) : PM → Nat → Nat → Int32 → Int32 → Int32 → Int32 → PM := Nat.rec (motive := fun _ => PM → Nat → Nat → Int32 → Int32 → Int32 → Int32 → PM) (fun p _ _ _ _ _ _ => p) (fun _ ih => bv8_match_141 v6_showAnew v8_strike kv7 ih) n
theorem ev8_match_141 (kv7 : PM → Nat → Nat → Int32 → PM) (n : Nat) (p : PM) (v1 : Nat) (v2 : Nat) (v3 : Int32) (v4 : Int32) (v5 : Int32) (v6 : Int32) : v8_match_141 kv7 (n + 1) p v1 v2 v3 v4 v5 v6 = bv8_match_141 v6_showAnew v8_strike kv7 (v8_match_141 kv7 n) p v1 v2 v3 v4 v5 v6 := rfl
noncomputable def bg8_match_141 (F80 : PM → Nat → PM) (G80 : PM → Nat → Prop) (F130 : PM → Nat → Nat → Int32 → Int32 → PM) (G130 : PM → Nat → Nat → Int32 → Int32 → Prop) (kg7 : PM → Nat → Nat → Int32 → Prop) (kg141 : PM → Nat → Nat → Int32 → Int32 → Int32 → Int32 → Prop) (p : PM) (v1 : Nat) (v2 : Nat) (v3 : Int32) (v4 : Int32) (v5 : Int32) (v6 : Int32) : Prop :=
  if v6 < v5 then (
    if v6 < (cn 40) then (
      if v6 < (cn 40) then (
        (inb v6 40) ∧ (
        let x1 : Nat := (p.2.2 20 2 (v6).toNatClampNeg)
        (inb v6 40) ∧ (
        let x2 : Int32 := (p.1 13 19 (v6).toNatClampNeg)
        if 0 < x2 then (
          (¬ x1 = 0) ∧ (
          if (p.1 10 x1 2) = 0 then (
            kg141 p v1 v2 v3 v4 v5 (v6 + (cn 1)))
          else (
            (¬ v1 = 0) ∧ (
            if (p.1 10 v1 2) = 0 then (
              kg141 p v1 v2 v3 v4 v5 (v6 + (cn 1)))
            else (
              (G130 p v1 x1 v4 x2) ∧ (
              let p3 : PM := F130 p v1 x1 v4 x2
              (G80 p3 x1) ∧ (
              let p4 : PM := F80 p3 x1
              kg141 p4 v1 v2 v3 v4 v5 (v6 + (cn 1)))))))))
        else (
          kg141 p v1 v2 v3 v4 v5 (v6 + (cn 1))))))
      else (
        kg7 p v1 v2 (v3 + (cn 1))))
    else (
      kg7 p v1 v2 (v3 + (cn 1))))
  else (
    kg7 p v1 v2 (v3 + (cn 1)))
noncomputable def g8_match_141 (kg7 : PM → Nat → Nat → Int32 → Prop) (n : Nat) : PM → Nat → Nat → Int32 → Int32 → Int32 → Int32 → Prop := Nat.rec (motive := fun _ => PM → Nat → Nat → Int32 → Int32 → Int32 → Int32 → Prop) (fun _ _ _ _ _ _ _ => False) (fun _ ih => bg8_match_141 v6_showAnew g6_showAnew v8_strike g8_strike kg7 ih) n
theorem eg8_match_141 (kg7 : PM → Nat → Nat → Int32 → Prop) (n : Nat) (p : PM) (v1 : Nat) (v2 : Nat) (v3 : Int32) (v4 : Int32) (v5 : Int32) (v6 : Int32) : g8_match_141 kg7 (n + 1) p v1 v2 v3 v4 v5 v6 = bg8_match_141 v6_showAnew g6_showAnew v8_strike g8_strike kg7 (g8_match_141 kg7 n) p v1 v2 v3 v4 v5 v6 := rfl
noncomputable def bv8_match_37 (F13 : PM → Nat → Int32 → Int32) (F81 : PM → Nat → Int32 → Int32 → Int32) (F94 : PM → Nat → Int32 → Int32 → Int32 × PM) (F124 : PM → Nat → PM) (F125 : PM → Nat → Int32 → Int32 × PM) (F126 : PM → Nat → Int32 → Int32 × PM) (F127 : PM → Nat → Int32 → Int32 → PM) (F145 : PM → Nat → Int32 → Int32) (kv7 : PM → Nat → Nat → Int32 → PM) (kv141 : PM → Nat → Nat → Int32 → Int32 → Int32 → Int32 → PM) (p : PM) (v1 : Nat) (v2 : Nat) (v3 : Int32) (s0 : Int32) (s1 : Nat) : PM :=
  let x1 : Int32 := (F81 p s1 s0 (cn 1))
  if x1 = (cn (-100000)) then (
    let p2 : PM := F124 p v1
    p2)
  else (
    if (F145 p v1 x1) = 0 then (
      let p11 : PM := F124 p v1
      p11)
    else (
      if (F13 p v2 x1) = 0 then (
        let r3 : Int32 × PM := F125 p v1 x1
        if (r3.2.1 1 v2 11) = 0 then (
          let p4 : PM := F127 r3.2 v2 (r3.2.1 10 v1 9) r3.1
          kv141 p4 v1 v2 v3 x1 r3.1 (cn 0))
        else (
          let r5 : Int32 × PM := F126 r3.2 v1 r3.1
          if r5.1 = 0 then (
            let p6 : PM := F127 r5.2 v2 (r5.2.1 10 v1 9) r3.1
            kv141 p6 v1 v2 v3 x1 r3.1 (cn 0))
          else (
            if (r5.2.1 1 v2 11) = (cn 1) then (
              let p7 : PM := pI r5.2 10 v1 2 (cn 0)
              let p8 : PM := F124 p7 v1
              p8)
            else (
              kv7 r5.2 v1 v2 (v3 + (cn 1))))))
      else (
        let r9 : Int32 × PM := F94 p v2 (cn 5) (cn 0)
        let p10 : PM := F124 r9.2 v1
        p10)))
noncomputable def v8_match_37 (kv7 : PM → Nat → Nat → Int32 → PM) (p : PM) (v1 : Nat) (v2 : Nat) (v3 : Int32) (s0 : Int32) (s1 : Nat) : PM := bv8_match_37 v1_isBeyondBand v6_bestPrice v6_beginAuction v8_settle v8_gather v8_meetsOwn v8_share v10_allows kv7 (v8_match_141 kv7 FU) p v1 v2 v3 s0 s1
noncomputable def bg8_match_37 (F13 : PM → Nat → Int32 → Int32) (G13 : PM → Nat → Int32 → Prop) (F81 : PM → Nat → Int32 → Int32 → Int32) (G81 : PM → Nat → Int32 → Int32 → Prop) (F94 : PM → Nat → Int32 → Int32 → Int32 × PM) (G94 : PM → Nat → Int32 → Int32 → Prop) (F124 : PM → Nat → PM) (G124 : PM → Nat → Prop) (F125 : PM → Nat → Int32 → Int32 × PM) (G125 : PM → Nat → Int32 → Prop) (F126 : PM → Nat → Int32 → Int32 × PM) (G126 : PM → Nat → Int32 → Prop) (F127 : PM → Nat → Int32 → Int32 → PM) (G127 : PM → Nat → Int32 → Int32 → Prop) (F145 : PM → Nat → Int32 → Int32) (G145 : PM → Nat → Int32 → Prop) (kg7 : PM → Nat → Nat → Int32 → Prop) (kg141 : PM → Nat → Nat → Int32 → Int32 → Int32 → Int32 → Prop) (p : PM) (v1 : Nat) (v2 : Nat) (v3 : Int32) (s0 : Int32) (s1 : Nat) : Prop :=
  (G81 p s1 s0 (cn 1)) ∧ (
  let x1 : Int32 := (F81 p s1 s0 (cn 1))
  if x1 = (cn (-100000)) then (
    (G124 p v1) ∧ (
    let p2 : PM := F124 p v1
    True))
  else (
    (¬ v1 = 0) ∧ (
    (G145 p v1 x1) ∧ (
    if (F145 p v1 x1) = 0 then (
      (G124 p v1) ∧ (
      let p11 : PM := F124 p v1
      True))
    else (
      (¬ v2 = 0) ∧ (
      (G13 p v2 x1) ∧ (
      if (F13 p v2 x1) = 0 then (
        (G125 p v1 x1) ∧ (
        let r3 : Int32 × PM := F125 p v1 x1
        (¬ v2 = 0) ∧ (
        if (r3.2.1 1 v2 11) = 0 then (
          (¬ v1 = 0) ∧ (
          (G127 r3.2 v2 (r3.2.1 10 v1 9) r3.1) ∧ (
          let p4 : PM := F127 r3.2 v2 (r3.2.1 10 v1 9) r3.1
          kg141 p4 v1 v2 v3 x1 r3.1 (cn 0))))
        else (
          (G126 r3.2 v1 r3.1) ∧ (
          let r5 : Int32 × PM := F126 r3.2 v1 r3.1
          if r5.1 = 0 then (
            (¬ v1 = 0) ∧ (
            (G127 r5.2 v2 (r5.2.1 10 v1 9) r3.1) ∧ (
            let p6 : PM := F127 r5.2 v2 (r5.2.1 10 v1 9) r3.1
            kg141 p6 v1 v2 v3 x1 r3.1 (cn 0))))
          else (
            (¬ v2 = 0) ∧ (
            if (r5.2.1 1 v2 11) = (cn 1) then (
              (¬ v1 = 0) ∧ (
              let p7 : PM := pI r5.2 10 v1 2 (cn 0)
              (G124 p7 v1) ∧ (
              let p8 : PM := F124 p7 v1
              True)))
            else (
              kg7 r5.2 v1 v2 (v3 + (cn 1))))))))))
      else (
        (G94 p v2 (cn 5) (cn 0)) ∧ (
        let r9 : Int32 × PM := F94 p v2 (cn 5) (cn 0)
        (G124 r9.2 v1) ∧ (
        let p10 : PM := F124 r9.2 v1
        True))))))))))
noncomputable def g8_match_37 (kg7 : PM → Nat → Nat → Int32 → Prop) (p : PM) (v1 : Nat) (v2 : Nat) (v3 : Int32) (s0 : Int32) (s1 : Nat) : Prop := bg8_match_37 v1_isBeyondBand g1_isBeyondBand v6_bestPrice g6_bestPrice v6_beginAuction g6_beginAuction v8_settle g8_settle v8_gather g8_gather v8_meetsOwn g8_meetsOwn v8_share g8_share v10_allows g10_allows kg7 (g8_match_141 kg7 FU) p v1 v2 v3 s0 s1
noncomputable def bv8_match_7 (F124 : PM → Nat → PM) (kv37 : PM → Nat → Nat → Int32 → Int32 → Nat → PM) (p : PM) (v1 : Nat) (v2 : Nat) (v3 : Int32) : PM :=
  if v3 < (cn 1000000) then (
    if (p.1 10 v1 2) = 0 then (
      let p2 : PM := F124 p v1
      p2)
    else (
      if (p.1 10 v1 5) = 0 then (
        kv37 p v1 v2 v3 (cn 1) v2)
      else (
        kv37 p v1 v2 v3 (cn 0) v2)))
  else (
    let p1 : PM := F124 p v1
    p1)
noncomputable def v8_match_7 (n : Nat) : PM → Nat → Nat → Int32 → PM := Nat.rec (motive := fun _ => PM → Nat → Nat → Int32 → PM) (fun p _ _ _ => p) (fun _ ih => bv8_match_7 v8_settle (v8_match_37 ih)) n
theorem ev8_match_7 (n : Nat) (p : PM) (v1 : Nat) (v2 : Nat) (v3 : Int32) : v8_match_7 (n + 1) p v1 v2 v3 = bv8_match_7 v8_settle (v8_match_37 (v8_match_7 n)) p v1 v2 v3 := rfl
noncomputable def bg8_match_7 (F124 : PM → Nat → PM) (G124 : PM → Nat → Prop) (kg37 : PM → Nat → Nat → Int32 → Int32 → Nat → Prop) (p : PM) (v1 : Nat) (v2 : Nat) (v3 : Int32) : Prop :=
  if v3 < (cn 1000000) then (
    (¬ v1 = 0) ∧ (
    if (p.1 10 v1 2) = 0 then (
      (G124 p v1) ∧ (
      let p2 : PM := F124 p v1
      True))
    else (
      (¬ v1 = 0) ∧ (
      if (p.1 10 v1 5) = 0 then (
        kg37 p v1 v2 v3 (cn 1) v2)
      else (
        kg37 p v1 v2 v3 (cn 0) v2)))))
  else (
    (G124 p v1) ∧ (
    let p1 : PM := F124 p v1
    True))
noncomputable def g8_match_7 (n : Nat) : PM → Nat → Nat → Int32 → Prop := Nat.rec (motive := fun _ => PM → Nat → Nat → Int32 → Prop) (fun _ _ _ _ => False) (fun _ ih => bg8_match_7 v8_settle g8_settle (g8_match_37 ih)) n
theorem eg8_match_7 (n : Nat) (p : PM) (v1 : Nat) (v2 : Nat) (v3 : Int32) : g8_match_7 (n + 1) p v1 v2 v3 = bg8_match_7 v8_settle g8_settle (g8_match_37 (g8_match_7 n)) p v1 v2 v3 := rfl
noncomputable def bv8_match (kv7 : PM → Nat → Nat → Int32 → PM) (p : PM) (v1 : Nat) : PM :=
  kv7 p v1 (p.2.2 10 v1 4) (cn 0)
noncomputable def v8_match (p : PM) (v1 : Nat) : PM := bv8_match (v8_match_7 FU) p v1
noncomputable def bg8_match (kg7 : PM → Nat → Nat → Int32 → Prop) (p : PM) (v1 : Nat) : Prop :=
  (¬ v1 = 0) ∧ (
  kg7 p v1 (p.2.2 10 v1 4) (cn 0))
noncomputable def g8_match (p : PM) (v1 : Nat) : Prop := bg8_match (g8_match_7 FU) p v1
def R123 : List Row := [(0, .aload_n 1, 1, 0, (0, 0, 0, 0, 0, 0)), (1, .getfield 34, 3, 0, (10, 4, 4, 0, 0, 0)), (4, .astore_n 2, 1, 0, (0, 0, 0, 0, 0, 0)), (5, .iconst 0, 1, 0, (0, 0, 0, 0, 0, 0)), (6, .istore_n 3, 1, 0, (0, 0, 0, 0, 0, 0)), (7, .iload_n 3, 1, 1, (0, 0, 0, 0, 0, 0)), (8, .ldc 71, 2, 0, (0, 0, 0, 0, 0, 1000000)), (10, .if_icmp .ge 228, 3, 0, (0, 0, 0, 0, 0, 0)), (13, .aload_n 1, 1, 0, (0, 0, 0, 0, 0, 0)), (14, .getfield 72, 3, 0, (10, 2, 0, 0, 0, 0)), (17, .ifCond .eq 221, 3, 0, (0, 0, 0, 0, 0, 0)), (20, .aload_n 0, 1, 0, (0, 0, 0, 0, 0, 0)), (21, .getfield 21, 3, 0, (8, 0, 9, 2, 1, 0)), (24, .aload_n 2, 1, 0, (0, 0, 0, 0, 0, 0)), (25, .aload_n 1, 1, 0, (0, 0, 0, 0, 0, 0)), (26, .getfield 38, 3, 0, (10, 5, 1, 0, 0, 0)), (29, .ifCond .ne 7, 3, 0, (0, 0, 0, 0, 0, 0)), (32, .iconst 1, 1, 0, (0, 0, 0, 0, 0, 1)), (33, .goto 4, 3, 0, (0, 0, 0, 0, 0, 0)), (36, .iconst 0, 1, 0, (0, 0, 0, 0, 0, 0)), (37, .iconst 1, 1, 2, (0, 0, 0, 0, 0, 1)), (38, .invokevirtual 75, 3, 0, (1, 4, 0, 0, 1, 0)), (41, .istore 4, 2, 0, (0, 0, 0, 0, 0, 0)), (43, .iload 4, 2, 0, (0, 0, 0, 0, 0, 0)), (45, .ldc 79, 2, 0, (0, 0, 0, 0, 0, -100000)), (47, .if_icmp .eq 191, 3, 0, (0, 0, 0, 0, 0, 0)), (50, .aload_n 1, 1, 0, (0, 0, 0, 0, 0, 0)), (51, .iload 4, 2, 0, (0, 0, 0, 0, 0, 0)), (53, .invokevirtual 59, 3, 0, (2, 2, 0, 0, 2, 0)), (56, .ifCond .ne 6, 3, 0, (0, 0, 0, 0, 0, 0)), (59, .goto 179, 3, 0, (0, 0, 0, 0, 0, 0)), (62, .aload_n 2, 1, 0, (0, 0, 0, 0, 0, 0)), (63, .iload 4, 2, 0, (0, 0, 0, 0, 0, 0)), (65, .invokevirtual 63, 3, 0, (3, 2, 0, 0, 2, 0)), (68, .ifCond .eq 17, 3, 0, (0, 0, 0, 0, 0, 0)), (71, .aload_n 0, 1, 0, (0, 0, 0, 0, 0, 0)), (72, .getfield 21, 3, 0, (8, 0, 9, 2, 1, 0)), (75, .aload_n 2, 1, 0, (0, 0, 0, 0, 0, 0)), (76, .iconst 5, 1, 0, (0, 0, 0, 0, 0, 5)), (77, .iconst 0, 1, 0, (0, 0, 0, 0, 0, 0)), (78, .invokevirtual 80, 3, 0, (7, 4, 0, 0, 1, 0)), (81, .pop, 1, 0, (0, 0, 0, 0, 0, 0)), (82, .goto 156, 3, 0, (0, 0, 0, 0, 0, 0)), (85, .aload_n 0, 1, 0, (0, 0, 0, 0, 0, 0)), (86, .aload_n 1, 1, 0, (0, 0, 0, 0, 0, 0)), (87, .iload 4, 2, 0, (0, 0, 0, 0, 0, 0)), (89, .invokevirtual 84, 3, 0, (4, 3, 0, 0, 1, 0)), (92, .istore 5, 2, 0, (0, 0, 0, 0, 0, 0)), (94, .aload_n 2, 1, 0, (0, 0, 0, 0, 0, 0)), (95, .getfield 88, 3, 0, (1, 11, 0, 0, 0, 0)), (98, .ifCond .eq 29, 3, 0, (0, 0, 0, 0, 0, 0)), (101, .aload_n 0, 1, 0, (0, 0, 0, 0, 0, 0)), (102, .aload_n 1, 1, 0, (0, 0, 0, 0, 0, 0)), (103, .iload 5, 2, 0, (0, 0, 0, 0, 0, 0)), (105, .invokevirtual 91, 3, 0, (6, 3, 0, 0, 1, 0)), (108, .ifCond .eq 19, 3, 0, (0, 0, 0, 0, 0, 0)), (111, .aload_n 2, 1, 0, (0, 0, 0, 0, 0, 0)), (112, .getfield 88, 3, 0, (1, 11, 0, 0, 0, 0)), (115, .iconst 1, 1, 0, (0, 0, 0, 0, 0, 1)), (116, .if_icmp .ne 116, 3, 0, (0, 0, 0, 0, 0, 0)), (119, .aload_n 1, 1, 0, (0, 0, 0, 0, 0, 0)), (120, .iconst 0, 1, 0, (0, 0, 0, 0, 0, 0)), (121, .putfield 72, 3, 0, (10, 2, 0, 0, 0, 0)), (124, .goto 114, 3, 0, (0, 0, 0, 0, 0, 0)), (127, .aload_n 0, 1, 0, (0, 0, 0, 0, 0, 0)), (128, .aload_n 2, 1, 0, (0, 0, 0, 0, 0, 0)), (129, .aload_n 1, 1, 0, (0, 0, 0, 0, 0, 0)), (130, .getfield 68, 3, 0, (10, 9, 0, 0, 0, 0)), (133, .iload 5, 2, 0, (0, 0, 0, 0, 0, 0)), (135, .invokevirtual 95, 3, 0, (5, 4, 0, 0, 1, 0)), (138, .iconst 0, 1, 0, (0, 0, 0, 0, 0, 0)), (139, .istore 6, 2, 0, (0, 0, 0, 0, 0, 0)), (141, .iload 6, 2, 3, (0, 0, 0, 0, 0, 0)), (143, .iload 5, 2, 0, (0, 0, 0, 0, 0, 0)), (145, .if_icmp .ge 87, 3, 0, (0, 0, 0, 0, 0, 0)), (148, .iload 6, 2, 0, (0, 0, 0, 0, 0, 0)), (150, .aload_n 0, 1, 0, (0, 0, 0, 0, 0, 0)), (151, .getfield 11, 3, 0, (8, 2, 23, 2, 2, 0)), (154, .arraylength, 1, 0, (20, 40, 0, 0, 0, 40)), (155, .if_icmp .ge 77, 3, 0, (0, 0, 0, 0, 0, 0)), (158, .iload 6, 2, 0, (0, 0, 0, 0, 0, 0)), (160, .aload_n 0, 1, 0, (0, 0, 0, 0, 0, 0)), (161, .getfield 17, 3, 0, (8, 3, 16, 2, 19, 0)), (164, .arraylength, 1, 0, (13, 40, 0, 0, 0, 40)), (165, .if_icmp .ge 67, 3, 0, (0, 0, 0, 0, 0, 0)), (168, .aload_n 0, 1, 0, (0, 0, 0, 0, 0, 0)), (169, .getfield 11, 3, 0, (8, 2, 23, 2, 2, 0)), (172, .iload 6, 2, 0, (0, 0, 0, 0, 0, 0)), (174, .aaload, 1, 0, (20, 40, 0, 0, 0, 0)), (175, .astore 7, 2, 0, (0, 0, 0, 0, 0, 0)), (177, .aload_n 0, 1, 0, (0, 0, 0, 0, 0, 0)), (178, .getfield 17, 3, 0, (8, 3, 16, 2, 19, 0)), (181, .iload 6, 2, 0, (0, 0, 0, 0, 0, 0)), (183, .iaload, 1, 0, (13, 40, 0, 0, 0, 0)), (184, .istore 8, 2, 0, (0, 0, 0, 0, 0, 0)), (186, .iload 8, 2, 0, (0, 0, 0, 0, 0, 0)), (188, .ifCond .le 38, 3, 0, (0, 0, 0, 0, 0, 0)), (191, .aload 7, 2, 0, (0, 0, 0, 0, 0, 0)), (193, .getfield 72, 3, 0, (10, 2, 0, 0, 0, 0)), (196, .ifCond .eq 30, 3, 0, (0, 0, 0, 0, 0, 0)), (199, .aload_n 1, 1, 0, (0, 0, 0, 0, 0, 0)), (200, .getfield 72, 3, 0, (10, 2, 0, 0, 0, 0)), (203, .ifCond .eq 23, 3, 0, (0, 0, 0, 0, 0, 0)), (206, .aload_n 0, 1, 0, (0, 0, 0, 0, 0, 0)), (207, .aload_n 1, 1, 0, (0, 0, 0, 0, 0, 0)), (208, .aload 7, 2, 0, (0, 0, 0, 0, 0, 0)), (210, .iload 4, 2, 0, (0, 0, 0, 0, 0, 0)), (212, .iload 8, 2, 0, (0, 0, 0, 0, 0, 0)), (214, .invokevirtual 99, 3, 0, (8, 5, 0, 0, 1, 0)), (217, .aload_n 0, 1, 0, (0, 0, 0, 0, 0, 0)), (218, .getfield 21, 3, 0, (8, 0, 9, 2, 1, 0)), (221, .aload 7, 2, 0, (0, 0, 0, 0, 0, 0)), (223, .invokevirtual 103, 3, 0, (9, 2, 0, 0, 1, 0)), (226, .iinc 6 1, 3, 0, (0, 0, 0, 0, 0, 1)), (229, .goto (-88), 3, 0, (0, 0, 0, 0, 0, 0)), (232, .iinc 3 1, 3, 0, (0, 0, 0, 0, 0, 1)), (235, .goto (-228), 3, 0, (0, 0, 0, 0, 0, 0)), (238, .aload_n 0, 1, 0, (0, 0, 0, 0, 0, 0)), (239, .aload_n 1, 1, 0, (0, 0, 0, 0, 0, 0)), (240, .invokevirtual 107, 3, 0, (0, 2, 0, 0, 1, 0)), (243, .return_, 1, 0, (0, 0, 0, 0, 0, 0))]
set_option maxRecDepth 100000 in
theorem rk123 : R123.all (rok 0 123 0 [(124, [11, 13]), (81, [9, 4, 0, 0]), (145, [13, 0]), (13, [4, 0]), (125, [11, 13, 0]), (127, [11, 4, 0, 0]), (126, [11, 13, 0]), (94, [9, 4, 0, 0]), (130, [11, 13, 13, 0, 0]), (80, [9, 13])]) = true := by decide +kernel
set_option maxRecDepth 100000 in
theorem tab123 {F124 : PM → Nat → PM} {G124 : PM → Nat → Prop} {F81 : PM → Nat → Int32 → Int32 → Int32} {G81 : PM → Nat → Int32 → Int32 → Prop} {F145 : PM → Nat → Int32 → Int32} {G145 : PM → Nat → Int32 → Prop} {F13 : PM → Nat → Int32 → Int32} {G13 : PM → Nat → Int32 → Prop} {F125 : PM → Nat → Int32 → Int32 × PM} {G125 : PM → Nat → Int32 → Prop} {F127 : PM → Nat → Int32 → Int32 → PM} {G127 : PM → Nat → Int32 → Int32 → Prop} {F126 : PM → Nat → Int32 → Int32 × PM} {G126 : PM → Nat → Int32 → Prop} {F94 : PM → Nat → Int32 → Int32 → Int32 × PM} {G94 : PM → Nat → Int32 → Int32 → Prop} {F130 : PM → Nat → Nat → Int32 → Int32 → PM} {G130 : PM → Nat → Nat → Int32 → Int32 → Prop} {F80 : PM → Nat → PM} {G80 : PM → Nat → Prop} : TabOK 0 123 0 [CC124 F124 G124, CC81 F81 G81, CC145 F145 G145, CC13 F13 G13, CC125 F125 G125, CC127 F127 G127, CC126 F126 G126, CC94 F94 G94, CC130 F130 G130, CC80 F80 G80] R123 := tab_ok (K := K123) rfl rfl (fun h => d123 h) rk123 (by decide +kernel)
set_option maxRecDepth 100000 in
theorem pc123 : cutpc [7, 37, 141] R123 = true := by decide +kernel
set_option maxRecDepth 100000 in
theorem r8_match_141 (F124 : PM → Nat → PM) (G124 : PM → Nat → Prop) (o124 : CalOK 0 (CC124 F124 G124)) (F81 : PM → Nat → Int32 → Int32 → Int32) (G81 : PM → Nat → Int32 → Int32 → Prop) (o81 : CalOK 0 (CC81 F81 G81)) (F145 : PM → Nat → Int32 → Int32) (G145 : PM → Nat → Int32 → Prop) (o145 : CalOK 0 (CC145 F145 G145)) (F13 : PM → Nat → Int32 → Int32) (G13 : PM → Nat → Int32 → Prop) (o13 : CalOK 0 (CC13 F13 G13)) (F125 : PM → Nat → Int32 → Int32 × PM) (G125 : PM → Nat → Int32 → Prop) (o125 : CalOK 0 (CC125 F125 G125)) (F127 : PM → Nat → Int32 → Int32 → PM) (G127 : PM → Nat → Int32 → Int32 → Prop) (o127 : CalOK 0 (CC127 F127 G127)) (F126 : PM → Nat → Int32 → Int32 × PM) (G126 : PM → Nat → Int32 → Prop) (o126 : CalOK 0 (CC126 F126 G126)) (F94 : PM → Nat → Int32 → Int32 → Int32 × PM) (G94 : PM → Nat → Int32 → Int32 → Prop) (o94 : CalOK 0 (CC94 F94 G94)) (F130 : PM → Nat → Nat → Int32 → Int32 → PM) (G130 : PM → Nat → Nat → Int32 → Int32 → Prop) (o130 : CalOK 0 (CC130 F130 G130)) (F80 : PM → Nat → PM) (G80 : PM → Nat → Prop) (o80 : CalOK 0 (CC80 F80 G80)) (kv7 : PM → Nat → Nat → Int32 → PM) (kg7 : PM → Nat → Nat → Int32 → Prop) (hk7 : ∀ (p : PM) (v1 : Nat) (v2 : Nat) (v3 : Int32) (d4 d5 d6 d7 d8 : ZV), Gr 0 p → kg7 p v1 v2 v3 → ZJ 0 123 7 [zR 8 1, zR 10 v1, zR 1 v2, zI v3, d4, d5, d6, d7, d8] [] p (hwV (kv7 p v1 v2 v3))) (kv141 : PM → Nat → Nat → Int32 → Int32 → Int32 → Int32 → PM) (kg141 : PM → Nat → Nat → Int32 → Int32 → Int32 → Int32 → Prop) (hk141 : ∀ (p : PM) (v1 : Nat) (v2 : Nat) (v3 : Int32) (v4 : Int32) (v5 : Int32) (v6 : Int32) (d7 d8 : ZV), Gr 0 p → kg141 p v1 v2 v3 v4 v5 v6 → ZJ 0 123 141 [zR 8 1, zR 10 v1, zR 1 v2, zI v3, zI v4, zI v5, zI v6, d7, d8] [] p (hwV (kv141 p v1 v2 v3 v4 v5 v6))) : ∀ (p : PM) (v1 : Nat) (v2 : Nat) (v3 : Int32) (v4 : Int32) (v5 : Int32) (v6 : Int32) (d7 d8 : ZV), Gr 0 p → bg8_match_141 F80 G80 F130 G130 kg7 kg141 p v1 v2 v3 v4 v5 v6 → ZJ 0 123 141 [zR 8 1, zR 10 v1, zR 1 v2, zI v3, zI v4, zI v5, zI v6, d7, d8] [] p (hwV (bv8_match_141 F80 F130 kv7 kv141 p v1 v2 v3 v4 v5 v6)) := by
  intro p v1 v2 v3 v4 v5 v6 d7 d8 hg H
  exact rwV (n := 3000) (q := 141) (la := [zR 8 1, zR 10 v1, zR 1 v2, zI v3, zI v4, zI v5, zI v6, d7, d8]) (sa := []) (ks := [fun la sa s => kv7 s (ar la 1) (ar la 2) (ai la 3), fun _ _ s => s, fun la sa s => kv141 s (ar la 1) (ar la 2) (ai la 3) (ai la 4) (ai la 5) (ai la 6)]) (gs := [fun la sa s => zsw (tc2 la [(108, 1), (14, 0), (5, 0), (0, 0), (2, 0), (2, 0), (2, 0), (2, 0), (2, 0)] && tc2 sa []) False (kg7 s (ar la 1) (ar la 2) (ai la 3)), fun _ _ _ => False, fun la sa s => zsw (tc2 la [(108, 1), (14, 0), (5, 0), (0, 0), (0, 0), (0, 0), (0, 0), (2, 0), (2, 0)] && tc2 sa []) False (kg141 s (ar la 1) (ar la 2) (ai la 3) (ai la 4) (ai la 5) (ai la 6))]) (fcons o124 (fcons o81 (fcons o145 (fcons o13 (fcons o125 (fcons o127 (fcons o126 (fcons o94 (fcons o130 (fcons o80 (fnil))))))))))) tab123 pc123 ⟨fun la sa s hg H => zcut H fun H => hk7 s (ar la 1) (ar la 2) (ai la 3) (zld la 4) (zld la 5) (zld la 6) (zld la 7) (zld la 8) hg H, fun _ _ _ _ H => H.elim, fun la sa s hg H => zcut H fun H => hk141 s (ar la 1) (ar la 2) (ai la 3) (ai la 4) (ai la 5) (ai la 6) (zld la 7) (zld la 8) hg H, trivial⟩ hg H
theorem t8_match_141 (kv7 : PM → Nat → Nat → Int32 → PM) (kg7 : PM → Nat → Nat → Int32 → Prop) (hk7 : ∀ (p : PM) (v1 : Nat) (v2 : Nat) (v3 : Int32) (d4 d5 d6 d7 d8 : ZV), Gr 0 p → kg7 p v1 v2 v3 → ZJ 0 123 7 [zR 8 1, zR 10 v1, zR 1 v2, zI v3, d4, d5, d6, d7, d8] [] p (hwV (kv7 p v1 v2 v3))) : ∀ (n : Nat), ∀ (p : PM) (v1 : Nat) (v2 : Nat) (v3 : Int32) (v4 : Int32) (v5 : Int32) (v6 : Int32) (d7 d8 : ZV), Gr 0 p → g8_match_141 kg7 n p v1 v2 v3 v4 v5 v6 → ZJ 0 123 141 [zR 8 1, zR 10 v1, zR 1 v2, zI v3, zI v4, zI v5, zI v6, d7, d8] [] p (hwV (v8_match_141 kv7 n p v1 v2 v3 v4 v5 v6)) := by
  intro n
  induction n with
  | zero =>
    intro p v1 v2 v3 v4 v5 v6 d7 d8 hg H
    exact H.elim
  | succ n ih => exact r8_match_141 v8_settle g8_settle ok124 v6_bestPrice g6_bestPrice ok81 v10_allows g10_allows ok145 v1_isBeyondBand g1_isBeyondBand ok13 v8_gather g8_gather ok125 v8_share g8_share ok127 v8_meetsOwn g8_meetsOwn ok126 v6_beginAuction g6_beginAuction ok94 v8_strike g8_strike ok130 v6_showAnew g6_showAnew ok80 kv7 kg7 hk7 (v8_match_141 kv7 n) (g8_match_141 kg7 n) ih
set_option maxRecDepth 100000 in
theorem r8_match_37 (F124 : PM → Nat → PM) (G124 : PM → Nat → Prop) (o124 : CalOK 0 (CC124 F124 G124)) (F81 : PM → Nat → Int32 → Int32 → Int32) (G81 : PM → Nat → Int32 → Int32 → Prop) (o81 : CalOK 0 (CC81 F81 G81)) (F145 : PM → Nat → Int32 → Int32) (G145 : PM → Nat → Int32 → Prop) (o145 : CalOK 0 (CC145 F145 G145)) (F13 : PM → Nat → Int32 → Int32) (G13 : PM → Nat → Int32 → Prop) (o13 : CalOK 0 (CC13 F13 G13)) (F125 : PM → Nat → Int32 → Int32 × PM) (G125 : PM → Nat → Int32 → Prop) (o125 : CalOK 0 (CC125 F125 G125)) (F127 : PM → Nat → Int32 → Int32 → PM) (G127 : PM → Nat → Int32 → Int32 → Prop) (o127 : CalOK 0 (CC127 F127 G127)) (F126 : PM → Nat → Int32 → Int32 × PM) (G126 : PM → Nat → Int32 → Prop) (o126 : CalOK 0 (CC126 F126 G126)) (F94 : PM → Nat → Int32 → Int32 → Int32 × PM) (G94 : PM → Nat → Int32 → Int32 → Prop) (o94 : CalOK 0 (CC94 F94 G94)) (F130 : PM → Nat → Nat → Int32 → Int32 → PM) (G130 : PM → Nat → Nat → Int32 → Int32 → Prop) (o130 : CalOK 0 (CC130 F130 G130)) (F80 : PM → Nat → PM) (G80 : PM → Nat → Prop) (o80 : CalOK 0 (CC80 F80 G80)) (kv7 : PM → Nat → Nat → Int32 → PM) (kg7 : PM → Nat → Nat → Int32 → Prop) (hk7 : ∀ (p : PM) (v1 : Nat) (v2 : Nat) (v3 : Int32) (d4 d5 d6 d7 d8 : ZV), Gr 0 p → kg7 p v1 v2 v3 → ZJ 0 123 7 [zR 8 1, zR 10 v1, zR 1 v2, zI v3, d4, d5, d6, d7, d8] [] p (hwV (kv7 p v1 v2 v3))) (kv141 : PM → Nat → Nat → Int32 → Int32 → Int32 → Int32 → PM) (kg141 : PM → Nat → Nat → Int32 → Int32 → Int32 → Int32 → Prop) (hk141 : ∀ (p : PM) (v1 : Nat) (v2 : Nat) (v3 : Int32) (v4 : Int32) (v5 : Int32) (v6 : Int32) (d7 d8 : ZV), Gr 0 p → kg141 p v1 v2 v3 v4 v5 v6 → ZJ 0 123 141 [zR 8 1, zR 10 v1, zR 1 v2, zI v3, zI v4, zI v5, zI v6, d7, d8] [] p (hwV (kv141 p v1 v2 v3 v4 v5 v6))) : ∀ (p : PM) (v1 : Nat) (v2 : Nat) (v3 : Int32) (s0 : Int32) (s1 : Nat) (d4 d5 d6 d7 d8 : ZV), Gr 0 p → bg8_match_37 F13 G13 F81 G81 F94 G94 F124 G124 F125 G125 F126 G126 F127 G127 F145 G145 kg7 kg141 p v1 v2 v3 s0 s1 → ZJ 0 123 37 [zR 8 1, zR 10 v1, zR 1 v2, zI v3, d4, d5, d6, d7, d8] [zI s0, zR 1 s1, zR 6 1] p (hwV (bv8_match_37 F13 F81 F94 F124 F125 F126 F127 F145 kv7 kv141 p v1 v2 v3 s0 s1)) := by
  intro p v1 v2 v3 s0 s1 d4 d5 d6 d7 d8 hg H
  exact rwV (n := 3000) (q := 37) (la := [zR 8 1, zR 10 v1, zR 1 v2, zI v3, d4, d5, d6, d7, d8]) (sa := [zI s0, zR 1 s1, zR 6 1]) (ks := [fun la sa s => kv7 s (ar la 1) (ar la 2) (ai la 3), fun _ _ s => s, fun la sa s => kv141 s (ar la 1) (ar la 2) (ai la 3) (ai la 4) (ai la 5) (ai la 6)]) (gs := [fun la sa s => zsw (tc2 la [(108, 1), (14, 0), (5, 0), (0, 0), (2, 0), (2, 0), (2, 0), (2, 0), (2, 0)] && tc2 sa []) False (kg7 s (ar la 1) (ar la 2) (ai la 3)), fun _ _ _ => False, fun la sa s => zsw (tc2 la [(108, 1), (14, 0), (5, 0), (0, 0), (0, 0), (0, 0), (0, 0), (2, 0), (2, 0)] && tc2 sa []) False (kg141 s (ar la 1) (ar la 2) (ai la 3) (ai la 4) (ai la 5) (ai la 6))]) (fcons o124 (fcons o81 (fcons o145 (fcons o13 (fcons o125 (fcons o127 (fcons o126 (fcons o94 (fcons o130 (fcons o80 (fnil))))))))))) tab123 pc123 ⟨fun la sa s hg H => zcut H fun H => hk7 s (ar la 1) (ar la 2) (ai la 3) (zld la 4) (zld la 5) (zld la 6) (zld la 7) (zld la 8) hg H, fun _ _ _ _ H => H.elim, fun la sa s hg H => zcut H fun H => hk141 s (ar la 1) (ar la 2) (ai la 3) (ai la 4) (ai la 5) (ai la 6) (zld la 7) (zld la 8) hg H, trivial⟩ hg H
theorem t8_match_37 (kv7 : PM → Nat → Nat → Int32 → PM) (kg7 : PM → Nat → Nat → Int32 → Prop) (hk7 : ∀ (p : PM) (v1 : Nat) (v2 : Nat) (v3 : Int32) (d4 d5 d6 d7 d8 : ZV), Gr 0 p → kg7 p v1 v2 v3 → ZJ 0 123 7 [zR 8 1, zR 10 v1, zR 1 v2, zI v3, d4, d5, d6, d7, d8] [] p (hwV (kv7 p v1 v2 v3))) : ∀ (p : PM) (v1 : Nat) (v2 : Nat) (v3 : Int32) (s0 : Int32) (s1 : Nat) (d4 d5 d6 d7 d8 : ZV), Gr 0 p → g8_match_37 kg7 p v1 v2 v3 s0 s1 → ZJ 0 123 37 [zR 8 1, zR 10 v1, zR 1 v2, zI v3, d4, d5, d6, d7, d8] [zI s0, zR 1 s1, zR 6 1] p (hwV (v8_match_37 kv7 p v1 v2 v3 s0 s1)) := r8_match_37 v8_settle g8_settle ok124 v6_bestPrice g6_bestPrice ok81 v10_allows g10_allows ok145 v1_isBeyondBand g1_isBeyondBand ok13 v8_gather g8_gather ok125 v8_share g8_share ok127 v8_meetsOwn g8_meetsOwn ok126 v6_beginAuction g6_beginAuction ok94 v8_strike g8_strike ok130 v6_showAnew g6_showAnew ok80 kv7 kg7 hk7 (v8_match_141 kv7 FU) (g8_match_141 kg7 FU) (t8_match_141 kv7 kg7 hk7 FU)
set_option maxRecDepth 100000 in
theorem r8_match_7 (F124 : PM → Nat → PM) (G124 : PM → Nat → Prop) (o124 : CalOK 0 (CC124 F124 G124)) (F81 : PM → Nat → Int32 → Int32 → Int32) (G81 : PM → Nat → Int32 → Int32 → Prop) (o81 : CalOK 0 (CC81 F81 G81)) (F145 : PM → Nat → Int32 → Int32) (G145 : PM → Nat → Int32 → Prop) (o145 : CalOK 0 (CC145 F145 G145)) (F13 : PM → Nat → Int32 → Int32) (G13 : PM → Nat → Int32 → Prop) (o13 : CalOK 0 (CC13 F13 G13)) (F125 : PM → Nat → Int32 → Int32 × PM) (G125 : PM → Nat → Int32 → Prop) (o125 : CalOK 0 (CC125 F125 G125)) (F127 : PM → Nat → Int32 → Int32 → PM) (G127 : PM → Nat → Int32 → Int32 → Prop) (o127 : CalOK 0 (CC127 F127 G127)) (F126 : PM → Nat → Int32 → Int32 × PM) (G126 : PM → Nat → Int32 → Prop) (o126 : CalOK 0 (CC126 F126 G126)) (F94 : PM → Nat → Int32 → Int32 → Int32 × PM) (G94 : PM → Nat → Int32 → Int32 → Prop) (o94 : CalOK 0 (CC94 F94 G94)) (F130 : PM → Nat → Nat → Int32 → Int32 → PM) (G130 : PM → Nat → Nat → Int32 → Int32 → Prop) (o130 : CalOK 0 (CC130 F130 G130)) (F80 : PM → Nat → PM) (G80 : PM → Nat → Prop) (o80 : CalOK 0 (CC80 F80 G80)) (kv37 : PM → Nat → Nat → Int32 → Int32 → Nat → PM) (kg37 : PM → Nat → Nat → Int32 → Int32 → Nat → Prop) (hk37 : ∀ (p : PM) (v1 : Nat) (v2 : Nat) (v3 : Int32) (s0 : Int32) (s1 : Nat) (d4 d5 d6 d7 d8 : ZV), Gr 0 p → kg37 p v1 v2 v3 s0 s1 → ZJ 0 123 37 [zR 8 1, zR 10 v1, zR 1 v2, zI v3, d4, d5, d6, d7, d8] [zI s0, zR 1 s1, zR 6 1] p (hwV (kv37 p v1 v2 v3 s0 s1))) : ∀ (p : PM) (v1 : Nat) (v2 : Nat) (v3 : Int32) (d4 d5 d6 d7 d8 : ZV), Gr 0 p → bg8_match_7 F124 G124 kg37 p v1 v2 v3 → ZJ 0 123 7 [zR 8 1, zR 10 v1, zR 1 v2, zI v3, d4, d5, d6, d7, d8] [] p (hwV (bv8_match_7 F124 kv37 p v1 v2 v3)) := by
  intro p v1 v2 v3 d4 d5 d6 d7 d8 hg H
  exact rwV (n := 3000) (q := 7) (la := [zR 8 1, zR 10 v1, zR 1 v2, zI v3, d4, d5, d6, d7, d8]) (sa := []) (ks := [fun _ _ s => s, fun la sa s => kv37 s (ar la 1) (ar la 2) (ai la 3) (ai sa 0) (ar sa 1), fun _ _ s => s]) (gs := [fun _ _ _ => False, fun la sa s => zsw (tc2 la [(108, 1), (14, 0), (5, 0), (0, 0), (2, 0), (2, 0), (2, 0), (2, 0), (2, 0)] && tc2 sa [(0, 0), (5, 0), (106, 1)]) False (kg37 s (ar la 1) (ar la 2) (ai la 3) (ai sa 0) (ar sa 1)), fun _ _ _ => False]) (fcons o124 (fcons o81 (fcons o145 (fcons o13 (fcons o125 (fcons o127 (fcons o126 (fcons o94 (fcons o130 (fcons o80 (fnil))))))))))) tab123 pc123 ⟨fun _ _ _ _ H => H.elim, fun la sa s hg H => zcut H fun H => hk37 s (ar la 1) (ar la 2) (ai la 3) (ai sa 0) (ar sa 1) (zld la 4) (zld la 5) (zld la 6) (zld la 7) (zld la 8) hg H, fun _ _ _ _ H => H.elim, trivial⟩ hg H
theorem t8_match_7 : ∀ (n : Nat), ∀ (p : PM) (v1 : Nat) (v2 : Nat) (v3 : Int32) (d4 d5 d6 d7 d8 : ZV), Gr 0 p → g8_match_7 n p v1 v2 v3 → ZJ 0 123 7 [zR 8 1, zR 10 v1, zR 1 v2, zI v3, d4, d5, d6, d7, d8] [] p (hwV (v8_match_7 n p v1 v2 v3)) := by
  intro n
  induction n with
  | zero =>
    intro p v1 v2 v3 d4 d5 d6 d7 d8 hg H
    exact H.elim
  | succ n ih => exact r8_match_7 v8_settle g8_settle ok124 v6_bestPrice g6_bestPrice ok81 v10_allows g10_allows ok145 v1_isBeyondBand g1_isBeyondBand ok13 v8_gather g8_gather ok125 v8_share g8_share ok127 v8_meetsOwn g8_meetsOwn ok126 v6_beginAuction g6_beginAuction ok94 v8_strike g8_strike ok130 v6_showAnew g6_showAnew ok80 (v8_match_37 (v8_match_7 n)) (g8_match_37 (g8_match_7 n)) (t8_match_37 (v8_match_7 n) (g8_match_7 n) ih)
set_option maxRecDepth 100000 in
theorem r8_match (F124 : PM → Nat → PM) (G124 : PM → Nat → Prop) (o124 : CalOK 0 (CC124 F124 G124)) (F81 : PM → Nat → Int32 → Int32 → Int32) (G81 : PM → Nat → Int32 → Int32 → Prop) (o81 : CalOK 0 (CC81 F81 G81)) (F145 : PM → Nat → Int32 → Int32) (G145 : PM → Nat → Int32 → Prop) (o145 : CalOK 0 (CC145 F145 G145)) (F13 : PM → Nat → Int32 → Int32) (G13 : PM → Nat → Int32 → Prop) (o13 : CalOK 0 (CC13 F13 G13)) (F125 : PM → Nat → Int32 → Int32 × PM) (G125 : PM → Nat → Int32 → Prop) (o125 : CalOK 0 (CC125 F125 G125)) (F127 : PM → Nat → Int32 → Int32 → PM) (G127 : PM → Nat → Int32 → Int32 → Prop) (o127 : CalOK 0 (CC127 F127 G127)) (F126 : PM → Nat → Int32 → Int32 × PM) (G126 : PM → Nat → Int32 → Prop) (o126 : CalOK 0 (CC126 F126 G126)) (F94 : PM → Nat → Int32 → Int32 → Int32 × PM) (G94 : PM → Nat → Int32 → Int32 → Prop) (o94 : CalOK 0 (CC94 F94 G94)) (F130 : PM → Nat → Nat → Int32 → Int32 → PM) (G130 : PM → Nat → Nat → Int32 → Int32 → Prop) (o130 : CalOK 0 (CC130 F130 G130)) (F80 : PM → Nat → PM) (G80 : PM → Nat → Prop) (o80 : CalOK 0 (CC80 F80 G80)) (kv7 : PM → Nat → Nat → Int32 → PM) (kg7 : PM → Nat → Nat → Int32 → Prop) (hk7 : ∀ (p : PM) (v1 : Nat) (v2 : Nat) (v3 : Int32) (d4 d5 d6 d7 d8 : ZV), Gr 0 p → kg7 p v1 v2 v3 → ZJ 0 123 7 [zR 8 1, zR 10 v1, zR 1 v2, zI v3, d4, d5, d6, d7, d8] [] p (hwV (kv7 p v1 v2 v3))) : ∀ (p : PM) (v1 : Nat), Gr 0 p → bg8_match kg7 p v1 → ZJ 0 123 0 [zR 8 1, zR 10 v1, zJ, zJ, zJ, zJ, zJ, zJ, zJ] [] p (hwV (bv8_match kv7 p v1)) := by
  intro p v1  hg H
  exact rwV (n := 3000) (q := 0) (la := [zR 8 1, zR 10 v1, zJ, zJ, zJ, zJ, zJ, zJ, zJ]) (sa := []) (ks := [fun la sa s => kv7 s (ar la 1) (ar la 2) (ai la 3), fun _ _ s => s, fun _ _ s => s]) (gs := [fun la sa s => zsw (tc2 la [(108, 1), (14, 0), (5, 0), (0, 0), (2, 0), (2, 0), (2, 0), (2, 0), (2, 0)] && tc2 sa []) False (kg7 s (ar la 1) (ar la 2) (ai la 3)), fun _ _ _ => False, fun _ _ _ => False]) (fcons o124 (fcons o81 (fcons o145 (fcons o13 (fcons o125 (fcons o127 (fcons o126 (fcons o94 (fcons o130 (fcons o80 (fnil))))))))))) tab123 pc123 ⟨fun la sa s hg H => zcut H fun H => hk7 s (ar la 1) (ar la 2) (ai la 3) (zld la 4) (zld la 5) (zld la 6) (zld la 7) (zld la 8) hg H, fun _ _ _ _ H => H.elim, fun _ _ _ _ H => H.elim, trivial⟩ hg H
theorem t8_match : ∀ (p : PM) (v1 : Nat), Gr 0 p → g8_match p v1 → ZJ 0 123 0 [zR 8 1, zR 10 v1, zJ, zJ, zJ, zJ, zJ, zJ, zJ] [] p (hwV (v8_match p v1)) := r8_match v8_settle g8_settle ok124 v6_bestPrice g6_bestPrice ok81 v10_allows g10_allows ok145 v1_isBeyondBand g1_isBeyondBand ok13 v8_gather g8_gather ok125 v8_share g8_share ok127 v8_meetsOwn g8_meetsOwn ok126 v6_beginAuction g6_beginAuction ok94 v8_strike g8_strike ok130 v6_showAnew g6_showAnew ok80 (v8_match_7 FU) (g8_match_7 FU) (t8_match_7 FU)
def CC123 (F : PM → Nat → PM) (G : PM → Nat → Prop) : Cal := (123, [11, 13], 0, false, fun as p => (zJ, (F p (ar as 1))), fun as p => zsw (tc2 as [(108, 1), (14, 0)]) False (G p (ar as 1)))
set_option maxRecDepth 100000 in
theorem okr123 (F : PM → Nat → PM) (G : PM → Nat → Prop) (h : ∀ (p : PM) (v1 : Nat), Gr 0 p → G p v1 → ZJ 0 123 0 [zR 8 1, zR 10 v1, zJ, zJ, zJ, zJ, zJ, zJ, zJ] [] p (hwV (F p v1))) : CalOK 0 (CC123 F G) := cal_ok (m := 9) (by unfold mL; rw [mX_123]) (fun as p hg H => h p (ar as 1) hg H)
theorem ok123 : CalOK 0 (CC123 v8_match g8_match) := okr123 v8_match g8_match t8_match
noncomputable def bv5_place (F78 : PM → Nat → PM) (F123 : PM → Nat → PM) (p : PM) (v1 : Nat) : PM :=
  if (p.1 1 (p.2.2 10 v1 4) 5) = 0 then (
    let p1 : PM := F123 p v1
    p1)
  else (
    let p2 : PM := F78 p v1
    p2)
noncomputable def v5_place (p : PM) (v1 : Nat) : PM := bv5_place v6_stand v8_match p v1
noncomputable def bg5_place (F78 : PM → Nat → PM) (G78 : PM → Nat → Prop) (F123 : PM → Nat → PM) (G123 : PM → Nat → Prop) (p : PM) (v1 : Nat) : Prop :=
  (¬ v1 = 0) ∧ (
  (¬ (p.2.2 10 v1 4) = 0) ∧ (
  if (p.1 1 (p.2.2 10 v1 4) 5) = 0 then (
    (G123 p v1) ∧ (
    let p1 : PM := F123 p v1
    True))
  else (
    (G78 p v1) ∧ (
    let p2 : PM := F78 p v1
    True))))
noncomputable def g5_place (p : PM) (v1 : Nat) : Prop := bg5_place v6_stand g6_stand v8_match g8_match p v1
def R65 : List Row := [(0, .aload_n 1, 1, 0, (0, 0, 0, 0, 0, 0)), (1, .getfield 144, 3, 0, (10, 4, 4, 0, 0, 0)), (4, .getfield 148, 3, 0, (1, 5, 1, 0, 0, 0)), (7, .ifCond .eq 14, 3, 0, (0, 0, 0, 0, 0, 0)), (10, .aload_n 0, 1, 0, (0, 0, 0, 0, 0, 0)), (11, .getfield 34, 3, 0, (5, 0, 9, 2, 1, 0)), (14, .aload_n 1, 1, 0, (0, 0, 0, 0, 0, 0)), (15, .invokevirtual 151, 3, 0, (1, 2, 0, 0, 1, 0)), (18, .goto 11, 3, 0, (0, 0, 0, 0, 0, 0)), (21, .aload_n 0, 1, 0, (0, 0, 0, 0, 0, 0)), (22, .getfield 43, 3, 0, (5, 2, 11, 2, 1, 0)), (25, .aload_n 1, 1, 0, (0, 0, 0, 0, 0, 0)), (26, .invokevirtual 154, 3, 0, (0, 2, 0, 0, 1, 0)), (29, .return_, 1, 0, (0, 0, 0, 0, 0, 0))]
set_option maxRecDepth 100000 in
theorem rk65 : R65.all (rok 0 65 0 [(123, [11, 13]), (78, [9, 13])]) = true := by decide +kernel
set_option maxRecDepth 100000 in
theorem tab65 {F123 : PM → Nat → PM} {G123 : PM → Nat → Prop} {F78 : PM → Nat → PM} {G78 : PM → Nat → Prop} : TabOK 0 65 0 [CC123 F123 G123, CC78 F78 G78] R65 := tab_ok (K := K65) rfl rfl (fun h => d65 h) rk65 (by decide +kernel)
set_option maxRecDepth 100000 in
theorem pc65 : cutpc [] R65 = true := by decide +kernel
set_option maxRecDepth 100000 in
theorem r5_place (F123 : PM → Nat → PM) (G123 : PM → Nat → Prop) (o123 : CalOK 0 (CC123 F123 G123)) (F78 : PM → Nat → PM) (G78 : PM → Nat → Prop) (o78 : CalOK 0 (CC78 F78 G78)) : ∀ (p : PM) (v1 : Nat), Gr 0 p → bg5_place F78 G78 F123 G123 p v1 → ZJ 0 65 0 [zR 5 1, zR 10 v1] [] p (hwV (bv5_place F78 F123 p v1)) := by
  intro p v1  hg H
  exact rwV (n := 3000) (q := 0) (la := [zR 5 1, zR 10 v1]) (sa := []) (ks := []) (gs := []) (fcons o123 (fcons o78 (fnil))) tab65 pc65 trivial hg H
theorem t5_place : ∀ (p : PM) (v1 : Nat), Gr 0 p → g5_place p v1 → ZJ 0 65 0 [zR 5 1, zR 10 v1] [] p (hwV (v5_place p v1)) := r5_place v8_match g8_match ok123 v6_stand g6_stand ok78
def CC65 (F : PM → Nat → PM) (G : PM → Nat → Prop) : Cal := (65, [8, 13], 0, false, fun as p => (zJ, (F p (ar as 1))), fun as p => zsw (tc2 as [(105, 1), (14, 0)]) False (G p (ar as 1)))
set_option maxRecDepth 100000 in
theorem okr65 (F : PM → Nat → PM) (G : PM → Nat → Prop) (h : ∀ (p : PM) (v1 : Nat), Gr 0 p → G p v1 → ZJ 0 65 0 [zR 5 1, zR 10 v1] [] p (hwV (F p v1))) : CalOK 0 (CC65 F G) := cal_ok (m := 2) (by unfold mL; rw [mX_65]) (fun as p hg H => h p (ar as 1) hg H)
theorem ok65 : CalOK 0 (CC65 v5_place g5_place) := okr65 v5_place g5_place t5_place
noncomputable def bv5_tellLimit (F65 : PM → Nat → PM) (F74 : PM → Int32 → Nat) (F77 : PM → Nat → Nat → Int32 → Int32 → Int32 → Nat × PM) (F105 : PM → Int32 → Nat) (F122 : PM → Nat → Int64) (p : PM) (v1 : Int32) (v2 : Int32) (v3 : Int32) (v4 : Int32) (v5 : Int32) (v6 : Int32) : Int32 × PM :=
  if v6 = (cn (-100000)) then (
    let r5 : Nat × PM := F77 p (F105 p v1) (F74 p v2) v3 v4 (cn (-100000))
    if r5.1 = 0 then (
      ((cn (-100000)), r5.2))
    else (
      if 0 < v5 then (
        if (lg_cmp (F122 r5.2 r5.1) (v5).toInt64) < 0 then (
          let p8 : PM := pI r5.2 10 r5.1 2 (cn 0)
          ((p8.1 10 r5.1 0), p8))
        else (
          let p7 : PM := F65 r5.2 r5.1
          ((p7.1 10 r5.1 0), p7)))
      else (
        let p6 : PM := F65 r5.2 r5.1
        ((p6.1 10 r5.1 0), p6))))
  else (
    let r1 : Nat × PM := F77 p (F105 p v1) (F74 p v2) v3 v4 ((p.1 6 1 3) + v6)
    if r1.1 = 0 then (
      ((cn (-100000)), r1.2))
    else (
      if 0 < v5 then (
        if (lg_cmp (F122 r1.2 r1.1) (v5).toInt64) < 0 then (
          let p4 : PM := pI r1.2 10 r1.1 2 (cn 0)
          ((p4.1 10 r1.1 0), p4))
        else (
          let p3 : PM := F65 r1.2 r1.1
          ((p3.1 10 r1.1 0), p3)))
      else (
        let p2 : PM := F65 r1.2 r1.1
        ((p2.1 10 r1.1 0), p2))))
noncomputable def v5_tellLimit (p : PM) (v1 : Int32) (v2 : Int32) (v3 : Int32) (v4 : Int32) (v5 : Int32) (v6 : Int32) : Int32 × PM := bv5_tellLimit v5_place v6_bookAt v6_draw v7_accountAt v8_reachable p v1 v2 v3 v4 v5 v6
noncomputable def bg5_tellLimit (F65 : PM → Nat → PM) (G65 : PM → Nat → Prop) (F74 : PM → Int32 → Nat) (G74 : PM → Int32 → Prop) (F77 : PM → Nat → Nat → Int32 → Int32 → Int32 → Nat × PM) (G77 : PM → Nat → Nat → Int32 → Int32 → Int32 → Prop) (F105 : PM → Int32 → Nat) (G105 : PM → Int32 → Prop) (F122 : PM → Nat → Int64) (G122 : PM → Nat → Prop) (p : PM) (v1 : Int32) (v2 : Int32) (v3 : Int32) (v4 : Int32) (v5 : Int32) (v6 : Int32) : Prop :=
  if v6 = (cn (-100000)) then (
    (G105 p v1) ∧ (
    (G74 p v2) ∧ (
    (G77 p (F105 p v1) (F74 p v2) v3 v4 (cn (-100000))) ∧ (
    let r5 : Nat × PM := F77 p (F105 p v1) (F74 p v2) v3 v4 (cn (-100000))
    if r5.1 = 0 then (
      True)
    else (
      if 0 < v5 then (
        (G122 r5.2 r5.1) ∧ (
        if (lg_cmp (F122 r5.2 r5.1) (v5).toInt64) < 0 then (
          (¬ r5.1 = 0) ∧ (
          let p8 : PM := pI r5.2 10 r5.1 2 (cn 0)
          (¬ r5.1 = 0) ∧ (
          True)))
        else (
          (G65 r5.2 r5.1) ∧ (
          let p7 : PM := F65 r5.2 r5.1
          (¬ r5.1 = 0) ∧ (
          True)))))
      else (
        (G65 r5.2 r5.1) ∧ (
        let p6 : PM := F65 r5.2 r5.1
        (¬ r5.1 = 0) ∧ (
        True))))))))
  else (
    (G105 p v1) ∧ (
    (G74 p v2) ∧ (
    (G77 p (F105 p v1) (F74 p v2) v3 v4 ((p.1 6 1 3) + v6)) ∧ (
    let r1 : Nat × PM := F77 p (F105 p v1) (F74 p v2) v3 v4 ((p.1 6 1 3) + v6)
    if r1.1 = 0 then (
      True)
    else (
      if 0 < v5 then (
        (G122 r1.2 r1.1) ∧ (
        if (lg_cmp (F122 r1.2 r1.1) (v5).toInt64) < 0 then (
          (¬ r1.1 = 0) ∧ (
          let p4 : PM := pI r1.2 10 r1.1 2 (cn 0)
          (¬ r1.1 = 0) ∧ (
          True)))
        else (
          (G65 r1.2 r1.1) ∧ (
          let p3 : PM := F65 r1.2 r1.1
          (¬ r1.1 = 0) ∧ (
          True)))))
      else (
        (G65 r1.2 r1.1) ∧ (
        let p2 : PM := F65 r1.2 r1.1
        (¬ r1.1 = 0) ∧ (
        True))))))))
noncomputable def g5_tellLimit (p : PM) (v1 : Int32) (v2 : Int32) (v3 : Int32) (v4 : Int32) (v5 : Int32) (v6 : Int32) : Prop := bg5_tellLimit v5_place g5_place v6_bookAt g6_bookAt v6_draw g6_draw v7_accountAt g7_accountAt v8_reachable g8_reachable p v1 v2 v3 v4 v5 v6
def R59 : List Row := [(0, .iload 6, 2, 0, (0, 0, 0, 0, 0, 0)), (2, .ldc 95, 2, 0, (0, 0, 0, 0, 0, -100000)), (4, .if_icmp .ne 8, 3, 0, (0, 0, 0, 0, 0, 0)), (7, .ldc 95, 2, 0, (0, 0, 0, 0, 0, -100000)), (9, .goto 13, 3, 0, (0, 0, 0, 0, 0, 0)), (12, .aload_n 0, 1, 0, (0, 0, 0, 0, 0, 0)), (13, .getfield 34, 3, 0, (5, 0, 9, 2, 1, 0)), (16, .getfield 96, 3, 0, (6, 3, 0, 1, 0, 0)), (19, .iload 6, 2, 0, (0, 0, 0, 0, 0, 0)), (21, .iadd, 1, 0, (0, 0, 0, 0, 0, 0)), (22, .istore 7, 2, 0, (0, 0, 0, 0, 0, 0)), (24, .aload_n 0, 1, 0, (0, 0, 0, 0, 0, 0)), (25, .getfield 34, 3, 0, (5, 0, 9, 2, 1, 0)), (28, .aload_n 0, 1, 0, (0, 0, 0, 0, 0, 0)), (29, .getfield 19, 3, 0, (5, 1, 10, 2, 1, 0)), (32, .iload_n 1, 1, 0, (0, 0, 0, 0, 0, 0)), (33, .invokevirtual 27, 3, 0, (0, 2, 0, 0, 1, 0)), (36, .aload_n 0, 1, 0, (0, 0, 0, 0, 0, 0)), (37, .getfield 34, 3, 0, (5, 0, 9, 2, 1, 0)), (40, .iload_n 2, 1, 0, (0, 0, 0, 0, 0, 0)), (41, .invokevirtual 87, 3, 0, (1, 2, 0, 0, 1, 0)), (44, .iload_n 3, 1, 0, (0, 0, 0, 0, 0, 0)), (45, .iload 4, 2, 0, (0, 0, 0, 0, 0, 0)), (47, .iload 7, 2, 0, (0, 0, 0, 0, 0, 0)), (49, .invokevirtual 99, 3, 0, (2, 6, 0, 0, 1, 0)), (52, .astore 8, 2, 0, (0, 0, 0, 0, 0, 0)), (54, .aload 8, 2, 0, (0, 0, 0, 0, 0, 0)), (56, .ifnonnull 6, 3, 0, (0, 0, 0, 0, 0, 0)), (59, .ldc 95, 2, 0, (0, 0, 0, 0, 0, -100000)), (61, .ireturn, 1, 0, (0, 0, 0, 0, 0, 0)), (62, .iload 5, 2, 0, (0, 0, 0, 0, 0, 0)), (64, .ifCond .le 28, 3, 0, (0, 0, 0, 0, 0, 0)), (67, .aload_n 0, 1, 0, (0, 0, 0, 0, 0, 0)), (68, .getfield 43, 3, 0, (5, 2, 11, 2, 1, 0)), (71, .aload 8, 2, 0, (0, 0, 0, 0, 0, 0)), (73, .invokevirtual 103, 3, 0, (4, 2, 0, 0, 1, 0)), (76, .iload 5, 2, 0, (0, 0, 0, 0, 0, 0)), (78, .i2l, 1, 0, (0, 0, 0, 0, 0, 0)), (79, .lcmp, 1, 0, (0, 0, 0, 0, 0, 0)), (80, .ifCond .ge 12, 3, 0, (0, 0, 0, 0, 0, 0)), (83, .aload 8, 2, 0, (0, 0, 0, 0, 0, 0)), (85, .iconst 0, 1, 0, (0, 0, 0, 0, 0, 0)), (86, .putfield 107, 3, 0, (10, 2, 0, 0, 0, 0)), (89, .goto 9, 3, 0, (0, 0, 0, 0, 0, 0)), (92, .aload_n 0, 1, 0, (0, 0, 0, 0, 0, 0)), (93, .aload 8, 2, 0, (0, 0, 0, 0, 0, 0)), (95, .invokevirtual 112, 3, 0, (3, 2, 0, 0, 1, 0)), (98, .aload 8, 2, 0, (0, 0, 0, 0, 0, 0)), (100, .getfield 116, 3, 0, (10, 0, 0, 0, 0, 0)), (103, .ireturn, 1, 0, (0, 0, 0, 0, 0, 0))]
set_option maxRecDepth 100000 in
theorem rk59 : R59.all (rok 0 59 1 [(105, [10, 0]), (74, [9, 0]), (77, [9, 3, 4, 0, 0, 0]), (65, [8, 13]), (122, [11, 13])]) = true := by decide +kernel
set_option maxRecDepth 100000 in
theorem tab59 {F105 : PM → Int32 → Nat} {G105 : PM → Int32 → Prop} {F74 : PM → Int32 → Nat} {G74 : PM → Int32 → Prop} {F77 : PM → Nat → Nat → Int32 → Int32 → Int32 → Nat × PM} {G77 : PM → Nat → Nat → Int32 → Int32 → Int32 → Prop} {F65 : PM → Nat → PM} {G65 : PM → Nat → Prop} {F122 : PM → Nat → Int64} {G122 : PM → Nat → Prop} : TabOK 0 59 1 [CC105 F105 G105, CC74 F74 G74, CC77 F77 G77, CC65 F65 G65, CC122 F122 G122] R59 := tab_ok (K := K59) rfl rfl (fun h => d59 h) rk59 (by decide +kernel)
set_option maxRecDepth 100000 in
theorem pc59 : cutpc [] R59 = true := by decide +kernel
set_option maxRecDepth 100000 in
theorem r5_tellLimit (F105 : PM → Int32 → Nat) (G105 : PM → Int32 → Prop) (o105 : CalOK 0 (CC105 F105 G105)) (F74 : PM → Int32 → Nat) (G74 : PM → Int32 → Prop) (o74 : CalOK 0 (CC74 F74 G74)) (F77 : PM → Nat → Nat → Int32 → Int32 → Int32 → Nat × PM) (G77 : PM → Nat → Nat → Int32 → Int32 → Int32 → Prop) (o77 : CalOK 0 (CC77 F77 G77)) (F65 : PM → Nat → PM) (G65 : PM → Nat → Prop) (o65 : CalOK 0 (CC65 F65 G65)) (F122 : PM → Nat → Int64) (G122 : PM → Nat → Prop) (o122 : CalOK 0 (CC122 F122 G122)) : ∀ (p : PM) (v1 : Int32) (v2 : Int32) (v3 : Int32) (v4 : Int32) (v5 : Int32) (v6 : Int32), Gr 0 p → bg5_tellLimit F65 G65 F74 G74 F77 G77 F105 G105 F122 G122 p v1 v2 v3 v4 v5 v6 → ZJ 0 59 0 [zR 5 1, zI v1, zI v2, zI v3, zI v4, zI v5, zI v6, zJ, zJ] [] p (hwI (bv5_tellLimit F65 F74 F77 F105 F122 p v1 v2 v3 v4 v5 v6)) := by
  intro p v1 v2 v3 v4 v5 v6  hg H
  exact rwI (n := 3000) (q := 0) (la := [zR 5 1, zI v1, zI v2, zI v3, zI v4, zI v5, zI v6, zJ, zJ]) (sa := []) (ks := []) (gs := []) (fcons o105 (fcons o74 (fcons o77 (fcons o65 (fcons o122 (fnil)))))) tab59 pc59 trivial hg H
theorem t5_tellLimit : ∀ (p : PM) (v1 : Int32) (v2 : Int32) (v3 : Int32) (v4 : Int32) (v5 : Int32) (v6 : Int32), Gr 0 p → g5_tellLimit p v1 v2 v3 v4 v5 v6 → ZJ 0 59 0 [zR 5 1, zI v1, zI v2, zI v3, zI v4, zI v5, zI v6, zJ, zJ] [] p (hwI (v5_tellLimit p v1 v2 v3 v4 v5 v6)) := r5_tellLimit v7_accountAt g7_accountAt ok105 v6_bookAt g6_bookAt ok74 v6_draw g6_draw ok77 v5_place g5_place ok65 v8_reachable g8_reachable ok122
def CC59 (F : PM → Int32 → Int32 → Int32 → Int32 → Int32 → Int32 → Int32 × PM) (G : PM → Int32 → Int32 → Int32 → Int32 → Int32 → Int32 → Prop) : Cal := (59, [8, 0, 0, 0, 0, 0, 0], 1, false, fun as p => (zI (F p (ai as 1) (ai as 2) (ai as 3) (ai as 4) (ai as 5) (ai as 6)).1, (F p (ai as 1) (ai as 2) (ai as 3) (ai as 4) (ai as 5) (ai as 6)).2), fun as p => zsw (tc2 as [(105, 1), (0, 0), (0, 0), (0, 0), (0, 0), (0, 0), (0, 0)]) False (G p (ai as 1) (ai as 2) (ai as 3) (ai as 4) (ai as 5) (ai as 6)))
set_option maxRecDepth 100000 in
theorem okr59 (F : PM → Int32 → Int32 → Int32 → Int32 → Int32 → Int32 → Int32 × PM) (G : PM → Int32 → Int32 → Int32 → Int32 → Int32 → Int32 → Prop) (h : ∀ (p : PM) (v1 : Int32) (v2 : Int32) (v3 : Int32) (v4 : Int32) (v5 : Int32) (v6 : Int32), Gr 0 p → G p v1 v2 v3 v4 v5 v6 → ZJ 0 59 0 [zR 5 1, zI v1, zI v2, zI v3, zI v4, zI v5, zI v6, zJ, zJ] [] p (hwI (F p v1 v2 v3 v4 v5 v6))) : CalOK 0 (CC59 F G) := cal_ok (m := 9) (by unfold mL; rw [mX_59]) (fun as p hg H => h p (ai as 1) (ai as 2) (ai as 3) (ai as 4) (ai as 5) (ai as 6) hg H)
theorem ok59 : CalOK 0 (CC59 v5_tellLimit g5_tellLimit) := okr59 v5_tellLimit g5_tellLimit t5_tellLimit
noncomputable def bv5_tellMarket (F65 : PM → Nat → PM) (F74 : PM → Int32 → Nat) (F77 : PM → Nat → Nat → Int32 → Int32 → Int32 → Nat × PM) (F105 : PM → Int32 → Nat) (p : PM) (v1 : Int32) (v2 : Int32) (v3 : Int32) : Int32 × PM :=
  let r1 : Nat × PM := F77 p (F105 p v1) (F74 p v2) (cn (-100000)) v3 (p.1 6 1 3)
  if r1.1 = 0 then (
    ((cn (-100000)), r1.2))
  else (
    let p2 : PM := F65 r1.2 r1.1
    ((p2.1 10 r1.1 0), p2))
noncomputable def v5_tellMarket (p : PM) (v1 : Int32) (v2 : Int32) (v3 : Int32) : Int32 × PM := bv5_tellMarket v5_place v6_bookAt v6_draw v7_accountAt p v1 v2 v3
noncomputable def bg5_tellMarket (F65 : PM → Nat → PM) (G65 : PM → Nat → Prop) (F74 : PM → Int32 → Nat) (G74 : PM → Int32 → Prop) (F77 : PM → Nat → Nat → Int32 → Int32 → Int32 → Nat × PM) (G77 : PM → Nat → Nat → Int32 → Int32 → Int32 → Prop) (F105 : PM → Int32 → Nat) (G105 : PM → Int32 → Prop) (p : PM) (v1 : Int32) (v2 : Int32) (v3 : Int32) : Prop :=
  (G105 p v1) ∧ (
  (G74 p v2) ∧ (
  (G77 p (F105 p v1) (F74 p v2) (cn (-100000)) v3 (p.1 6 1 3)) ∧ (
  let r1 : Nat × PM := F77 p (F105 p v1) (F74 p v2) (cn (-100000)) v3 (p.1 6 1 3)
  if r1.1 = 0 then (
    True)
  else (
    (G65 r1.2 r1.1) ∧ (
    let p2 : PM := F65 r1.2 r1.1
    (¬ r1.1 = 0) ∧ (
    True))))))
noncomputable def g5_tellMarket (p : PM) (v1 : Int32) (v2 : Int32) (v3 : Int32) : Prop := bg5_tellMarket v5_place g5_place v6_bookAt g6_bookAt v6_draw g6_draw v7_accountAt g7_accountAt p v1 v2 v3
def R60 : List Row := [(0, .aload_n 0, 1, 0, (0, 0, 0, 0, 0, 0)), (1, .getfield 34, 3, 0, (5, 0, 9, 2, 1, 0)), (4, .aload_n 0, 1, 0, (0, 0, 0, 0, 0, 0)), (5, .getfield 19, 3, 0, (5, 1, 10, 2, 1, 0)), (8, .iload_n 1, 1, 0, (0, 0, 0, 0, 0, 0)), (9, .invokevirtual 27, 3, 0, (0, 2, 0, 0, 1, 0)), (12, .aload_n 0, 1, 0, (0, 0, 0, 0, 0, 0)), (13, .getfield 34, 3, 0, (5, 0, 9, 2, 1, 0)), (16, .iload_n 2, 1, 0, (0, 0, 0, 0, 0, 0)), (17, .invokevirtual 87, 3, 0, (1, 2, 0, 0, 1, 0)), (20, .ldc 95, 2, 0, (0, 0, 0, 0, 0, -100000)), (22, .iload_n 3, 1, 0, (0, 0, 0, 0, 0, 0)), (23, .aload_n 0, 1, 0, (0, 0, 0, 0, 0, 0)), (24, .getfield 34, 3, 0, (5, 0, 9, 2, 1, 0)), (27, .getfield 96, 3, 0, (6, 3, 0, 1, 0, 0)), (30, .invokevirtual 99, 3, 0, (2, 6, 0, 0, 1, 0)), (33, .astore 4, 2, 0, (0, 0, 0, 0, 0, 0)), (35, .aload 4, 2, 0, (0, 0, 0, 0, 0, 0)), (37, .ifnonnull 6, 3, 0, (0, 0, 0, 0, 0, 0)), (40, .ldc 95, 2, 0, (0, 0, 0, 0, 0, -100000)), (42, .ireturn, 1, 0, (0, 0, 0, 0, 0, 0)), (43, .aload_n 0, 1, 0, (0, 0, 0, 0, 0, 0)), (44, .aload 4, 2, 0, (0, 0, 0, 0, 0, 0)), (46, .invokevirtual 112, 3, 0, (3, 2, 0, 0, 1, 0)), (49, .aload 4, 2, 0, (0, 0, 0, 0, 0, 0)), (51, .getfield 116, 3, 0, (10, 0, 0, 0, 0, 0)), (54, .ireturn, 1, 0, (0, 0, 0, 0, 0, 0))]
set_option maxRecDepth 100000 in
theorem rk60 : R60.all (rok 0 60 1 [(105, [10, 0]), (74, [9, 0]), (77, [9, 3, 4, 0, 0, 0]), (65, [8, 13])]) = true := by decide +kernel
set_option maxRecDepth 100000 in
theorem tab60 {F105 : PM → Int32 → Nat} {G105 : PM → Int32 → Prop} {F74 : PM → Int32 → Nat} {G74 : PM → Int32 → Prop} {F77 : PM → Nat → Nat → Int32 → Int32 → Int32 → Nat × PM} {G77 : PM → Nat → Nat → Int32 → Int32 → Int32 → Prop} {F65 : PM → Nat → PM} {G65 : PM → Nat → Prop} : TabOK 0 60 1 [CC105 F105 G105, CC74 F74 G74, CC77 F77 G77, CC65 F65 G65] R60 := tab_ok (K := K60) rfl rfl (fun h => d60 h) rk60 (by decide +kernel)
set_option maxRecDepth 100000 in
theorem pc60 : cutpc [] R60 = true := by decide +kernel
set_option maxRecDepth 100000 in
theorem r5_tellMarket (F105 : PM → Int32 → Nat) (G105 : PM → Int32 → Prop) (o105 : CalOK 0 (CC105 F105 G105)) (F74 : PM → Int32 → Nat) (G74 : PM → Int32 → Prop) (o74 : CalOK 0 (CC74 F74 G74)) (F77 : PM → Nat → Nat → Int32 → Int32 → Int32 → Nat × PM) (G77 : PM → Nat → Nat → Int32 → Int32 → Int32 → Prop) (o77 : CalOK 0 (CC77 F77 G77)) (F65 : PM → Nat → PM) (G65 : PM → Nat → Prop) (o65 : CalOK 0 (CC65 F65 G65)) : ∀ (p : PM) (v1 : Int32) (v2 : Int32) (v3 : Int32), Gr 0 p → bg5_tellMarket F65 G65 F74 G74 F77 G77 F105 G105 p v1 v2 v3 → ZJ 0 60 0 [zR 5 1, zI v1, zI v2, zI v3, zJ] [] p (hwI (bv5_tellMarket F65 F74 F77 F105 p v1 v2 v3)) := by
  intro p v1 v2 v3  hg H
  exact rwI (n := 3000) (q := 0) (la := [zR 5 1, zI v1, zI v2, zI v3, zJ]) (sa := []) (ks := []) (gs := []) (fcons o105 (fcons o74 (fcons o77 (fcons o65 (fnil))))) tab60 pc60 trivial hg H
theorem t5_tellMarket : ∀ (p : PM) (v1 : Int32) (v2 : Int32) (v3 : Int32), Gr 0 p → g5_tellMarket p v1 v2 v3 → ZJ 0 60 0 [zR 5 1, zI v1, zI v2, zI v3, zJ] [] p (hwI (v5_tellMarket p v1 v2 v3)) := r5_tellMarket v7_accountAt g7_accountAt ok105 v6_bookAt g6_bookAt ok74 v6_draw g6_draw ok77 v5_place g5_place ok65
def CC60 (F : PM → Int32 → Int32 → Int32 → Int32 × PM) (G : PM → Int32 → Int32 → Int32 → Prop) : Cal := (60, [8, 0, 0, 0], 1, false, fun as p => (zI (F p (ai as 1) (ai as 2) (ai as 3)).1, (F p (ai as 1) (ai as 2) (ai as 3)).2), fun as p => zsw (tc2 as [(105, 1), (0, 0), (0, 0), (0, 0)]) False (G p (ai as 1) (ai as 2) (ai as 3)))
set_option maxRecDepth 100000 in
theorem okr60 (F : PM → Int32 → Int32 → Int32 → Int32 × PM) (G : PM → Int32 → Int32 → Int32 → Prop) (h : ∀ (p : PM) (v1 : Int32) (v2 : Int32) (v3 : Int32), Gr 0 p → G p v1 v2 v3 → ZJ 0 60 0 [zR 5 1, zI v1, zI v2, zI v3, zJ] [] p (hwI (F p v1 v2 v3))) : CalOK 0 (CC60 F G) := cal_ok (m := 5) (by unfold mL; rw [mX_60]) (fun as p hg H => h p (ai as 1) (ai as 2) (ai as 3) hg H)
theorem ok60 : CalOK 0 (CC60 v5_tellMarket g5_tellMarket) := okr60 v5_tellMarket g5_tellMarket t5_tellMarket
noncomputable def bv5_tellIceberg (F65 : PM → Nat → PM) (F74 : PM → Int32 → Nat) (F77 : PM → Nat → Nat → Int32 → Int32 → Int32 → Nat × PM) (F105 : PM → Int32 → Nat) (p : PM) (v1 : Int32) (v2 : Int32) (v3 : Int32) (v4 : Int32) (v5 : Int32) : Int32 × PM :=
  let r1 : Nat × PM := F77 p (F105 p v1) (F74 p v2) v3 v4 (p.1 6 1 3)
  if r1.1 = 0 then (
    ((cn (-100000)), r1.2))
  else (
    let p2 : PM := pI r1.2 10 r1.1 10 v5
    let p3 : PM := F65 p2 r1.1
    ((p3.1 10 r1.1 0), p3))
noncomputable def v5_tellIceberg (p : PM) (v1 : Int32) (v2 : Int32) (v3 : Int32) (v4 : Int32) (v5 : Int32) : Int32 × PM := bv5_tellIceberg v5_place v6_bookAt v6_draw v7_accountAt p v1 v2 v3 v4 v5
noncomputable def bg5_tellIceberg (F65 : PM → Nat → PM) (G65 : PM → Nat → Prop) (F74 : PM → Int32 → Nat) (G74 : PM → Int32 → Prop) (F77 : PM → Nat → Nat → Int32 → Int32 → Int32 → Nat × PM) (G77 : PM → Nat → Nat → Int32 → Int32 → Int32 → Prop) (F105 : PM → Int32 → Nat) (G105 : PM → Int32 → Prop) (p : PM) (v1 : Int32) (v2 : Int32) (v3 : Int32) (v4 : Int32) (v5 : Int32) : Prop :=
  (G105 p v1) ∧ (
  (G74 p v2) ∧ (
  (G77 p (F105 p v1) (F74 p v2) v3 v4 (p.1 6 1 3)) ∧ (
  let r1 : Nat × PM := F77 p (F105 p v1) (F74 p v2) v3 v4 (p.1 6 1 3)
  if r1.1 = 0 then (
    True)
  else (
    (¬ r1.1 = 0) ∧ (
    let p2 : PM := pI r1.2 10 r1.1 10 v5
    (G65 p2 r1.1) ∧ (
    let p3 : PM := F65 p2 r1.1
    (¬ r1.1 = 0) ∧ (
    True)))))))
noncomputable def g5_tellIceberg (p : PM) (v1 : Int32) (v2 : Int32) (v3 : Int32) (v4 : Int32) (v5 : Int32) : Prop := bg5_tellIceberg v5_place g5_place v6_bookAt g6_bookAt v6_draw g6_draw v7_accountAt g7_accountAt p v1 v2 v3 v4 v5
def R61 : List Row := [(0, .aload_n 0, 1, 0, (0, 0, 0, 0, 0, 0)), (1, .getfield 34, 3, 0, (5, 0, 9, 2, 1, 0)), (4, .aload_n 0, 1, 0, (0, 0, 0, 0, 0, 0)), (5, .getfield 19, 3, 0, (5, 1, 10, 2, 1, 0)), (8, .iload_n 1, 1, 0, (0, 0, 0, 0, 0, 0)), (9, .invokevirtual 27, 3, 0, (0, 2, 0, 0, 1, 0)), (12, .aload_n 0, 1, 0, (0, 0, 0, 0, 0, 0)), (13, .getfield 34, 3, 0, (5, 0, 9, 2, 1, 0)), (16, .iload_n 2, 1, 0, (0, 0, 0, 0, 0, 0)), (17, .invokevirtual 87, 3, 0, (1, 2, 0, 0, 1, 0)), (20, .iload_n 3, 1, 0, (0, 0, 0, 0, 0, 0)), (21, .iload 4, 2, 0, (0, 0, 0, 0, 0, 0)), (23, .aload_n 0, 1, 0, (0, 0, 0, 0, 0, 0)), (24, .getfield 34, 3, 0, (5, 0, 9, 2, 1, 0)), (27, .getfield 96, 3, 0, (6, 3, 0, 1, 0, 0)), (30, .invokevirtual 99, 3, 0, (2, 6, 0, 0, 1, 0)), (33, .astore 6, 2, 0, (0, 0, 0, 0, 0, 0)), (35, .aload 6, 2, 0, (0, 0, 0, 0, 0, 0)), (37, .ifnonnull 6, 3, 0, (0, 0, 0, 0, 0, 0)), (40, .ldc 95, 2, 0, (0, 0, 0, 0, 0, -100000)), (42, .ireturn, 1, 0, (0, 0, 0, 0, 0, 0)), (43, .aload 6, 2, 0, (0, 0, 0, 0, 0, 0)), (45, .iload 5, 2, 0, (0, 0, 0, 0, 0, 0)), (47, .putfield 119, 3, 0, (10, 10, 0, 0, 0, 0)), (50, .aload_n 0, 1, 0, (0, 0, 0, 0, 0, 0)), (51, .aload 6, 2, 0, (0, 0, 0, 0, 0, 0)), (53, .invokevirtual 112, 3, 0, (3, 2, 0, 0, 1, 0)), (56, .aload 6, 2, 0, (0, 0, 0, 0, 0, 0)), (58, .getfield 116, 3, 0, (10, 0, 0, 0, 0, 0)), (61, .ireturn, 1, 0, (0, 0, 0, 0, 0, 0))]
set_option maxRecDepth 100000 in
theorem rk61 : R61.all (rok 0 61 1 [(105, [10, 0]), (74, [9, 0]), (77, [9, 3, 4, 0, 0, 0]), (65, [8, 13])]) = true := by decide +kernel
set_option maxRecDepth 100000 in
theorem tab61 {F105 : PM → Int32 → Nat} {G105 : PM → Int32 → Prop} {F74 : PM → Int32 → Nat} {G74 : PM → Int32 → Prop} {F77 : PM → Nat → Nat → Int32 → Int32 → Int32 → Nat × PM} {G77 : PM → Nat → Nat → Int32 → Int32 → Int32 → Prop} {F65 : PM → Nat → PM} {G65 : PM → Nat → Prop} : TabOK 0 61 1 [CC105 F105 G105, CC74 F74 G74, CC77 F77 G77, CC65 F65 G65] R61 := tab_ok (K := K61) rfl rfl (fun h => d61 h) rk61 (by decide +kernel)
set_option maxRecDepth 100000 in
theorem pc61 : cutpc [] R61 = true := by decide +kernel
set_option maxRecDepth 100000 in
theorem r5_tellIceberg (F105 : PM → Int32 → Nat) (G105 : PM → Int32 → Prop) (o105 : CalOK 0 (CC105 F105 G105)) (F74 : PM → Int32 → Nat) (G74 : PM → Int32 → Prop) (o74 : CalOK 0 (CC74 F74 G74)) (F77 : PM → Nat → Nat → Int32 → Int32 → Int32 → Nat × PM) (G77 : PM → Nat → Nat → Int32 → Int32 → Int32 → Prop) (o77 : CalOK 0 (CC77 F77 G77)) (F65 : PM → Nat → PM) (G65 : PM → Nat → Prop) (o65 : CalOK 0 (CC65 F65 G65)) : ∀ (p : PM) (v1 : Int32) (v2 : Int32) (v3 : Int32) (v4 : Int32) (v5 : Int32), Gr 0 p → bg5_tellIceberg F65 G65 F74 G74 F77 G77 F105 G105 p v1 v2 v3 v4 v5 → ZJ 0 61 0 [zR 5 1, zI v1, zI v2, zI v3, zI v4, zI v5, zJ] [] p (hwI (bv5_tellIceberg F65 F74 F77 F105 p v1 v2 v3 v4 v5)) := by
  intro p v1 v2 v3 v4 v5  hg H
  exact rwI (n := 3000) (q := 0) (la := [zR 5 1, zI v1, zI v2, zI v3, zI v4, zI v5, zJ]) (sa := []) (ks := []) (gs := []) (fcons o105 (fcons o74 (fcons o77 (fcons o65 (fnil))))) tab61 pc61 trivial hg H
theorem t5_tellIceberg : ∀ (p : PM) (v1 : Int32) (v2 : Int32) (v3 : Int32) (v4 : Int32) (v5 : Int32), Gr 0 p → g5_tellIceberg p v1 v2 v3 v4 v5 → ZJ 0 61 0 [zR 5 1, zI v1, zI v2, zI v3, zI v4, zI v5, zJ] [] p (hwI (v5_tellIceberg p v1 v2 v3 v4 v5)) := r5_tellIceberg v7_accountAt g7_accountAt ok105 v6_bookAt g6_bookAt ok74 v6_draw g6_draw ok77 v5_place g5_place ok65
def CC61 (F : PM → Int32 → Int32 → Int32 → Int32 → Int32 → Int32 × PM) (G : PM → Int32 → Int32 → Int32 → Int32 → Int32 → Prop) : Cal := (61, [8, 0, 0, 0, 0, 0], 1, false, fun as p => (zI (F p (ai as 1) (ai as 2) (ai as 3) (ai as 4) (ai as 5)).1, (F p (ai as 1) (ai as 2) (ai as 3) (ai as 4) (ai as 5)).2), fun as p => zsw (tc2 as [(105, 1), (0, 0), (0, 0), (0, 0), (0, 0), (0, 0)]) False (G p (ai as 1) (ai as 2) (ai as 3) (ai as 4) (ai as 5)))
set_option maxRecDepth 100000 in
theorem okr61 (F : PM → Int32 → Int32 → Int32 → Int32 → Int32 → Int32 × PM) (G : PM → Int32 → Int32 → Int32 → Int32 → Int32 → Prop) (h : ∀ (p : PM) (v1 : Int32) (v2 : Int32) (v3 : Int32) (v4 : Int32) (v5 : Int32), Gr 0 p → G p v1 v2 v3 v4 v5 → ZJ 0 61 0 [zR 5 1, zI v1, zI v2, zI v3, zI v4, zI v5, zJ] [] p (hwI (F p v1 v2 v3 v4 v5))) : CalOK 0 (CC61 F G) := cal_ok (m := 7) (by unfold mL; rw [mX_61]) (fun as p hg H => h p (ai as 1) (ai as 2) (ai as 3) (ai as 4) (ai as 5) hg H)
theorem ok61 : CalOK 0 (CC61 v5_tellIceberg g5_tellIceberg) := okr61 v5_tellIceberg g5_tellIceberg t5_tellIceberg
noncomputable def bv5_tellPeg (F74 : PM → Int32 → Nat) (F77 : PM → Nat → Nat → Int32 → Int32 → Int32 → Nat × PM) (F105 : PM → Int32 → Nat) (p : PM) (v1 : Int32) (v2 : Int32) (v3 : Int32) (v4 : Int32) (v5 : Int32) : Int32 × PM :=
  let r1 : Nat × PM := F77 p (F105 p v1) (F74 p v2) v3 v4 (p.1 6 1 3)
  if r1.1 = 0 then (
    ((cn (-100000)), r1.2))
  else (
    let p2 : PM := pI r1.2 10 r1.1 1 (cn 1)
    let p3 : PM := pI p2 10 r1.1 13 v5
    ((p3.1 10 r1.1 0), p3))
noncomputable def v5_tellPeg (p : PM) (v1 : Int32) (v2 : Int32) (v3 : Int32) (v4 : Int32) (v5 : Int32) : Int32 × PM := bv5_tellPeg v6_bookAt v6_draw v7_accountAt p v1 v2 v3 v4 v5
noncomputable def bg5_tellPeg (F74 : PM → Int32 → Nat) (G74 : PM → Int32 → Prop) (F77 : PM → Nat → Nat → Int32 → Int32 → Int32 → Nat × PM) (G77 : PM → Nat → Nat → Int32 → Int32 → Int32 → Prop) (F105 : PM → Int32 → Nat) (G105 : PM → Int32 → Prop) (p : PM) (v1 : Int32) (v2 : Int32) (v3 : Int32) (v4 : Int32) (v5 : Int32) : Prop :=
  (G105 p v1) ∧ (
  (G74 p v2) ∧ (
  (G77 p (F105 p v1) (F74 p v2) v3 v4 (p.1 6 1 3)) ∧ (
  let r1 : Nat × PM := F77 p (F105 p v1) (F74 p v2) v3 v4 (p.1 6 1 3)
  if r1.1 = 0 then (
    True)
  else (
    (¬ r1.1 = 0) ∧ (
    let p2 : PM := pI r1.2 10 r1.1 1 (cn 1)
    (¬ r1.1 = 0) ∧ (
    let p3 : PM := pI p2 10 r1.1 13 v5
    (¬ r1.1 = 0) ∧ (
    True)))))))
noncomputable def g5_tellPeg (p : PM) (v1 : Int32) (v2 : Int32) (v3 : Int32) (v4 : Int32) (v5 : Int32) : Prop := bg5_tellPeg v6_bookAt g6_bookAt v6_draw g6_draw v7_accountAt g7_accountAt p v1 v2 v3 v4 v5
def R62 : List Row := [(0, .aload_n 0, 1, 0, (0, 0, 0, 0, 0, 0)), (1, .getfield 34, 3, 0, (5, 0, 9, 2, 1, 0)), (4, .aload_n 0, 1, 0, (0, 0, 0, 0, 0, 0)), (5, .getfield 19, 3, 0, (5, 1, 10, 2, 1, 0)), (8, .iload_n 1, 1, 0, (0, 0, 0, 0, 0, 0)), (9, .invokevirtual 27, 3, 0, (0, 2, 0, 0, 1, 0)), (12, .aload_n 0, 1, 0, (0, 0, 0, 0, 0, 0)), (13, .getfield 34, 3, 0, (5, 0, 9, 2, 1, 0)), (16, .iload_n 2, 1, 0, (0, 0, 0, 0, 0, 0)), (17, .invokevirtual 87, 3, 0, (1, 2, 0, 0, 1, 0)), (20, .iload_n 3, 1, 0, (0, 0, 0, 0, 0, 0)), (21, .iload 4, 2, 0, (0, 0, 0, 0, 0, 0)), (23, .aload_n 0, 1, 0, (0, 0, 0, 0, 0, 0)), (24, .getfield 34, 3, 0, (5, 0, 9, 2, 1, 0)), (27, .getfield 96, 3, 0, (6, 3, 0, 1, 0, 0)), (30, .invokevirtual 99, 3, 0, (2, 6, 0, 0, 1, 0)), (33, .astore 6, 2, 0, (0, 0, 0, 0, 0, 0)), (35, .aload 6, 2, 0, (0, 0, 0, 0, 0, 0)), (37, .ifnonnull 6, 3, 0, (0, 0, 0, 0, 0, 0)), (40, .ldc 95, 2, 0, (0, 0, 0, 0, 0, -100000)), (42, .ireturn, 1, 0, (0, 0, 0, 0, 0, 0)), (43, .aload 6, 2, 0, (0, 0, 0, 0, 0, 0)), (45, .iconst 1, 1, 0, (0, 0, 0, 0, 0, 1)), (46, .putfield 122, 3, 0, (10, 1, 0, 0, 0, 0)), (49, .aload 6, 2, 0, (0, 0, 0, 0, 0, 0)), (51, .iload 5, 2, 0, (0, 0, 0, 0, 0, 0)), (53, .putfield 125, 3, 0, (10, 13, 0, 0, 0, 0)), (56, .aload 6, 2, 0, (0, 0, 0, 0, 0, 0)), (58, .getfield 116, 3, 0, (10, 0, 0, 0, 0, 0)), (61, .ireturn, 1, 0, (0, 0, 0, 0, 0, 0))]
set_option maxRecDepth 100000 in
theorem rk62 : R62.all (rok 0 62 1 [(105, [10, 0]), (74, [9, 0]), (77, [9, 3, 4, 0, 0, 0])]) = true := by decide +kernel
set_option maxRecDepth 100000 in
theorem tab62 {F105 : PM → Int32 → Nat} {G105 : PM → Int32 → Prop} {F74 : PM → Int32 → Nat} {G74 : PM → Int32 → Prop} {F77 : PM → Nat → Nat → Int32 → Int32 → Int32 → Nat × PM} {G77 : PM → Nat → Nat → Int32 → Int32 → Int32 → Prop} : TabOK 0 62 1 [CC105 F105 G105, CC74 F74 G74, CC77 F77 G77] R62 := tab_ok (K := K62) rfl rfl (fun h => d62 h) rk62 (by decide +kernel)
set_option maxRecDepth 100000 in
theorem pc62 : cutpc [] R62 = true := by decide +kernel
set_option maxRecDepth 100000 in
theorem r5_tellPeg (F105 : PM → Int32 → Nat) (G105 : PM → Int32 → Prop) (o105 : CalOK 0 (CC105 F105 G105)) (F74 : PM → Int32 → Nat) (G74 : PM → Int32 → Prop) (o74 : CalOK 0 (CC74 F74 G74)) (F77 : PM → Nat → Nat → Int32 → Int32 → Int32 → Nat × PM) (G77 : PM → Nat → Nat → Int32 → Int32 → Int32 → Prop) (o77 : CalOK 0 (CC77 F77 G77)) : ∀ (p : PM) (v1 : Int32) (v2 : Int32) (v3 : Int32) (v4 : Int32) (v5 : Int32), Gr 0 p → bg5_tellPeg F74 G74 F77 G77 F105 G105 p v1 v2 v3 v4 v5 → ZJ 0 62 0 [zR 5 1, zI v1, zI v2, zI v3, zI v4, zI v5, zJ] [] p (hwI (bv5_tellPeg F74 F77 F105 p v1 v2 v3 v4 v5)) := by
  intro p v1 v2 v3 v4 v5  hg H
  exact rwI (n := 3000) (q := 0) (la := [zR 5 1, zI v1, zI v2, zI v3, zI v4, zI v5, zJ]) (sa := []) (ks := []) (gs := []) (fcons o105 (fcons o74 (fcons o77 (fnil)))) tab62 pc62 trivial hg H
theorem t5_tellPeg : ∀ (p : PM) (v1 : Int32) (v2 : Int32) (v3 : Int32) (v4 : Int32) (v5 : Int32), Gr 0 p → g5_tellPeg p v1 v2 v3 v4 v5 → ZJ 0 62 0 [zR 5 1, zI v1, zI v2, zI v3, zI v4, zI v5, zJ] [] p (hwI (v5_tellPeg p v1 v2 v3 v4 v5)) := r5_tellPeg v7_accountAt g7_accountAt ok105 v6_bookAt g6_bookAt ok74 v6_draw g6_draw ok77
def CC62 (F : PM → Int32 → Int32 → Int32 → Int32 → Int32 → Int32 × PM) (G : PM → Int32 → Int32 → Int32 → Int32 → Int32 → Prop) : Cal := (62, [8, 0, 0, 0, 0, 0], 1, false, fun as p => (zI (F p (ai as 1) (ai as 2) (ai as 3) (ai as 4) (ai as 5)).1, (F p (ai as 1) (ai as 2) (ai as 3) (ai as 4) (ai as 5)).2), fun as p => zsw (tc2 as [(105, 1), (0, 0), (0, 0), (0, 0), (0, 0), (0, 0)]) False (G p (ai as 1) (ai as 2) (ai as 3) (ai as 4) (ai as 5)))
set_option maxRecDepth 100000 in
theorem okr62 (F : PM → Int32 → Int32 → Int32 → Int32 → Int32 → Int32 × PM) (G : PM → Int32 → Int32 → Int32 → Int32 → Int32 → Prop) (h : ∀ (p : PM) (v1 : Int32) (v2 : Int32) (v3 : Int32) (v4 : Int32) (v5 : Int32), Gr 0 p → G p v1 v2 v3 v4 v5 → ZJ 0 62 0 [zR 5 1, zI v1, zI v2, zI v3, zI v4, zI v5, zJ] [] p (hwI (F p v1 v2 v3 v4 v5))) : CalOK 0 (CC62 F G) := cal_ok (m := 7) (by unfold mL; rw [mX_62]) (fun as p hg H => h p (ai as 1) (ai as 2) (ai as 3) (ai as 4) (ai as 5) hg H)
theorem ok62 : CalOK 0 (CC62 v5_tellPeg g5_tellPeg) := okr62 v5_tellPeg g5_tellPeg t5_tellPeg
noncomputable def bv5_tellStop (F74 : PM → Int32 → Nat) (F77 : PM → Nat → Nat → Int32 → Int32 → Int32 → Nat × PM) (F105 : PM → Int32 → Nat) (p : PM) (v1 : Int32) (v2 : Int32) (v3 : Int32) (v4 : Int32) (v5 : Int32) : Int32 × PM :=
  if v4 = 0 then (
    let r4 : Nat × PM := F77 p (F105 p v1) (F74 p v2) (cn (-100000)) v5 (p.1 6 1 3)
    if r4.1 = 0 then (
      ((cn (-100000)), r4.2))
    else (
      let p5 : PM := pI r4.2 10 r4.1 1 (cn 2)
      let p6 : PM := pI p5 10 r4.1 14 v3
      ((p6.1 10 r4.1 0), p6)))
  else (
    let r1 : Nat × PM := F77 p (F105 p v1) (F74 p v2) v4 v5 (p.1 6 1 3)
    if r1.1 = 0 then (
      ((cn (-100000)), r1.2))
    else (
      let p2 : PM := pI r1.2 10 r1.1 1 (cn 2)
      let p3 : PM := pI p2 10 r1.1 14 v3
      ((p3.1 10 r1.1 0), p3)))
noncomputable def v5_tellStop (p : PM) (v1 : Int32) (v2 : Int32) (v3 : Int32) (v4 : Int32) (v5 : Int32) : Int32 × PM := bv5_tellStop v6_bookAt v6_draw v7_accountAt p v1 v2 v3 v4 v5
noncomputable def bg5_tellStop (F74 : PM → Int32 → Nat) (G74 : PM → Int32 → Prop) (F77 : PM → Nat → Nat → Int32 → Int32 → Int32 → Nat × PM) (G77 : PM → Nat → Nat → Int32 → Int32 → Int32 → Prop) (F105 : PM → Int32 → Nat) (G105 : PM → Int32 → Prop) (p : PM) (v1 : Int32) (v2 : Int32) (v3 : Int32) (v4 : Int32) (v5 : Int32) : Prop :=
  if v4 = 0 then (
    (G105 p v1) ∧ (
    (G74 p v2) ∧ (
    (G77 p (F105 p v1) (F74 p v2) (cn (-100000)) v5 (p.1 6 1 3)) ∧ (
    let r4 : Nat × PM := F77 p (F105 p v1) (F74 p v2) (cn (-100000)) v5 (p.1 6 1 3)
    if r4.1 = 0 then (
      True)
    else (
      (¬ r4.1 = 0) ∧ (
      let p5 : PM := pI r4.2 10 r4.1 1 (cn 2)
      (¬ r4.1 = 0) ∧ (
      let p6 : PM := pI p5 10 r4.1 14 v3
      (¬ r4.1 = 0) ∧ (
      True))))))))
  else (
    (G105 p v1) ∧ (
    (G74 p v2) ∧ (
    (G77 p (F105 p v1) (F74 p v2) v4 v5 (p.1 6 1 3)) ∧ (
    let r1 : Nat × PM := F77 p (F105 p v1) (F74 p v2) v4 v5 (p.1 6 1 3)
    if r1.1 = 0 then (
      True)
    else (
      (¬ r1.1 = 0) ∧ (
      let p2 : PM := pI r1.2 10 r1.1 1 (cn 2)
      (¬ r1.1 = 0) ∧ (
      let p3 : PM := pI p2 10 r1.1 14 v3
      (¬ r1.1 = 0) ∧ (
      True))))))))
noncomputable def g5_tellStop (p : PM) (v1 : Int32) (v2 : Int32) (v3 : Int32) (v4 : Int32) (v5 : Int32) : Prop := bg5_tellStop v6_bookAt g6_bookAt v6_draw g6_draw v7_accountAt g7_accountAt p v1 v2 v3 v4 v5
def R63 : List Row := [(0, .iload 4, 2, 0, (0, 0, 0, 0, 0, 0)), (2, .ifCond .ne 8, 3, 0, (0, 0, 0, 0, 0, 0)), (5, .ldc 95, 2, 0, (0, 0, 0, 0, 0, -100000)), (7, .goto 5, 3, 0, (0, 0, 0, 0, 0, 0)), (10, .iload 4, 2, 0, (0, 0, 0, 0, 0, 0)), (12, .istore 6, 2, 0, (0, 0, 0, 0, 0, 0)), (14, .aload_n 0, 1, 0, (0, 0, 0, 0, 0, 0)), (15, .getfield 34, 3, 0, (5, 0, 9, 2, 1, 0)), (18, .aload_n 0, 1, 0, (0, 0, 0, 0, 0, 0)), (19, .getfield 19, 3, 0, (5, 1, 10, 2, 1, 0)), (22, .iload_n 1, 1, 0, (0, 0, 0, 0, 0, 0)), (23, .invokevirtual 27, 3, 0, (0, 2, 0, 0, 1, 0)), (26, .aload_n 0, 1, 0, (0, 0, 0, 0, 0, 0)), (27, .getfield 34, 3, 0, (5, 0, 9, 2, 1, 0)), (30, .iload_n 2, 1, 0, (0, 0, 0, 0, 0, 0)), (31, .invokevirtual 87, 3, 0, (1, 2, 0, 0, 1, 0)), (34, .iload 6, 2, 0, (0, 0, 0, 0, 0, 0)), (36, .iload 5, 2, 0, (0, 0, 0, 0, 0, 0)), (38, .aload_n 0, 1, 0, (0, 0, 0, 0, 0, 0)), (39, .getfield 34, 3, 0, (5, 0, 9, 2, 1, 0)), (42, .getfield 96, 3, 0, (6, 3, 0, 1, 0, 0)), (45, .invokevirtual 99, 3, 0, (2, 6, 0, 0, 1, 0)), (48, .astore 7, 2, 0, (0, 0, 0, 0, 0, 0)), (50, .aload 7, 2, 0, (0, 0, 0, 0, 0, 0)), (52, .ifnonnull 6, 3, 0, (0, 0, 0, 0, 0, 0)), (55, .ldc 95, 2, 0, (0, 0, 0, 0, 0, -100000)), (57, .ireturn, 1, 0, (0, 0, 0, 0, 0, 0)), (58, .aload 7, 2, 0, (0, 0, 0, 0, 0, 0)), (60, .iconst 2, 1, 0, (0, 0, 0, 0, 0, 2)), (61, .putfield 122, 3, 0, (10, 1, 0, 0, 0, 0)), (64, .aload 7, 2, 0, (0, 0, 0, 0, 0, 0)), (66, .iload_n 3, 1, 0, (0, 0, 0, 0, 0, 0)), (67, .putfield 128, 3, 0, (10, 14, 0, 0, 0, 0)), (70, .aload 7, 2, 0, (0, 0, 0, 0, 0, 0)), (72, .getfield 116, 3, 0, (10, 0, 0, 0, 0, 0)), (75, .ireturn, 1, 0, (0, 0, 0, 0, 0, 0))]
set_option maxRecDepth 100000 in
theorem rk63 : R63.all (rok 0 63 1 [(105, [10, 0]), (74, [9, 0]), (77, [9, 3, 4, 0, 0, 0])]) = true := by decide +kernel
set_option maxRecDepth 100000 in
theorem tab63 {F105 : PM → Int32 → Nat} {G105 : PM → Int32 → Prop} {F74 : PM → Int32 → Nat} {G74 : PM → Int32 → Prop} {F77 : PM → Nat → Nat → Int32 → Int32 → Int32 → Nat × PM} {G77 : PM → Nat → Nat → Int32 → Int32 → Int32 → Prop} : TabOK 0 63 1 [CC105 F105 G105, CC74 F74 G74, CC77 F77 G77] R63 := tab_ok (K := K63) rfl rfl (fun h => d63 h) rk63 (by decide +kernel)
set_option maxRecDepth 100000 in
theorem pc63 : cutpc [] R63 = true := by decide +kernel
set_option maxRecDepth 100000 in
theorem r5_tellStop (F105 : PM → Int32 → Nat) (G105 : PM → Int32 → Prop) (o105 : CalOK 0 (CC105 F105 G105)) (F74 : PM → Int32 → Nat) (G74 : PM → Int32 → Prop) (o74 : CalOK 0 (CC74 F74 G74)) (F77 : PM → Nat → Nat → Int32 → Int32 → Int32 → Nat × PM) (G77 : PM → Nat → Nat → Int32 → Int32 → Int32 → Prop) (o77 : CalOK 0 (CC77 F77 G77)) : ∀ (p : PM) (v1 : Int32) (v2 : Int32) (v3 : Int32) (v4 : Int32) (v5 : Int32), Gr 0 p → bg5_tellStop F74 G74 F77 G77 F105 G105 p v1 v2 v3 v4 v5 → ZJ 0 63 0 [zR 5 1, zI v1, zI v2, zI v3, zI v4, zI v5, zJ, zJ] [] p (hwI (bv5_tellStop F74 F77 F105 p v1 v2 v3 v4 v5)) := by
  intro p v1 v2 v3 v4 v5  hg H
  exact rwI (n := 3000) (q := 0) (la := [zR 5 1, zI v1, zI v2, zI v3, zI v4, zI v5, zJ, zJ]) (sa := []) (ks := []) (gs := []) (fcons o105 (fcons o74 (fcons o77 (fnil)))) tab63 pc63 trivial hg H
theorem t5_tellStop : ∀ (p : PM) (v1 : Int32) (v2 : Int32) (v3 : Int32) (v4 : Int32) (v5 : Int32), Gr 0 p → g5_tellStop p v1 v2 v3 v4 v5 → ZJ 0 63 0 [zR 5 1, zI v1, zI v2, zI v3, zI v4, zI v5, zJ, zJ] [] p (hwI (v5_tellStop p v1 v2 v3 v4 v5)) := r5_tellStop v7_accountAt g7_accountAt ok105 v6_bookAt g6_bookAt ok74 v6_draw g6_draw ok77
def CC63 (F : PM → Int32 → Int32 → Int32 → Int32 → Int32 → Int32 × PM) (G : PM → Int32 → Int32 → Int32 → Int32 → Int32 → Prop) : Cal := (63, [8, 0, 0, 0, 0, 0], 1, false, fun as p => (zI (F p (ai as 1) (ai as 2) (ai as 3) (ai as 4) (ai as 5)).1, (F p (ai as 1) (ai as 2) (ai as 3) (ai as 4) (ai as 5)).2), fun as p => zsw (tc2 as [(105, 1), (0, 0), (0, 0), (0, 0), (0, 0), (0, 0)]) False (G p (ai as 1) (ai as 2) (ai as 3) (ai as 4) (ai as 5)))
set_option maxRecDepth 100000 in
theorem okr63 (F : PM → Int32 → Int32 → Int32 → Int32 → Int32 → Int32 × PM) (G : PM → Int32 → Int32 → Int32 → Int32 → Int32 → Prop) (h : ∀ (p : PM) (v1 : Int32) (v2 : Int32) (v3 : Int32) (v4 : Int32) (v5 : Int32), Gr 0 p → G p v1 v2 v3 v4 v5 → ZJ 0 63 0 [zR 5 1, zI v1, zI v2, zI v3, zI v4, zI v5, zJ, zJ] [] p (hwI (F p v1 v2 v3 v4 v5))) : CalOK 0 (CC63 F G) := cal_ok (m := 8) (by unfold mL; rw [mX_63]) (fun as p hg H => h p (ai as 1) (ai as 2) (ai as 3) (ai as 4) (ai as 5) hg H)
theorem ok63 : CalOK 0 (CC63 v5_tellStop g5_tellStop) := okr63 v5_tellStop g5_tellStop t5_tellStop
noncomputable def bv6_withdrawQuote_12 (kv12 : PM → Nat → Nat → Int32 → PM) (p : PM) (v1 : Nat) (v2 : Nat) (v5 : Int32) : PM :=
  if v5 < (cn 40) then (
    if (p.1 10 ((v5).toNatClampNeg + 1) 1) = (cn 3) then (
      if (p.2.2 10 ((v5).toNatClampNeg + 1) 3) = v1 then (
        if (p.2.2 10 ((v5).toNatClampNeg + 1) 4) = v2 then (
          let p1 : PM := pI p 10 ((v5).toNatClampNeg + 1) 2 (cn 0)
          kv12 p1 v1 v2 (v5 + (cn 1)))
        else (
          kv12 p v1 v2 (v5 + (cn 1))))
      else (
        kv12 p v1 v2 (v5 + (cn 1))))
    else (
      kv12 p v1 v2 (v5 + (cn 1))))
  else (
    p)
noncomputable def v6_withdrawQuote_12 (n : Nat) : PM → Nat → Nat → Int32 → PM := Nat.rec (motive := fun _ => PM → Nat → Nat → Int32 → PM) (fun p _ _ _ => p) (fun _ ih => bv6_withdrawQuote_12 ih) n
theorem ev6_withdrawQuote_12 (n : Nat) (p : PM) (v1 : Nat) (v2 : Nat) (v5 : Int32) : v6_withdrawQuote_12 (n + 1) p v1 v2 v5 = bv6_withdrawQuote_12 (v6_withdrawQuote_12 n) p v1 v2 v5 := rfl
noncomputable def bg6_withdrawQuote_12 (kg12 : PM → Nat → Nat → Int32 → Prop) (p : PM) (v1 : Nat) (v2 : Nat) (v5 : Int32) : Prop :=
  if v5 < (cn 40) then (
    (inb v5 40) ∧ (
    if (p.1 10 ((v5).toNatClampNeg + 1) 1) = (cn 3) then (
      if (p.2.2 10 ((v5).toNatClampNeg + 1) 3) = v1 then (
        if (p.2.2 10 ((v5).toNatClampNeg + 1) 4) = v2 then (
          let p1 : PM := pI p 10 ((v5).toNatClampNeg + 1) 2 (cn 0)
          kg12 p1 v1 v2 (v5 + (cn 1)))
        else (
          kg12 p v1 v2 (v5 + (cn 1))))
      else (
        kg12 p v1 v2 (v5 + (cn 1))))
    else (
      kg12 p v1 v2 (v5 + (cn 1)))))
  else (
    True)
noncomputable def g6_withdrawQuote_12 (n : Nat) : PM → Nat → Nat → Int32 → Prop := Nat.rec (motive := fun _ => PM → Nat → Nat → Int32 → Prop) (fun _ _ _ _ => False) (fun _ ih => bg6_withdrawQuote_12 ih) n
theorem eg6_withdrawQuote_12 (n : Nat) (p : PM) (v1 : Nat) (v2 : Nat) (v5 : Int32) : g6_withdrawQuote_12 (n + 1) p v1 v2 v5 = bg6_withdrawQuote_12 (g6_withdrawQuote_12 n) p v1 v2 v5 := rfl
noncomputable def bv6_withdrawQuote (kv12 : PM → Nat → Nat → Int32 → PM) (p : PM) (v1 : Nat) (v2 : Nat) : PM :=
  kv12 p v1 v2 (cn 0)
noncomputable def v6_withdrawQuote (p : PM) (v1 : Nat) (v2 : Nat) : PM := bv6_withdrawQuote (v6_withdrawQuote_12 FU) p v1 v2
noncomputable def bg6_withdrawQuote (kg12 : PM → Nat → Nat → Int32 → Prop) (p : PM) (v1 : Nat) (v2 : Nat) : Prop :=
  kg12 p v1 v2 (cn 0)
noncomputable def g6_withdrawQuote (p : PM) (v1 : Nat) (v2 : Nat) : Prop := bg6_withdrawQuote (g6_withdrawQuote_12 FU) p v1 v2
def R87 : List Row := [(0, .aload_n 0, 1, 0, (0, 0, 0, 0, 0, 0)), (1, .getfield 11, 3, 0, (6, 1, 23, 2, 1, 0)), (4, .astore_n 3, 1, 0, (0, 0, 0, 0, 0, 0)), (5, .aload_n 3, 1, 0, (0, 0, 0, 0, 0, 0)), (6, .arraylength, 1, 0, (20, 40, 0, 0, 0, 40)), (7, .istore 4, 2, 0, (0, 0, 0, 0, 0, 0)), (9, .iconst 0, 1, 0, (0, 0, 0, 0, 0, 0)), (10, .istore 5, 2, 0, (0, 0, 0, 0, 0, 0)), (12, .iload 5, 2, 1, (0, 0, 0, 0, 0, 0)), (14, .iload 4, 2, 0, (0, 0, 0, 0, 0, 0)), (16, .if_icmp .ge 48, 3, 0, (0, 0, 0, 0, 0, 0)), (19, .aload_n 3, 1, 0, (0, 0, 0, 0, 0, 0)), (20, .iload 5, 2, 0, (0, 0, 0, 0, 0, 0)), (22, .aaload, 1, 0, (20, 40, 0, 1, 1, 0)), (23, .astore 6, 2, 0, (0, 0, 0, 0, 0, 0)), (25, .aload 6, 2, 0, (0, 0, 0, 0, 0, 0)), (27, .getfield 76, 3, 0, (10, 1, 0, 1, 0, 0)), (30, .iconst 3, 1, 0, (0, 0, 0, 0, 0, 3)), (31, .if_icmp .ne 27, 3, 0, (0, 0, 0, 0, 0, 0)), (34, .aload 6, 2, 0, (0, 0, 0, 0, 0, 0)), (36, .getfield 115, 3, 0, (10, 3, 3, 1, 0, 0)), (39, .aload_n 1, 1, 0, (0, 0, 0, 0, 0, 0)), (40, .if_acmp .ne 18, 3, 0, (0, 0, 0, 0, 0, 0)), (43, .aload 6, 2, 0, (0, 0, 0, 0, 0, 0)), (45, .getfield 130, 3, 0, (10, 4, 4, 1, 0, 0)), (48, .aload_n 2, 1, 0, (0, 0, 0, 0, 0, 0)), (49, .if_acmp .ne 9, 3, 0, (0, 0, 0, 0, 0, 0)), (52, .aload 6, 2, 0, (0, 0, 0, 0, 0, 0)), (54, .iconst 0, 1, 0, (0, 0, 0, 0, 0, 0)), (55, .putfield 29, 3, 0, (10, 2, 0, 1, 0, 0)), (58, .iinc 5 1, 3, 0, (0, 0, 0, 0, 0, 1)), (61, .goto (-49), 3, 0, (0, 0, 0, 0, 0, 0)), (64, .return_, 1, 0, (0, 0, 0, 0, 0, 0))]
set_option maxRecDepth 100000 in
theorem rk87 : R87.all (rok 0 87 0 []) = true := by decide +kernel
set_option maxRecDepth 100000 in
theorem tab87 : TabOK 0 87 0 [] R87 := tab_ok (K := K87) rfl rfl (fun h => d87 h) rk87 (by decide +kernel)
set_option maxRecDepth 100000 in
theorem pc87 : cutpc [12] R87 = true := by decide +kernel
set_option maxRecDepth 100000 in
theorem r6_withdrawQuote_12 (kv12 : PM → Nat → Nat → Int32 → PM) (kg12 : PM → Nat → Nat → Int32 → Prop) (hk12 : ∀ (p : PM) (v1 : Nat) (v2 : Nat) (v5 : Int32) (d0 d6 : ZV), Gr 0 p → kg12 p v1 v2 v5 → ZJ 0 87 12 [d0, zR 0 v1, zR 1 v2, zR 20 1, zC 40, zI v5, d6] [] p (hwV (kv12 p v1 v2 v5))) : ∀ (p : PM) (v1 : Nat) (v2 : Nat) (v5 : Int32) (d0 d6 : ZV), Gr 0 p → bg6_withdrawQuote_12 kg12 p v1 v2 v5 → ZJ 0 87 12 [d0, zR 0 v1, zR 1 v2, zR 20 1, zC 40, zI v5, d6] [] p (hwV (bv6_withdrawQuote_12 kv12 p v1 v2 v5)) := by
  intro p v1 v2 v5 d0 d6 hg H
  exact rwV (n := 3000) (q := 12) (la := [d0, zR 0 v1, zR 1 v2, zR 20 1, zC 40, zI v5, d6]) (sa := []) (ks := [fun la sa s => kv12 s (ar la 1) (ar la 2) (ai la 5)]) (gs := [fun la sa s => zsw (tc2 la [(2, 0), (4, 0), (5, 0), (120, 1), (3, 40), (0, 0), (2, 0)] && tc2 sa []) False (kg12 s (ar la 1) (ar la 2) (ai la 5))]) (fnil) tab87 pc87 ⟨fun la sa s hg H => zcut H fun H => hk12 s (ar la 1) (ar la 2) (ai la 5) (zld la 0) (zld la 6) hg H, trivial⟩ hg H
theorem t6_withdrawQuote_12 : ∀ (n : Nat), ∀ (p : PM) (v1 : Nat) (v2 : Nat) (v5 : Int32) (d0 d6 : ZV), Gr 0 p → g6_withdrawQuote_12 n p v1 v2 v5 → ZJ 0 87 12 [d0, zR 0 v1, zR 1 v2, zR 20 1, zC 40, zI v5, d6] [] p (hwV (v6_withdrawQuote_12 n p v1 v2 v5)) := by
  intro n
  induction n with
  | zero =>
    intro p v1 v2 v5 d0 d6 hg H
    exact H.elim
  | succ n ih => exact r6_withdrawQuote_12 (v6_withdrawQuote_12 n) (g6_withdrawQuote_12 n) ih
set_option maxRecDepth 100000 in
theorem r6_withdrawQuote (kv12 : PM → Nat → Nat → Int32 → PM) (kg12 : PM → Nat → Nat → Int32 → Prop) (hk12 : ∀ (p : PM) (v1 : Nat) (v2 : Nat) (v5 : Int32) (d0 d6 : ZV), Gr 0 p → kg12 p v1 v2 v5 → ZJ 0 87 12 [d0, zR 0 v1, zR 1 v2, zR 20 1, zC 40, zI v5, d6] [] p (hwV (kv12 p v1 v2 v5))) : ∀ (p : PM) (v1 : Nat) (v2 : Nat), Gr 0 p → bg6_withdrawQuote kg12 p v1 v2 → ZJ 0 87 0 [zR 6 1, zR 0 v1, zR 1 v2, zJ, zJ, zJ, zJ] [] p (hwV (bv6_withdrawQuote kv12 p v1 v2)) := by
  intro p v1 v2  hg H
  exact rwV (n := 3000) (q := 0) (la := [zR 6 1, zR 0 v1, zR 1 v2, zJ, zJ, zJ, zJ]) (sa := []) (ks := [fun la sa s => kv12 s (ar la 1) (ar la 2) (ai la 5)]) (gs := [fun la sa s => zsw (tc2 la [(2, 0), (4, 0), (5, 0), (120, 1), (3, 40), (0, 0), (2, 0)] && tc2 sa []) False (kg12 s (ar la 1) (ar la 2) (ai la 5))]) (fnil) tab87 pc87 ⟨fun la sa s hg H => zcut H fun H => hk12 s (ar la 1) (ar la 2) (ai la 5) (zld la 0) (zld la 6) hg H, trivial⟩ hg H
theorem t6_withdrawQuote : ∀ (p : PM) (v1 : Nat) (v2 : Nat), Gr 0 p → g6_withdrawQuote p v1 v2 → ZJ 0 87 0 [zR 6 1, zR 0 v1, zR 1 v2, zJ, zJ, zJ, zJ] [] p (hwV (v6_withdrawQuote p v1 v2)) := r6_withdrawQuote (v6_withdrawQuote_12 FU) (g6_withdrawQuote_12 FU) (t6_withdrawQuote_12 FU)
def CC87 (F : PM → Nat → Nat → PM) (G : PM → Nat → Nat → Prop) : Cal := (87, [9, 3, 4], 0, false, fun as p => (zJ, (F p (ar as 1) (ar as 2))), fun as p => zsw (tc2 as [(106, 1), (4, 0), (5, 0)]) False (G p (ar as 1) (ar as 2)))
set_option maxRecDepth 100000 in
theorem okr87 (F : PM → Nat → Nat → PM) (G : PM → Nat → Nat → Prop) (h : ∀ (p : PM) (v1 : Nat) (v2 : Nat), Gr 0 p → G p v1 v2 → ZJ 0 87 0 [zR 6 1, zR 0 v1, zR 1 v2, zJ, zJ, zJ, zJ] [] p (hwV (F p v1 v2))) : CalOK 0 (CC87 F G) := cal_ok (m := 7) (by unfold mL; rw [mX_87]) (fun as p hg H => h p (ar as 1) (ar as 2) hg H)
theorem ok87 : CalOK 0 (CC87 v6_withdrawQuote g6_withdrawQuote) := okr87 v6_withdrawQuote g6_withdrawQuote t6_withdrawQuote
noncomputable def bv5_tellQuote (F65 : PM → Nat → PM) (F74 : PM → Int32 → Nat) (F77 : PM → Nat → Nat → Int32 → Int32 → Int32 → Nat × PM) (F87 : PM → Nat → Nat → PM) (F105 : PM → Int32 → Nat) (p : PM) (v1 : Int32) (v2 : Int32) (v3 : Int32) (v4 : Int32) (v5 : Int32) : Int32 × PM :=
  let p1 : PM := F87 p (F105 p v1) (F74 p v2)
  let p2 : PM := pI p1 0 (F105 p v1) 6 (cn 0)
  let p3 : PM := pI p2 0 (F105 p v1) 7 (cn 0)
  let r4 : Nat × PM := F77 p3 (F105 p v1) (F74 p3 v2) v3 v5 (p3.1 6 1 3)
  if r4.1 = 0 then (
    if (r4.2.1 0 (F105 p v1) 7) = 0 then (
      let r5 : Nat × PM := F77 r4.2 (F105 p v1) (F74 r4.2 v2) v4 (-v5) (r4.2.1 6 1 3)
      if r5.1 = 0 then (
        ((p3.1 6 1 4), r5.2))
      else (
        let p6 : PM := pI r5.2 10 r5.1 1 (cn 3)
        let p7 : PM := F65 p6 r5.1
        ((p3.1 6 1 4), p7)))
    else (
      let p8 : PM := pI r4.2 6 1 4 ((r4.2.1 6 1 4) + (cn 1))
      ((p3.1 6 1 4), p8)))
  else (
    let p9 : PM := pI r4.2 10 r4.1 1 (cn 3)
    let p10 : PM := F65 p9 r4.1
    if (p10.1 0 (F105 p v1) 7) = 0 then (
      let r11 : Nat × PM := F77 p10 (F105 p v1) (F74 p10 v2) v4 (-v5) (p10.1 6 1 3)
      if r11.1 = 0 then (
        ((p3.1 6 1 4), r11.2))
      else (
        let p12 : PM := pI r11.2 10 r11.1 1 (cn 3)
        let p13 : PM := F65 p12 r11.1
        ((p3.1 6 1 4), p13)))
    else (
      let p14 : PM := pI p10 6 1 4 ((p10.1 6 1 4) + (cn 1))
      ((p3.1 6 1 4), p14)))
noncomputable def v5_tellQuote (p : PM) (v1 : Int32) (v2 : Int32) (v3 : Int32) (v4 : Int32) (v5 : Int32) : Int32 × PM := bv5_tellQuote v5_place v6_bookAt v6_draw v6_withdrawQuote v7_accountAt p v1 v2 v3 v4 v5
noncomputable def bg5_tellQuote (F65 : PM → Nat → PM) (G65 : PM → Nat → Prop) (F74 : PM → Int32 → Nat) (G74 : PM → Int32 → Prop) (F77 : PM → Nat → Nat → Int32 → Int32 → Int32 → Nat × PM) (G77 : PM → Nat → Nat → Int32 → Int32 → Int32 → Prop) (F87 : PM → Nat → Nat → PM) (G87 : PM → Nat → Nat → Prop) (F105 : PM → Int32 → Nat) (G105 : PM → Int32 → Prop) (p : PM) (v1 : Int32) (v2 : Int32) (v3 : Int32) (v4 : Int32) (v5 : Int32) : Prop :=
  (G105 p v1) ∧ (
  (G74 p v2) ∧ (
  (G87 p (F105 p v1) (F74 p v2)) ∧ (
  let p1 : PM := F87 p (F105 p v1) (F74 p v2)
  (¬ (F105 p v1) = 0) ∧ (
  let p2 : PM := pI p1 0 (F105 p v1) 6 (cn 0)
  (¬ (F105 p v1) = 0) ∧ (
  let p3 : PM := pI p2 0 (F105 p v1) 7 (cn 0)
  (G74 p3 v2) ∧ (
  (G77 p3 (F105 p v1) (F74 p3 v2) v3 v5 (p3.1 6 1 3)) ∧ (
  let r4 : Nat × PM := F77 p3 (F105 p v1) (F74 p3 v2) v3 v5 (p3.1 6 1 3)
  if r4.1 = 0 then (
    (¬ (F105 p v1) = 0) ∧ (
    if (r4.2.1 0 (F105 p v1) 7) = 0 then (
      (G74 r4.2 v2) ∧ (
      (G77 r4.2 (F105 p v1) (F74 r4.2 v2) v4 (-v5) (r4.2.1 6 1 3)) ∧ (
      let r5 : Nat × PM := F77 r4.2 (F105 p v1) (F74 r4.2 v2) v4 (-v5) (r4.2.1 6 1 3)
      if r5.1 = 0 then (
        True)
      else (
        (¬ r5.1 = 0) ∧ (
        let p6 : PM := pI r5.2 10 r5.1 1 (cn 3)
        (G65 p6 r5.1) ∧ (
        let p7 : PM := F65 p6 r5.1
        True))))))
    else (
      let p8 : PM := pI r4.2 6 1 4 ((r4.2.1 6 1 4) + (cn 1))
      True)))
  else (
    (¬ r4.1 = 0) ∧ (
    let p9 : PM := pI r4.2 10 r4.1 1 (cn 3)
    (G65 p9 r4.1) ∧ (
    let p10 : PM := F65 p9 r4.1
    (¬ (F105 p v1) = 0) ∧ (
    if (p10.1 0 (F105 p v1) 7) = 0 then (
      (G74 p10 v2) ∧ (
      (G77 p10 (F105 p v1) (F74 p10 v2) v4 (-v5) (p10.1 6 1 3)) ∧ (
      let r11 : Nat × PM := F77 p10 (F105 p v1) (F74 p10 v2) v4 (-v5) (p10.1 6 1 3)
      if r11.1 = 0 then (
        True)
      else (
        (¬ r11.1 = 0) ∧ (
        let p12 : PM := pI r11.2 10 r11.1 1 (cn 3)
        (G65 p12 r11.1) ∧ (
        let p13 : PM := F65 p12 r11.1
        True))))))
    else (
      let p14 : PM := pI p10 6 1 4 ((p10.1 6 1 4) + (cn 1))
      True))))))))))))
noncomputable def g5_tellQuote (p : PM) (v1 : Int32) (v2 : Int32) (v3 : Int32) (v4 : Int32) (v5 : Int32) : Prop := bg5_tellQuote v5_place g5_place v6_bookAt g6_bookAt v6_draw g6_draw v6_withdrawQuote g6_withdrawQuote v7_accountAt g7_accountAt p v1 v2 v3 v4 v5
def R64 : List Row := [(0, .aload_n 0, 1, 0, (0, 0, 0, 0, 0, 0)), (1, .getfield 19, 3, 0, (5, 1, 10, 2, 1, 0)), (4, .iload_n 1, 1, 0, (0, 0, 0, 0, 0, 0)), (5, .invokevirtual 27, 3, 0, (0, 2, 0, 0, 1, 0)), (8, .astore 6, 2, 0, (0, 0, 0, 0, 0, 0)), (10, .aload_n 0, 1, 0, (0, 0, 0, 0, 0, 0)), (11, .getfield 34, 3, 0, (5, 0, 9, 2, 1, 0)), (14, .aload 6, 2, 0, (0, 0, 0, 0, 0, 0)), (16, .aload_n 0, 1, 0, (0, 0, 0, 0, 0, 0)), (17, .getfield 34, 3, 0, (5, 0, 9, 2, 1, 0)), (20, .iload_n 2, 1, 0, (0, 0, 0, 0, 0, 0)), (21, .invokevirtual 87, 3, 0, (1, 2, 0, 0, 1, 0)), (24, .invokevirtual 131, 3, 0, (2, 3, 0, 0, 1, 0)), (27, .aload 6, 2, 0, (0, 0, 0, 0, 0, 0)), (29, .iconst 0, 1, 0, (0, 0, 0, 0, 0, 0)), (30, .putfield 135, 3, 0, (0, 6, 0, 0, 0, 0)), (33, .aload 6, 2, 0, (0, 0, 0, 0, 0, 0)), (35, .iconst 0, 1, 0, (0, 0, 0, 0, 0, 0)), (36, .putfield 138, 3, 0, (0, 7, 1, 0, 0, 0)), (39, .aload_n 0, 1, 0, (0, 0, 0, 0, 0, 0)), (40, .getfield 34, 3, 0, (5, 0, 9, 2, 1, 0)), (43, .getfield 141, 3, 0, (6, 4, 0, 1, 0, 0)), (46, .istore 7, 2, 0, (0, 0, 0, 0, 0, 0)), (48, .aload_n 0, 1, 0, (0, 0, 0, 0, 0, 0)), (49, .getfield 34, 3, 0, (5, 0, 9, 2, 1, 0)), (52, .aload 6, 2, 0, (0, 0, 0, 0, 0, 0)), (54, .aload_n 0, 1, 0, (0, 0, 0, 0, 0, 0)), (55, .getfield 34, 3, 0, (5, 0, 9, 2, 1, 0)), (58, .iload_n 2, 1, 0, (0, 0, 0, 0, 0, 0)), (59, .invokevirtual 87, 3, 0, (1, 2, 0, 0, 1, 0)), (62, .iload_n 3, 1, 0, (0, 0, 0, 0, 0, 0)), (63, .iload 5, 2, 0, (0, 0, 0, 0, 0, 0)), (65, .aload_n 0, 1, 0, (0, 0, 0, 0, 0, 0)), (66, .getfield 34, 3, 0, (5, 0, 9, 2, 1, 0)), (69, .getfield 96, 3, 0, (6, 3, 0, 1, 0, 0)), (72, .invokevirtual 99, 3, 0, (3, 6, 0, 0, 1, 0)), (75, .astore 8, 2, 0, (0, 0, 0, 0, 0, 0)), (77, .aload 8, 2, 0, (0, 0, 0, 0, 0, 0)), (79, .ifnull 15, 3, 0, (0, 0, 0, 0, 0, 0)), (82, .aload 8, 2, 0, (0, 0, 0, 0, 0, 0)), (84, .iconst 3, 1, 0, (0, 0, 0, 0, 0, 3)), (85, .putfield 122, 3, 0, (10, 1, 0, 0, 0, 0)), (88, .aload_n 0, 1, 0, (0, 0, 0, 0, 0, 0)), (89, .aload 8, 2, 0, (0, 0, 0, 0, 0, 0)), (91, .invokevirtual 112, 3, 0, (4, 2, 0, 0, 1, 0)), (94, .aload 6, 2, 0, (0, 0, 0, 0, 0, 0)), (96, .getfield 138, 3, 0, (0, 7, 1, 0, 0, 0)), (99, .ifCond .eq 19, 3, 0, (0, 0, 0, 0, 0, 0)), (102, .aload_n 0, 1, 0, (0, 0, 0, 0, 0, 0)), (103, .getfield 34, 3, 0, (5, 0, 9, 2, 1, 0)), (106, .dup, 1, 0, (0, 0, 0, 0, 0, 0)), (107, .getfield 141, 3, 0, (6, 4, 0, 1, 0, 0)), (110, .iconst 1, 1, 0, (0, 0, 0, 0, 0, 1)), (111, .iadd, 1, 0, (0, 0, 0, 0, 0, 0)), (112, .putfield 141, 3, 0, (6, 4, 0, 1, 0, 0)), (115, .iload 7, 2, 0, (0, 0, 0, 0, 0, 0)), (117, .ireturn, 1, 0, (0, 0, 0, 0, 0, 0)), (118, .aload_n 0, 1, 0, (0, 0, 0, 0, 0, 0)), (119, .getfield 34, 3, 0, (5, 0, 9, 2, 1, 0)), (122, .aload 6, 2, 0, (0, 0, 0, 0, 0, 0)), (124, .aload_n 0, 1, 0, (0, 0, 0, 0, 0, 0)), (125, .getfield 34, 3, 0, (5, 0, 9, 2, 1, 0)), (128, .iload_n 2, 1, 0, (0, 0, 0, 0, 0, 0)), (129, .invokevirtual 87, 3, 0, (1, 2, 0, 0, 1, 0)), (132, .iload 4, 2, 0, (0, 0, 0, 0, 0, 0)), (134, .iload 5, 2, 0, (0, 0, 0, 0, 0, 0)), (136, .ineg, 1, 0, (0, 0, 0, 0, 0, 0)), (137, .aload_n 0, 1, 0, (0, 0, 0, 0, 0, 0)), (138, .getfield 34, 3, 0, (5, 0, 9, 2, 1, 0)), (141, .getfield 96, 3, 0, (6, 3, 0, 1, 0, 0)), (144, .invokevirtual 99, 3, 0, (3, 6, 0, 0, 1, 0)), (147, .astore 9, 2, 0, (0, 0, 0, 0, 0, 0)), (149, .aload 9, 2, 0, (0, 0, 0, 0, 0, 0)), (151, .ifnull 15, 3, 0, (0, 0, 0, 0, 0, 0)), (154, .aload 9, 2, 0, (0, 0, 0, 0, 0, 0)), (156, .iconst 3, 1, 0, (0, 0, 0, 0, 0, 3)), (157, .putfield 122, 3, 0, (10, 1, 0, 0, 0, 0)), (160, .aload_n 0, 1, 0, (0, 0, 0, 0, 0, 0)), (161, .aload 9, 2, 0, (0, 0, 0, 0, 0, 0)), (163, .invokevirtual 112, 3, 0, (4, 2, 0, 0, 1, 0)), (166, .iload 7, 2, 0, (0, 0, 0, 0, 0, 0)), (168, .ireturn, 1, 0, (0, 0, 0, 0, 0, 0))]
set_option maxRecDepth 100000 in
theorem rk64 : R64.all (rok 0 64 1 [(105, [10, 0]), (74, [9, 0]), (87, [9, 3, 4]), (77, [9, 3, 4, 0, 0, 0]), (65, [8, 13])]) = true := by decide +kernel
set_option maxRecDepth 100000 in
theorem tab64 {F105 : PM → Int32 → Nat} {G105 : PM → Int32 → Prop} {F74 : PM → Int32 → Nat} {G74 : PM → Int32 → Prop} {F87 : PM → Nat → Nat → PM} {G87 : PM → Nat → Nat → Prop} {F77 : PM → Nat → Nat → Int32 → Int32 → Int32 → Nat × PM} {G77 : PM → Nat → Nat → Int32 → Int32 → Int32 → Prop} {F65 : PM → Nat → PM} {G65 : PM → Nat → Prop} : TabOK 0 64 1 [CC105 F105 G105, CC74 F74 G74, CC87 F87 G87, CC77 F77 G77, CC65 F65 G65] R64 := tab_ok (K := K64) rfl rfl (fun h => d64 h) rk64 (by decide +kernel)
set_option maxRecDepth 100000 in
theorem pc64 : cutpc [] R64 = true := by decide +kernel
set_option maxRecDepth 100000 in
theorem r5_tellQuote (F105 : PM → Int32 → Nat) (G105 : PM → Int32 → Prop) (o105 : CalOK 0 (CC105 F105 G105)) (F74 : PM → Int32 → Nat) (G74 : PM → Int32 → Prop) (o74 : CalOK 0 (CC74 F74 G74)) (F87 : PM → Nat → Nat → PM) (G87 : PM → Nat → Nat → Prop) (o87 : CalOK 0 (CC87 F87 G87)) (F77 : PM → Nat → Nat → Int32 → Int32 → Int32 → Nat × PM) (G77 : PM → Nat → Nat → Int32 → Int32 → Int32 → Prop) (o77 : CalOK 0 (CC77 F77 G77)) (F65 : PM → Nat → PM) (G65 : PM → Nat → Prop) (o65 : CalOK 0 (CC65 F65 G65)) : ∀ (p : PM) (v1 : Int32) (v2 : Int32) (v3 : Int32) (v4 : Int32) (v5 : Int32), Gr 0 p → bg5_tellQuote F65 G65 F74 G74 F77 G77 F87 G87 F105 G105 p v1 v2 v3 v4 v5 → ZJ 0 64 0 [zR 5 1, zI v1, zI v2, zI v3, zI v4, zI v5, zJ, zJ, zJ, zJ] [] p (hwI (bv5_tellQuote F65 F74 F77 F87 F105 p v1 v2 v3 v4 v5)) := by
  intro p v1 v2 v3 v4 v5  hg H
  exact rwI (n := 3000) (q := 0) (la := [zR 5 1, zI v1, zI v2, zI v3, zI v4, zI v5, zJ, zJ, zJ, zJ]) (sa := []) (ks := []) (gs := []) (fcons o105 (fcons o74 (fcons o87 (fcons o77 (fcons o65 (fnil)))))) tab64 pc64 trivial hg H
theorem t5_tellQuote : ∀ (p : PM) (v1 : Int32) (v2 : Int32) (v3 : Int32) (v4 : Int32) (v5 : Int32), Gr 0 p → g5_tellQuote p v1 v2 v3 v4 v5 → ZJ 0 64 0 [zR 5 1, zI v1, zI v2, zI v3, zI v4, zI v5, zJ, zJ, zJ, zJ] [] p (hwI (v5_tellQuote p v1 v2 v3 v4 v5)) := r5_tellQuote v7_accountAt g7_accountAt ok105 v6_bookAt g6_bookAt ok74 v6_withdrawQuote g6_withdrawQuote ok87 v6_draw g6_draw ok77 v5_place g5_place ok65
def CC64 (F : PM → Int32 → Int32 → Int32 → Int32 → Int32 → Int32 × PM) (G : PM → Int32 → Int32 → Int32 → Int32 → Int32 → Prop) : Cal := (64, [8, 0, 0, 0, 0, 0], 1, false, fun as p => (zI (F p (ai as 1) (ai as 2) (ai as 3) (ai as 4) (ai as 5)).1, (F p (ai as 1) (ai as 2) (ai as 3) (ai as 4) (ai as 5)).2), fun as p => zsw (tc2 as [(105, 1), (0, 0), (0, 0), (0, 0), (0, 0), (0, 0)]) False (G p (ai as 1) (ai as 2) (ai as 3) (ai as 4) (ai as 5)))
set_option maxRecDepth 100000 in
theorem okr64 (F : PM → Int32 → Int32 → Int32 → Int32 → Int32 → Int32 × PM) (G : PM → Int32 → Int32 → Int32 → Int32 → Int32 → Prop) (h : ∀ (p : PM) (v1 : Int32) (v2 : Int32) (v3 : Int32) (v4 : Int32) (v5 : Int32), Gr 0 p → G p v1 v2 v3 v4 v5 → ZJ 0 64 0 [zR 5 1, zI v1, zI v2, zI v3, zI v4, zI v5, zJ, zJ, zJ, zJ] [] p (hwI (F p v1 v2 v3 v4 v5))) : CalOK 0 (CC64 F G) := cal_ok (m := 10) (by unfold mL; rw [mX_64]) (fun as p hg H => h p (ai as 1) (ai as 2) (ai as 3) (ai as 4) (ai as 5) hg H)
theorem ok64 : CalOK 0 (CC64 v5_tellQuote g5_tellQuote) := okr64 v5_tellQuote g5_tellQuote t5_tellQuote
noncomputable def bv6_hasOtherSide_11 (p : PM) (F144 : PM → Nat → Nat → Int32 → Int32) (kv11 : Nat → Int32 → Int32) (v1 : Nat) (v4 : Int32) : Int32 :=
  if v4 < (cn 40) then (
    if (p.1 10 ((v4).toNatClampNeg + 1) 1) = (cn 3) then (
      if (p.2.2 10 ((v4).toNatClampNeg + 1) 3) = (p.2.2 10 v1 3) then (
        if (p.1 10 v1 5) = 0 then (
          if (F144 p ((v4).toNatClampNeg + 1) (p.2.2 10 v1 4) (cn 1)) = 0 then (
            kv11 v1 (v4 + (cn 1)))
          else (
            (cn 1)))
        else (
          if (F144 p ((v4).toNatClampNeg + 1) (p.2.2 10 v1 4) (cn 0)) = 0 then (
            kv11 v1 (v4 + (cn 1)))
          else (
            (cn 1))))
      else (
        kv11 v1 (v4 + (cn 1))))
    else (
      kv11 v1 (v4 + (cn 1))))
  else (
    (cn 0))
noncomputable def v6_hasOtherSide_11 (p : PM) (n : Nat) : Nat → Int32 → Int32 := Nat.rec (motive := fun _ => Nat → Int32 → Int32) (fun _ _ => 0) (fun _ ih => bv6_hasOtherSide_11 p v10_standsIn ih) n
theorem ev6_hasOtherSide_11 (p : PM) (n : Nat) (v1 : Nat) (v4 : Int32) : v6_hasOtherSide_11 p (n + 1) v1 v4 = bv6_hasOtherSide_11 p v10_standsIn (v6_hasOtherSide_11 p n) v1 v4 := rfl
noncomputable def bg6_hasOtherSide_11 (p : PM) (F144 : PM → Nat → Nat → Int32 → Int32) (G144 : PM → Nat → Nat → Int32 → Prop) (kg11 : Nat → Int32 → Prop) (v1 : Nat) (v4 : Int32) : Prop :=
  if v4 < (cn 40) then (
    (inb v4 40) ∧ (
    if (p.1 10 ((v4).toNatClampNeg + 1) 1) = (cn 3) then (
      (¬ v1 = 0) ∧ (
      if (p.2.2 10 ((v4).toNatClampNeg + 1) 3) = (p.2.2 10 v1 3) then (
        (¬ v1 = 0) ∧ (
        (¬ v1 = 0) ∧ (
        if (p.1 10 v1 5) = 0 then (
          (G144 p ((v4).toNatClampNeg + 1) (p.2.2 10 v1 4) (cn 1)) ∧ (
          if (F144 p ((v4).toNatClampNeg + 1) (p.2.2 10 v1 4) (cn 1)) = 0 then (
            kg11 v1 (v4 + (cn 1)))
          else (
            True)))
        else (
          (G144 p ((v4).toNatClampNeg + 1) (p.2.2 10 v1 4) (cn 0)) ∧ (
          if (F144 p ((v4).toNatClampNeg + 1) (p.2.2 10 v1 4) (cn 0)) = 0 then (
            kg11 v1 (v4 + (cn 1)))
          else (
            True))))))
      else (
        kg11 v1 (v4 + (cn 1)))))
    else (
      kg11 v1 (v4 + (cn 1)))))
  else (
    True)
noncomputable def g6_hasOtherSide_11 (p : PM) (n : Nat) : Nat → Int32 → Prop := Nat.rec (motive := fun _ => Nat → Int32 → Prop) (fun _ _ => False) (fun _ ih => bg6_hasOtherSide_11 p v10_standsIn g10_standsIn ih) n
theorem eg6_hasOtherSide_11 (p : PM) (n : Nat) (v1 : Nat) (v4 : Int32) : g6_hasOtherSide_11 p (n + 1) v1 v4 = bg6_hasOtherSide_11 p v10_standsIn g10_standsIn (g6_hasOtherSide_11 p n) v1 v4 := rfl
noncomputable def bv6_hasOtherSide (p : PM) (kv11 : Nat → Int32 → Int32) (v1 : Nat) : Int32 :=
  kv11 v1 (cn 0)
noncomputable def v6_hasOtherSide (p : PM) (v1 : Nat) : Int32 := bv6_hasOtherSide p (v6_hasOtherSide_11 p FU) v1
noncomputable def bg6_hasOtherSide (p : PM) (kg11 : Nat → Int32 → Prop) (v1 : Nat) : Prop :=
  kg11 v1 (cn 0)
noncomputable def g6_hasOtherSide (p : PM) (v1 : Nat) : Prop := bg6_hasOtherSide p (g6_hasOtherSide_11 p FU) v1
def R92 : List Row := [(0, .aload_n 0, 1, 0, (0, 0, 0, 0, 0, 0)), (1, .getfield 11, 3, 0, (6, 1, 23, 2, 1, 0)), (4, .astore_n 2, 1, 0, (0, 0, 0, 0, 0, 0)), (5, .aload_n 2, 1, 0, (0, 0, 0, 0, 0, 0)), (6, .arraylength, 1, 0, (20, 40, 0, 0, 0, 40)), (7, .istore_n 3, 1, 0, (0, 0, 0, 0, 0, 0)), (8, .iconst 0, 1, 0, (0, 0, 0, 0, 0, 0)), (9, .istore 4, 2, 0, (0, 0, 0, 0, 0, 0)), (11, .iload 4, 2, 1, (0, 0, 0, 0, 0, 0)), (13, .iload_n 3, 1, 0, (0, 0, 0, 0, 0, 0)), (14, .if_icmp .ge 62, 3, 0, (0, 0, 0, 0, 0, 0)), (17, .aload_n 2, 1, 0, (0, 0, 0, 0, 0, 0)), (18, .iload 4, 2, 0, (0, 0, 0, 0, 0, 0)), (20, .aaload, 1, 0, (20, 40, 0, 1, 1, 0)), (21, .astore 5, 2, 0, (0, 0, 0, 0, 0, 0)), (23, .aload 5, 2, 0, (0, 0, 0, 0, 0, 0)), (25, .getfield 76, 3, 0, (10, 1, 0, 1, 0, 0)), (28, .iconst 3, 1, 0, (0, 0, 0, 0, 0, 3)), (29, .if_icmp .ne 41, 3, 0, (0, 0, 0, 0, 0, 0)), (32, .aload 5, 2, 0, (0, 0, 0, 0, 0, 0)), (34, .getfield 115, 3, 0, (10, 3, 3, 1, 0, 0)), (37, .aload_n 1, 1, 0, (0, 0, 0, 0, 0, 0)), (38, .getfield 115, 3, 0, (10, 3, 3, 0, 0, 0)), (41, .if_acmp .ne 29, 3, 0, (0, 0, 0, 0, 0, 0)), (44, .aload 5, 2, 0, (0, 0, 0, 0, 0, 0)), (46, .aload_n 1, 1, 0, (0, 0, 0, 0, 0, 0)), (47, .getfield 130, 3, 0, (10, 4, 4, 0, 0, 0)), (50, .aload_n 1, 1, 0, (0, 0, 0, 0, 0, 0)), (51, .getfield 151, 3, 0, (10, 5, 1, 0, 0, 0)), (54, .ifCond .ne 7, 3, 0, (0, 0, 0, 0, 0, 0)), (57, .iconst 1, 1, 0, (0, 0, 0, 0, 0, 1)), (58, .goto 4, 3, 0, (0, 0, 0, 0, 0, 0)), (61, .iconst 0, 1, 0, (0, 0, 0, 0, 0, 0)), (62, .invokevirtual 72, 3, 0, (0, 3, 0, 0, 1, 0)), (65, .ifCond .eq 5, 3, 0, (0, 0, 0, 0, 0, 0)), (68, .iconst 1, 1, 0, (0, 0, 0, 0, 0, 1)), (69, .ireturn, 1, 0, (1, 0, 0, 0, 0, 0)), (70, .iinc 4 1, 3, 0, (0, 0, 0, 0, 0, 1)), (73, .goto (-62), 3, 0, (0, 0, 0, 0, 0, 0)), (76, .iconst 0, 1, 0, (0, 0, 0, 0, 0, 0)), (77, .ireturn, 1, 0, (1, 0, 0, 0, 0, 0))]
set_option maxRecDepth 100000 in
theorem rk92 : R92.all (rok 0 92 1 [(144, [13, 4, 0])]) = true := by decide +kernel
set_option maxRecDepth 100000 in
theorem tab92 {F144 : PM → Nat → Nat → Int32 → Int32} {G144 : PM → Nat → Nat → Int32 → Prop} : TabOK 0 92 1 [CC144 F144 G144] R92 := tab_ok (K := K92) rfl rfl (fun h => d92 h) rk92 (by decide +kernel)
set_option maxRecDepth 100000 in
theorem pc92 : cutpc [11] R92 = true := by decide +kernel
set_option maxRecDepth 100000 in
theorem r6_hasOtherSide_11 (p : PM) (hg : Gr 0 p) (F144 : PM → Nat → Nat → Int32 → Int32) (G144 : PM → Nat → Nat → Int32 → Prop) (o144 : CalOK 0 (CC144 F144 G144)) (kv11 : Nat → Int32 → Int32) (kg11 : Nat → Int32 → Prop) (hk11 : ∀ (v1 : Nat) (v4 : Int32) (d0 d5 : ZV), kg11 v1 v4 → ZJ 0 92 11 [d0, zR 10 v1, zR 20 1, zC 40, zI v4, d5] [] p (hoI p (kv11 v1 v4))) : ∀ (v1 : Nat) (v4 : Int32) (d0 d5 : ZV), bg6_hasOtherSide_11 p F144 G144 kg11 v1 v4 → ZJ 0 92 11 [d0, zR 10 v1, zR 20 1, zC 40, zI v4, d5] [] p (hoI p (bv6_hasOtherSide_11 p F144 kv11 v1 v4)) := by
  intro v1 v4 d0 d5 H
  exact roI (n := 3000) (q := 11) (la := [d0, zR 10 v1, zR 20 1, zC 40, zI v4, d5]) (sa := []) (ks := [fun la sa _ => kv11 (ar la 1) (ai la 4)]) (gs := [fun la sa _ => zsw (tc2 la [(2, 0), (14, 0), (120, 1), (3, 40), (0, 0), (2, 0)] && tc2 sa []) False (kg11 (ar la 1) (ai la 4))]) (fcons o144 (fnil)) tab92 pc92 ⟨fun la sa s hg H => zcut H fun H => hk11 (ar la 1) (ai la 4) (zld la 0) (zld la 5) H, trivial⟩ hg H
theorem t6_hasOtherSide_11 (p : PM) (hg : Gr 0 p) : ∀ (n : Nat), ∀ (v1 : Nat) (v4 : Int32) (d0 d5 : ZV), g6_hasOtherSide_11 p n v1 v4 → ZJ 0 92 11 [d0, zR 10 v1, zR 20 1, zC 40, zI v4, d5] [] p (hoI p (v6_hasOtherSide_11 p n v1 v4)) := by
  intro n
  induction n with
  | zero =>
    intro v1 v4 d0 d5 H
    exact H.elim
  | succ n ih => exact r6_hasOtherSide_11 p hg v10_standsIn g10_standsIn ok144 (v6_hasOtherSide_11 p n) (g6_hasOtherSide_11 p n) ih
set_option maxRecDepth 100000 in
theorem r6_hasOtherSide (p : PM) (hg : Gr 0 p) (F144 : PM → Nat → Nat → Int32 → Int32) (G144 : PM → Nat → Nat → Int32 → Prop) (o144 : CalOK 0 (CC144 F144 G144)) (kv11 : Nat → Int32 → Int32) (kg11 : Nat → Int32 → Prop) (hk11 : ∀ (v1 : Nat) (v4 : Int32) (d0 d5 : ZV), kg11 v1 v4 → ZJ 0 92 11 [d0, zR 10 v1, zR 20 1, zC 40, zI v4, d5] [] p (hoI p (kv11 v1 v4))) : ∀ (v1 : Nat), bg6_hasOtherSide p kg11 v1 → ZJ 0 92 0 [zR 6 1, zR 10 v1, zJ, zJ, zJ, zJ] [] p (hoI p (bv6_hasOtherSide p kv11 v1)) := by
  intro v1  H
  exact roI (n := 3000) (q := 0) (la := [zR 6 1, zR 10 v1, zJ, zJ, zJ, zJ]) (sa := []) (ks := [fun la sa _ => kv11 (ar la 1) (ai la 4)]) (gs := [fun la sa _ => zsw (tc2 la [(2, 0), (14, 0), (120, 1), (3, 40), (0, 0), (2, 0)] && tc2 sa []) False (kg11 (ar la 1) (ai la 4))]) (fcons o144 (fnil)) tab92 pc92 ⟨fun la sa s hg H => zcut H fun H => hk11 (ar la 1) (ai la 4) (zld la 0) (zld la 5) H, trivial⟩ hg H
theorem t6_hasOtherSide (p : PM) (hg : Gr 0 p) : ∀ (v1 : Nat), g6_hasOtherSide p v1 → ZJ 0 92 0 [zR 6 1, zR 10 v1, zJ, zJ, zJ, zJ] [] p (hoI p (v6_hasOtherSide p v1)) := r6_hasOtherSide p hg v10_standsIn g10_standsIn ok144 (v6_hasOtherSide_11 p FU) (g6_hasOtherSide_11 p FU) (t6_hasOtherSide_11 p hg FU)
def CC92 (F : PM → Nat → Int32) (G : PM → Nat → Prop) : Cal := (92, [9, 13], 1, true, fun as p => (zI (F p (ar as 1)), p), fun as p => zsw (tc2 as [(106, 1), (14, 0)]) False (G p (ar as 1)))
set_option maxRecDepth 100000 in
theorem okr92 (F : PM → Nat → Int32) (G : PM → Nat → Prop) (h : ∀ (p : PM) (v1 : Nat), Gr 0 p → G p v1 → ZJ 0 92 0 [zR 6 1, zR 10 v1, zJ, zJ, zJ, zJ] [] p (hoI p (F p v1))) : CalOK 0 (CC92 F G) := cal_ok (m := 6) (by unfold mL; rw [mX_92]) (fun as p hg H => h p (ar as 1) hg H)
theorem ok92 : CalOK 0 (CC92 v6_hasOtherSide g6_hasOtherSide) := okr92 v6_hasOtherSide g6_hasOtherSide (fun p v1 hg H => t6_hasOtherSide p hg v1 H)
