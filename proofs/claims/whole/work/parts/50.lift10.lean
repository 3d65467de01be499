/-! methods as functions over one part, by program (wip/whole/lift.py) -/
noncomputable def bv12_doPeg (F215 : PM → Int32 → Int32 → Int32 → Int32) (F219 : PM → Int32 → Int32 → Int32) (F224 : PM → Int32 → Int32 → Int32 → Int32 → Int32 → Int32 → Int32 → Int32 × PM) (F280 : PM → Int32 → Int32) (F281 : PM → Int32 → Int32) (F282 : PM → Int32 → Int32 → Int32 → Int32) (p : PM) (v1 : Int32) (v2 : Int32) (v3 : Int32) (v4 : Int32) (v5 : Int32) : Int32 × PM :=
  if (F280 p v1) = 0 then (
    let p1 : PM := pI p 12 1 0 (cn 1)
    if (p1.1 12 1 0) = 0 then (
      let r2 : Int32 × PM := F224 p1 v1 v2 v4 v3 (cn 0) (cn 2) (p1.1 12 1 18)
      let p3 : PM := pI r2.2 13 26 (r2.1).toNatClampNeg v5
      (((p3.1 12 1 39) - (cn 1)), p3))
    else (
      ((cn 0), p1)))
  else (
    if (F215 p v2 (cn 0) (cn 5)) = 0 then (
      let p19 : PM := pI p 12 1 0 (cn 1)
      if (p19.1 12 1 0) = 0 then (
        let r20 : Int32 × PM := F224 p19 v1 v2 v4 v3 (cn 0) (cn 2) (p19.1 12 1 18)
        let p21 : PM := pI r20.2 13 26 (r20.1).toNatClampNeg v5
        (((p21.1 12 1 39) - (cn 1)), p21))
      else (
        ((cn 0), p19)))
    else (
      if (F219 p v2 v3) = 0 then (
        let p4 : PM := pI p 12 1 0 (cn 2)
        if (p4.1 12 1 0) = 0 then (
          let r5 : Int32 × PM := F224 p4 v1 v2 v4 v3 (cn 0) (cn 2) (p4.1 12 1 18)
          let p6 : PM := pI r5.2 13 26 (r5.1).toNatClampNeg v5
          (((p6.1 12 1 39) - (cn 1)), p6))
        else (
          ((cn 0), p4)))
      else (
        if (F281 p v4) = 0 then (
          let p7 : PM := pI p 12 1 0 (cn 2)
          if (p7.1 12 1 0) = 0 then (
            let r8 : Int32 × PM := F224 p7 v1 v2 v4 v3 (cn 0) (cn 2) (p7.1 12 1 18)
            let p9 : PM := pI r8.2 13 26 (r8.1).toNatClampNeg v5
            (((p9.1 12 1 39) - (cn 1)), p9))
          else (
            ((cn 0), p7)))
        else (
          if (F215 p v5 (cn 0) (cn 99)) = 0 then (
            let p16 : PM := pI p 12 1 0 (cn 2)
            if (p16.1 12 1 0) = 0 then (
              let r17 : Int32 × PM := F224 p16 v1 v2 v4 v3 (cn 0) (cn 2) (p16.1 12 1 18)
              let p18 : PM := pI r17.2 13 26 (r17.1).toNatClampNeg v5
              (((p18.1 12 1 39) - (cn 1)), p18))
            else (
              ((cn 0), p16)))
          else (
            if (F282 p v1 v2 v4) = 0 then (
              let p10 : PM := pI p 12 1 0 (cn 0)
              if (p10.1 12 1 0) = 0 then (
                let r11 : Int32 × PM := F224 p10 v1 v2 v4 v3 (cn 0) (cn 2) (p10.1 12 1 18)
                let p12 : PM := pI r11.2 13 26 (r11.1).toNatClampNeg v5
                (((p12.1 12 1 39) - (cn 1)), p12))
              else (
                ((cn 0), p10)))
            else (
              let p13 : PM := pI p 12 1 0 (cn 3)
              if (p13.1 12 1 0) = 0 then (
                let r14 : Int32 × PM := F224 p13 v1 v2 v4 v3 (cn 0) (cn 2) (p13.1 12 1 18)
                let p15 : PM := pI r14.2 13 26 (r14.1).toNatClampNeg v5
                (((p15.1 12 1 39) - (cn 1)), p15))
              else (
                ((cn 0), p13))))))))
noncomputable def v12_doPeg (p : PM) (v1 : Int32) (v2 : Int32) (v3 : Int32) (v4 : Int32) (v5 : Int32) : Int32 × PM := bv12_doPeg v12_in v12_isPrice v12_newOrder v12_isAccount v12_isQuantity v12_isShut p v1 v2 v3 v4 v5
noncomputable def bg12_doPeg (F215 : PM → Int32 → Int32 → Int32 → Int32) (G215 : PM → Int32 → Int32 → Int32 → Prop) (F219 : PM → Int32 → Int32 → Int32) (G219 : PM → Int32 → Int32 → Prop) (F224 : PM → Int32 → Int32 → Int32 → Int32 → Int32 → Int32 → Int32 → Int32 × PM) (G224 : PM → Int32 → Int32 → Int32 → Int32 → Int32 → Int32 → Int32 → Prop) (F280 : PM → Int32 → Int32) (G280 : PM → Int32 → Prop) (F281 : PM → Int32 → Int32) (G281 : PM → Int32 → Prop) (F282 : PM → Int32 → Int32 → Int32 → Int32) (G282 : PM → Int32 → Int32 → Int32 → Prop) (p : PM) (v1 : Int32) (v2 : Int32) (v3 : Int32) (v4 : Int32) (v5 : Int32) : Prop :=
  (G280 p v1) ∧ (
  if (F280 p v1) = 0 then (
    let p1 : PM := pI p 12 1 0 (cn 1)
    if (p1.1 12 1 0) = 0 then (
      (G224 p1 v1 v2 v4 v3 (cn 0) (cn 2) (p1.1 12 1 18)) ∧ (
      let r2 : Int32 × PM := F224 p1 v1 v2 v4 v3 (cn 0) (cn 2) (p1.1 12 1 18)
      (inb r2.1 44) ∧ (
      let p3 : PM := pI r2.2 13 26 (r2.1).toNatClampNeg v5
      True)))
    else (
      True))
  else (
    (G215 p v2 (cn 0) (cn 5)) ∧ (
    if (F215 p v2 (cn 0) (cn 5)) = 0 then (
      let p19 : PM := pI p 12 1 0 (cn 1)
      if (p19.1 12 1 0) = 0 then (
        (G224 p19 v1 v2 v4 v3 (cn 0) (cn 2) (p19.1 12 1 18)) ∧ (
        let r20 : Int32 × PM := F224 p19 v1 v2 v4 v3 (cn 0) (cn 2) (p19.1 12 1 18)
        (inb r20.1 44) ∧ (
        let p21 : PM := pI r20.2 13 26 (r20.1).toNatClampNeg v5
        True)))
      else (
        True))
    else (
      (G219 p v2 v3) ∧ (
      if (F219 p v2 v3) = 0 then (
        let p4 : PM := pI p 12 1 0 (cn 2)
        if (p4.1 12 1 0) = 0 then (
          (G224 p4 v1 v2 v4 v3 (cn 0) (cn 2) (p4.1 12 1 18)) ∧ (
          let r5 : Int32 × PM := F224 p4 v1 v2 v4 v3 (cn 0) (cn 2) (p4.1 12 1 18)
          (inb r5.1 44) ∧ (
          let p6 : PM := pI r5.2 13 26 (r5.1).toNatClampNeg v5
          True)))
        else (
          True))
      else (
        (G281 p v4) ∧ (
        if (F281 p v4) = 0 then (
          let p7 : PM := pI p 12 1 0 (cn 2)
          if (p7.1 12 1 0) = 0 then (
            (G224 p7 v1 v2 v4 v3 (cn 0) (cn 2) (p7.1 12 1 18)) ∧ (
            let r8 : Int32 × PM := F224 p7 v1 v2 v4 v3 (cn 0) (cn 2) (p7.1 12 1 18)
            (inb r8.1 44) ∧ (
            let p9 : PM := pI r8.2 13 26 (r8.1).toNatClampNeg v5
            True)))
          else (
            True))
        else (
          (G215 p v5 (cn 0) (cn 99)) ∧ (
          if (F215 p v5 (cn 0) (cn 99)) = 0 then (
            let p16 : PM := pI p 12 1 0 (cn 2)
            if (p16.1 12 1 0) = 0 then (
              (G224 p16 v1 v2 v4 v3 (cn 0) (cn 2) (p16.1 12 1 18)) ∧ (
              let r17 : Int32 × PM := F224 p16 v1 v2 v4 v3 (cn 0) (cn 2) (p16.1 12 1 18)
              (inb r17.1 44) ∧ (
              let p18 : PM := pI r17.2 13 26 (r17.1).toNatClampNeg v5
              True)))
            else (
              True))
          else (
            (G282 p v1 v2 v4) ∧ (
            if (F282 p v1 v2 v4) = 0 then (
              let p10 : PM := pI p 12 1 0 (cn 0)
              if (p10.1 12 1 0) = 0 then (
                (G224 p10 v1 v2 v4 v3 (cn 0) (cn 2) (p10.1 12 1 18)) ∧ (
                let r11 : Int32 × PM := F224 p10 v1 v2 v4 v3 (cn 0) (cn 2) (p10.1 12 1 18)
                (inb r11.1 44) ∧ (
                let p12 : PM := pI r11.2 13 26 (r11.1).toNatClampNeg v5
                True)))
              else (
                True))
            else (
              let p13 : PM := pI p 12 1 0 (cn 3)
              if (p13.1 12 1 0) = 0 then (
                (G224 p13 v1 v2 v4 v3 (cn 0) (cn 2) (p13.1 12 1 18)) ∧ (
                let r14 : Int32 × PM := F224 p13 v1 v2 v4 v3 (cn 0) (cn 2) (p13.1 12 1 18)
                (inb r14.1 44) ∧ (
                let p15 : PM := pI r14.2 13 26 (r14.1).toNatClampNeg v5
                True)))
              else (
                True)))))))))))))
noncomputable def g12_doPeg (p : PM) (v1 : Int32) (v2 : Int32) (v3 : Int32) (v4 : Int32) (v5 : Int32) : Prop := bg12_doPeg v12_in g12_in v12_isPrice g12_isPrice v12_newOrder g12_newOrder v12_isAccount g12_isAccount v12_isQuantity g12_isQuantity v12_isShut g12_isShut p v1 v2 v3 v4 v5
def R287 : List Row := [(0, .aload_n 0, 1, 0, (0, 0, 0, 0, 0, 0)), (1, .iload_n 1, 1, 0, (0, 0, 0, 0, 0, 0)), (2, .invokestatic 429, 3, 0, (0, 1, 0, 0, 0, 0)), (5, .ifCond .eq 12, 3, 0, (0, 0, 0, 0, 0, 0)), (8, .iload_n 2, 1, 0, (0, 0, 0, 0, 0, 0)), (9, .iconst 0, 1, 0, (0, 0, 0, 0, 0, 0)), (10, .iconst 5, 1, 0, (0, 0, 0, 0, 0, 5)), (11, .invokestatic 209, 3, 0, (2, 3, 0, 0, 0, 0)), (14, .ifCond .ne 7, 3, 0, (0, 0, 0, 0, 0, 0)), (17, .iconst 1, 1, 0, (0, 0, 0, 0, 0, 1)), (18, .goto 51, 3, 0, (0, 0, 0, 0, 0, 0)), (21, .iload_n 2, 1, 0, (0, 0, 0, 0, 0, 0)), (22, .iload_n 3, 1, 0, (0, 0, 0, 0, 0, 0)), (23, .invokestatic 334, 3, 0, (3, 2, 0, 0, 0, 0)), (26, .ifCond .eq 23, 3, 0, (0, 0, 0, 0, 0, 0)), (29, .aload_n 0, 1, 0, (0, 0, 0, 0, 0, 0)), (30, .iload 4, 2, 0, (0, 0, 0, 0, 0, 0)), (32, .invokevirtual 432, 3, 0, (4, 2, 0, 0, 1, 0)), (35, .ifCond .eq 14, 3, 0, (0, 0, 0, 0, 0, 0)), (38, .iload 5, 2, 0, (0, 0, 0, 0, 0, 0)), (40, .iconst 0, 1, 0, (0, 0, 0, 0, 0, 0)), (41, .bipush 99, 2, 0, (0, 0, 0, 0, 0, 99)), (43, .invokestatic 209, 3, 0, (2, 3, 0, 0, 0, 0)), (46, .ifCond .ne 7, 3, 0, (0, 0, 0, 0, 0, 0)), (49, .iconst 2, 1, 0, (0, 0, 0, 0, 0, 2)), (50, .goto 19, 3, 0, (0, 0, 0, 0, 0, 0)), (53, .aload_n 0, 1, 0, (0, 0, 0, 0, 0, 0)), (54, .iload_n 1, 1, 0, (0, 0, 0, 0, 0, 0)), (55, .iload_n 2, 1, 0, (0, 0, 0, 0, 0, 0)), (56, .iload 4, 2, 0, (0, 0, 0, 0, 0, 0)), (58, .invokevirtual 435, 3, 0, (5, 4, 0, 0, 1, 0)), (61, .ifCond .eq 7, 3, 0, (0, 0, 0, 0, 0, 0)), (64, .iconst 3, 1, 0, (0, 0, 0, 0, 0, 3)), (65, .goto 4, 3, 0, (0, 0, 0, 0, 0, 0)), (68, .iconst 0, 1, 0, (0, 0, 0, 0, 0, 0)), (69, .putfield 180, 3, 0, (12, 0, 0, 1, 0, 0)), (72, .aload_n 0, 1, 0, (0, 0, 0, 0, 0, 0)), (73, .getfield 180, 3, 0, (12, 0, 0, 1, 0, 0)), (76, .ifCond .eq 5, 3, 0, (0, 0, 0, 0, 0, 0)), (79, .iconst 0, 1, 0, (0, 0, 0, 0, 0, 0)), (80, .ireturn, 1, 0, (0, 0, 0, 0, 0, 0)), (81, .aload_n 0, 1, 0, (0, 0, 0, 0, 0, 0)), (82, .iload_n 1, 1, 0, (0, 0, 0, 0, 0, 0)), (83, .iload_n 2, 1, 0, (0, 0, 0, 0, 0, 0)), (84, .iload 4, 2, 0, (0, 0, 0, 0, 0, 0)), (86, .iload_n 3, 1, 0, (0, 0, 0, 0, 0, 0)), (87, .iconst 0, 1, 0, (0, 0, 0, 0, 0, 0)), (88, .iconst 2, 1, 0, (0, 0, 0, 0, 0, 2)), (89, .aload_n 0, 1, 0, (0, 0, 0, 0, 0, 0)), (90, .getfield 197, 3, 0, (12, 18, 0, 1, 0, 0)), (93, .invokevirtual 442, 3, 0, (1, 8, 0, 0, 1, 0)), (96, .istore 6, 2, 0, (0, 0, 0, 0, 0, 0)), (98, .aload_n 0, 1, 0, (0, 0, 0, 0, 0, 0)), (99, .getfield 105, 3, 0, (12, 34, 16, 2, 26, 0)), (102, .iload 6, 2, 0, (0, 0, 0, 0, 0, 0)), (104, .iload 5, 2, 0, (0, 0, 0, 0, 0, 0)), (106, .iastore, 1, 0, (13, 44, 0, 0, 0, 0)), (107, .aload_n 0, 1, 0, (0, 0, 0, 0, 0, 0)), (108, .getfield 200, 3, 0, (12, 39, 0, 1, 0, 0)), (111, .iconst 1, 1, 0, (0, 0, 0, 0, 0, 1)), (112, .isub, 1, 0, (0, 0, 0, 0, 0, 0)), (113, .ireturn, 1, 0, (0, 0, 0, 0, 0, 0))]
set_option maxRecDepth 100000 in
theorem rk287 : R287.all (rok 2 287 1 [(280, [0]), (224, [15, 0, 0, 0, 0, 0, 0, 0]), (215, [0, 0, 0]), (219, [0, 0]), (281, [15, 0]), (282, [15, 0, 0, 0])]) = true := by decide +kernel
set_option maxRecDepth 100000 in
theorem tab287 {F280 : PM → Int32 → Int32} {G280 : PM → Int32 → Prop} {F224 : PM → Int32 → Int32 → Int32 → Int32 → Int32 → Int32 → Int32 → Int32 × PM} {G224 : PM → Int32 → Int32 → Int32 → Int32 → Int32 → Int32 → Int32 → Prop} {F215 : PM → Int32 → Int32 → Int32 → Int32} {G215 : PM → Int32 → Int32 → Int32 → Prop} {F219 : PM → Int32 → Int32 → Int32} {G219 : PM → Int32 → Int32 → Prop} {F281 : PM → Int32 → Int32} {G281 : PM → Int32 → Prop} {F282 : PM → Int32 → Int32 → Int32 → Int32} {G282 : PM → Int32 → Int32 → Int32 → Prop} : TabOK 2 287 1 [CC280 F280 G280, CC224 F224 G224, CC215 F215 G215, CC219 F219 G219, CC281 F281 G281, CC282 F282 G282] R287 := tab_ok (K := K287) rfl rfl (fun h => d287 h) rk287 (by decide +kernel)
set_option maxRecDepth 100000 in
theorem pc287 : cutpc [] R287 = true := by decide +kernel
set_option maxRecDepth 100000 in
theorem r12_doPeg (F280 : PM → Int32 → Int32) (G280 : PM → Int32 → Prop) (o280 : CalOK 2 (CC280 F280 G280)) (F224 : PM → Int32 → Int32 → Int32 → Int32 → Int32 → Int32 → Int32 → Int32 × PM) (G224 : PM → Int32 → Int32 → Int32 → Int32 → Int32 → Int32 → Int32 → Prop) (o224 : CalOK 2 (CC224 F224 G224)) (F215 : PM → Int32 → Int32 → Int32 → Int32) (G215 : PM → Int32 → Int32 → Int32 → Prop) (o215 : CalOK 2 (CC215 F215 G215)) (F219 : PM → Int32 → Int32 → Int32) (G219 : PM → Int32 → Int32 → Prop) (o219 : CalOK 2 (CC219 F219 G219)) (F281 : PM → Int32 → Int32) (G281 : PM → Int32 → Prop) (o281 : CalOK 2 (CC281 F281 G281)) (F282 : PM → Int32 → Int32 → Int32 → Int32) (G282 : PM → Int32 → Int32 → Int32 → Prop) (o282 : CalOK 2 (CC282 F282 G282)) : ∀ (p : PM) (v1 : Int32) (v2 : Int32) (v3 : Int32) (v4 : Int32) (v5 : Int32), Gr 2 p → bg12_doPeg F215 G215 F219 G219 F224 G224 F280 G280 F281 G281 F282 G282 p v1 v2 v3 v4 v5 → ZJ 2 287 0 [zR 12 1, zI v1, zI v2, zI v3, zI v4, zI v5, zJ] [] p (hwI (bv12_doPeg F215 F219 F224 F280 F281 F282 p v1 v2 v3 v4 v5)) := by
  intro p v1 v2 v3 v4 v5  hg H
  exact rwI (n := 3000) (q := 0) (la := [zR 12 1, zI v1, zI v2, zI v3, zI v4, zI v5, zJ]) (sa := []) (ks := []) (gs := []) (fcons o280 (fcons o224 (fcons o215 (fcons o219 (fcons o281 (fcons o282 (fnil))))))) tab287 pc287 trivial hg H
theorem t12_doPeg : ∀ (p : PM) (v1 : Int32) (v2 : Int32) (v3 : Int32) (v4 : Int32) (v5 : Int32), Gr 2 p → g12_doPeg p v1 v2 v3 v4 v5 → ZJ 2 287 0 [zR 12 1, zI v1, zI v2, zI v3, zI v4, zI v5, zJ] [] p (hwI (v12_doPeg p v1 v2 v3 v4 v5)) := r12_doPeg v12_isAccount g12_isAccount ok280 v12_newOrder g12_newOrder ok224 v12_in g12_in ok215 v12_isPrice g12_isPrice ok219 v12_isQuantity g12_isQuantity ok281 v12_isShut g12_isShut ok282
def CC287 (F : PM → Int32 → Int32 → Int32 → Int32 → Int32 → Int32 × PM) (G : PM → Int32 → Int32 → Int32 → Int32 → Int32 → Prop) : Cal := (287, [15, 0, 0, 0, 0, 0], 1, false, fun as p => (zI (F p (ai as 1) (ai as 2) (ai as 3) (ai as 4) (ai as 5)).1, (F p (ai as 1) (ai as 2) (ai as 3) (ai as 4) (ai as 5)).2), fun as p => zsw (tc2 as [(112, 1), (0, 0), (0, 0), (0, 0), (0, 0), (0, 0)]) False (G p (ai as 1) (ai as 2) (ai as 3) (ai as 4) (ai as 5)))
set_option maxRecDepth 100000 in
theorem okr287 (F : PM → Int32 → Int32 → Int32 → Int32 → Int32 → Int32 × PM) (G : PM → Int32 → Int32 → Int32 → Int32 → Int32 → Prop) (h : ∀ (p : PM) (v1 : Int32) (v2 : Int32) (v3 : Int32) (v4 : Int32) (v5 : Int32), Gr 2 p → G p v1 v2 v3 v4 v5 → ZJ 2 287 0 [zR 12 1, zI v1, zI v2, zI v3, zI v4, zI v5, zJ] [] p (hwI (F p v1 v2 v3 v4 v5))) : CalOK 2 (CC287 F G) := cal_ok (m := 7) (by unfold mL; rw [mX_287]) (fun as p hg H => h p (ai as 1) (ai as 2) (ai as 3) (ai as 4) (ai as 5) hg H)
theorem ok287 : CalOK 2 (CC287 v12_doPeg g12_doPeg) := okr287 v12_doPeg g12_doPeg t12_doPeg
noncomputable def bv12_doStop_17 (F224 : PM → Int32 → Int32 → Int32 → Int32 → Int32 → Int32 → Int32 → Int32 × PM) (p : PM) (v1 : Int32) (v2 : Int32) (v3 : Int32) (v4 : Int32) (v5 : Int32) : Int32 × PM :=
  let p1 : PM := pI p 12 1 0 (cn 1)
  if (p1.1 12 1 0) = 0 then (
    if v4 = 0 then (
      let r4 : Int32 × PM := F224 p1 v1 v2 v5 v4 (cn 1) (cn 3) (p1.1 12 1 18)
      let p5 : PM := pI r4.2 13 27 (r4.1).toNatClampNeg v3
      (((p5.1 12 1 39) - (cn 1)), p5))
    else (
      let r2 : Int32 × PM := F224 p1 v1 v2 v5 v4 (cn 0) (cn 3) (p1.1 12 1 18)
      let p3 : PM := pI r2.2 13 27 (r2.1).toNatClampNeg v3
      (((p3.1 12 1 39) - (cn 1)), p3)))
  else (
    ((cn 0), p1))
noncomputable def v12_doStop_17 (p : PM) (v1 : Int32) (v2 : Int32) (v3 : Int32) (v4 : Int32) (v5 : Int32) : Int32 × PM := bv12_doStop_17 v12_newOrder p v1 v2 v3 v4 v5
noncomputable def bg12_doStop_17 (F224 : PM → Int32 → Int32 → Int32 → Int32 → Int32 → Int32 → Int32 → Int32 × PM) (G224 : PM → Int32 → Int32 → Int32 → Int32 → Int32 → Int32 → Int32 → Prop) (p : PM) (v1 : Int32) (v2 : Int32) (v3 : Int32) (v4 : Int32) (v5 : Int32) : Prop :=
  let p1 : PM := pI p 12 1 0 (cn 1)
  if (p1.1 12 1 0) = 0 then (
    if v4 = 0 then (
      (G224 p1 v1 v2 v5 v4 (cn 1) (cn 3) (p1.1 12 1 18)) ∧ (
      let r4 : Int32 × PM := F224 p1 v1 v2 v5 v4 (cn 1) (cn 3) (p1.1 12 1 18)
      (inb r4.1 44) ∧ (
      let p5 : PM := pI r4.2 13 27 (r4.1).toNatClampNeg v3
      True)))
    else (
      (G224 p1 v1 v2 v5 v4 (cn 0) (cn 3) (p1.1 12 1 18)) ∧ (
      let r2 : Int32 × PM := F224 p1 v1 v2 v5 v4 (cn 0) (cn 3) (p1.1 12 1 18)
      (inb r2.1 44) ∧ (
      let p3 : PM := pI r2.2 13 27 (r2.1).toNatClampNeg v3
      True))))
  else (
    True)
noncomputable def g12_doStop_17 (p : PM) (v1 : Int32) (v2 : Int32) (v3 : Int32) (v4 : Int32) (v5 : Int32) : Prop := bg12_doStop_17 v12_newOrder g12_newOrder p v1 v2 v3 v4 v5
noncomputable def bv12_doStop_53 (F224 : PM → Int32 → Int32 → Int32 → Int32 → Int32 → Int32 → Int32 → Int32 × PM) (p : PM) (v1 : Int32) (v2 : Int32) (v3 : Int32) (v4 : Int32) (v5 : Int32) : Int32 × PM :=
  let p1 : PM := pI p 12 1 0 (cn 2)
  if (p1.1 12 1 0) = 0 then (
    if v4 = 0 then (
      let r4 : Int32 × PM := F224 p1 v1 v2 v5 v4 (cn 1) (cn 3) (p1.1 12 1 18)
      let p5 : PM := pI r4.2 13 27 (r4.1).toNatClampNeg v3
      (((p5.1 12 1 39) - (cn 1)), p5))
    else (
      let r2 : Int32 × PM := F224 p1 v1 v2 v5 v4 (cn 0) (cn 3) (p1.1 12 1 18)
      let p3 : PM := pI r2.2 13 27 (r2.1).toNatClampNeg v3
      (((p3.1 12 1 39) - (cn 1)), p3)))
  else (
    ((cn 0), p1))
noncomputable def v12_doStop_53 (p : PM) (v1 : Int32) (v2 : Int32) (v3 : Int32) (v4 : Int32) (v5 : Int32) : Int32 × PM := bv12_doStop_53 v12_newOrder p v1 v2 v3 v4 v5
noncomputable def bg12_doStop_53 (F224 : PM → Int32 → Int32 → Int32 → Int32 → Int32 → Int32 → Int32 → Int32 × PM) (G224 : PM → Int32 → Int32 → Int32 → Int32 → Int32 → Int32 → Int32 → Prop) (p : PM) (v1 : Int32) (v2 : Int32) (v3 : Int32) (v4 : Int32) (v5 : Int32) : Prop :=
  let p1 : PM := pI p 12 1 0 (cn 2)
  if (p1.1 12 1 0) = 0 then (
    if v4 = 0 then (
      (G224 p1 v1 v2 v5 v4 (cn 1) (cn 3) (p1.1 12 1 18)) ∧ (
      let r4 : Int32 × PM := F224 p1 v1 v2 v5 v4 (cn 1) (cn 3) (p1.1 12 1 18)
      (inb r4.1 44) ∧ (
      let p5 : PM := pI r4.2 13 27 (r4.1).toNatClampNeg v3
      True)))
    else (
      (G224 p1 v1 v2 v5 v4 (cn 0) (cn 3) (p1.1 12 1 18)) ∧ (
      let r2 : Int32 × PM := F224 p1 v1 v2 v5 v4 (cn 0) (cn 3) (p1.1 12 1 18)
      (inb r2.1 44) ∧ (
      let p3 : PM := pI r2.2 13 27 (r2.1).toNatClampNeg v3
      True))))
  else (
    True)
noncomputable def g12_doStop_53 (p : PM) (v1 : Int32) (v2 : Int32) (v3 : Int32) (v4 : Int32) (v5 : Int32) : Prop := bg12_doStop_53 v12_newOrder g12_newOrder p v1 v2 v3 v4 v5
noncomputable def bv12_doStop (F215 : PM → Int32 → Int32 → Int32 → Int32) (F224 : PM → Int32 → Int32 → Int32 → Int32 → Int32 → Int32 → Int32 → Int32 × PM) (F280 : PM → Int32 → Int32) (F281 : PM → Int32 → Int32) (F282 : PM → Int32 → Int32 → Int32 → Int32) (kv17 : PM → Int32 → Int32 → Int32 → Int32 → Int32 → Int32 × PM) (kv53 : PM → Int32 → Int32 → Int32 → Int32 → Int32 → Int32 × PM) (p : PM) (v1 : Int32) (v2 : Int32) (v3 : Int32) (v4 : Int32) (v5 : Int32) : Int32 × PM :=
  if (F280 p v1) = 0 then (
    kv17 p v1 v2 v3 v4 v5)
  else (
    if (F215 p v2 (cn 0) (cn 3)) = 0 then (
      kv17 p v1 v2 v3 v4 v5)
    else (
      if (F215 p v3 (cn 1) (cn 9999)) = 0 then (
        kv53 p v1 v2 v3 v4 v5)
      else (
        if (F215 p v4 (cn 0) (cn 9999)) = 0 then (
          kv53 p v1 v2 v3 v4 v5)
        else (
          if (F281 p v5) = 0 then (
            kv53 p v1 v2 v3 v4 v5)
          else (
            if (F282 p v1 v2 v5) = 0 then (
              let p1 : PM := pI p 12 1 0 (cn 0)
              if (p1.1 12 1 0) = 0 then (
                if v4 = 0 then (
                  let r4 : Int32 × PM := F224 p1 v1 v2 v5 v4 (cn 1) (cn 3) (p1.1 12 1 18)
                  let p5 : PM := pI r4.2 13 27 (r4.1).toNatClampNeg v3
                  (((p5.1 12 1 39) - (cn 1)), p5))
                else (
                  let r2 : Int32 × PM := F224 p1 v1 v2 v5 v4 (cn 0) (cn 3) (p1.1 12 1 18)
                  let p3 : PM := pI r2.2 13 27 (r2.1).toNatClampNeg v3
                  (((p3.1 12 1 39) - (cn 1)), p3)))
              else (
                ((cn 0), p1)))
            else (
              let p6 : PM := pI p 12 1 0 (cn 3)
              if (p6.1 12 1 0) = 0 then (
                if v4 = 0 then (
                  let r9 : Int32 × PM := F224 p6 v1 v2 v5 v4 (cn 1) (cn 3) (p6.1 12 1 18)
                  let p10 : PM := pI r9.2 13 27 (r9.1).toNatClampNeg v3
                  (((p10.1 12 1 39) - (cn 1)), p10))
                else (
                  let r7 : Int32 × PM := F224 p6 v1 v2 v5 v4 (cn 0) (cn 3) (p6.1 12 1 18)
                  let p8 : PM := pI r7.2 13 27 (r7.1).toNatClampNeg v3
                  (((p8.1 12 1 39) - (cn 1)), p8)))
              else (
                ((cn 0), p6))))))))
noncomputable def v12_doStop (p : PM) (v1 : Int32) (v2 : Int32) (v3 : Int32) (v4 : Int32) (v5 : Int32) : Int32 × PM := bv12_doStop v12_in v12_newOrder v12_isAccount v12_isQuantity v12_isShut v12_doStop_17 v12_doStop_53 p v1 v2 v3 v4 v5
noncomputable def bg12_doStop (F215 : PM → Int32 → Int32 → Int32 → Int32) (G215 : PM → Int32 → Int32 → Int32 → Prop) (F224 : PM → Int32 → Int32 → Int32 → Int32 → Int32 → Int32 → Int32 → Int32 × PM) (G224 : PM → Int32 → Int32 → Int32 → Int32 → Int32 → Int32 → Int32 → Prop) (F280 : PM → Int32 → Int32) (G280 : PM → Int32 → Prop) (F281 : PM → Int32 → Int32) (G281 : PM → Int32 → Prop) (F282 : PM → Int32 → Int32 → Int32 → Int32) (G282 : PM → Int32 → Int32 → Int32 → Prop) (kg17 : PM → Int32 → Int32 → Int32 → Int32 → Int32 → Prop) (kg53 : PM → Int32 → Int32 → Int32 → Int32 → Int32 → Prop) (p : PM) (v1 : Int32) (v2 : Int32) (v3 : Int32) (v4 : Int32) (v5 : Int32) : Prop :=
  (G280 p v1) ∧ (
  if (F280 p v1) = 0 then (
    kg17 p v1 v2 v3 v4 v5)
  else (
    (G215 p v2 (cn 0) (cn 3)) ∧ (
    if (F215 p v2 (cn 0) (cn 3)) = 0 then (
      kg17 p v1 v2 v3 v4 v5)
    else (
      (G215 p v3 (cn 1) (cn 9999)) ∧ (
      if (F215 p v3 (cn 1) (cn 9999)) = 0 then (
        kg53 p v1 v2 v3 v4 v5)
      else (
        (G215 p v4 (cn 0) (cn 9999)) ∧ (
        if (F215 p v4 (cn 0) (cn 9999)) = 0 then (
          kg53 p v1 v2 v3 v4 v5)
        else (
          (G281 p v5) ∧ (
          if (F281 p v5) = 0 then (
            kg53 p v1 v2 v3 v4 v5)
          else (
            (G282 p v1 v2 v5) ∧ (
            if (F282 p v1 v2 v5) = 0 then (
              let p1 : PM := pI p 12 1 0 (cn 0)
              if (p1.1 12 1 0) = 0 then (
                if v4 = 0 then (
                  (G224 p1 v1 v2 v5 v4 (cn 1) (cn 3) (p1.1 12 1 18)) ∧ (
                  let r4 : Int32 × PM := F224 p1 v1 v2 v5 v4 (cn 1) (cn 3) (p1.1 12 1 18)
                  (inb r4.1 44) ∧ (
                  let p5 : PM := pI r4.2 13 27 (r4.1).toNatClampNeg v3
                  True)))
                else (
                  (G224 p1 v1 v2 v5 v4 (cn 0) (cn 3) (p1.1 12 1 18)) ∧ (
                  let r2 : Int32 × PM := F224 p1 v1 v2 v5 v4 (cn 0) (cn 3) (p1.1 12 1 18)
                  (inb r2.1 44) ∧ (
                  let p3 : PM := pI r2.2 13 27 (r2.1).toNatClampNeg v3
                  True))))
              else (
                True))
            else (
              let p6 : PM := pI p 12 1 0 (cn 3)
              if (p6.1 12 1 0) = 0 then (
                if v4 = 0 then (
                  (G224 p6 v1 v2 v5 v4 (cn 1) (cn 3) (p6.1 12 1 18)) ∧ (
                  let r9 : Int32 × PM := F224 p6 v1 v2 v5 v4 (cn 1) (cn 3) (p6.1 12 1 18)
                  (inb r9.1 44) ∧ (
                  let p10 : PM := pI r9.2 13 27 (r9.1).toNatClampNeg v3
                  True)))
                else (
                  (G224 p6 v1 v2 v5 v4 (cn 0) (cn 3) (p6.1 12 1 18)) ∧ (
                  let r7 : Int32 × PM := F224 p6 v1 v2 v5 v4 (cn 0) (cn 3) (p6.1 12 1 18)
                  (inb r7.1 44) ∧ (
                  let p8 : PM := pI r7.2 13 27 (r7.1).toNatClampNeg v3
                  True))))
              else (
                True)))))))))))))
noncomputable def g12_doStop (p : PM) (v1 : Int32) (v2 : Int32) (v3 : Int32) (v4 : Int32) (v5 : Int32) : Prop := bg12_doStop v12_in g12_in v12_newOrder g12_newOrder v12_isAccount g12_isAccount v12_isQuantity g12_isQuantity v12_isShut g12_isShut g12_doStop_17 g12_doStop_53 p v1 v2 v3 v4 v5
def R288 : List Row := [(0, .aload_n 0, 1, 0, (0, 0, 0, 0, 0, 0)), (1, .iload_n 1, 1, 0, (0, 0, 0, 0, 0, 0)), (2, .invokestatic 429, 3, 0, (0, 1, 0, 0, 0, 0)), (5, .ifCond .eq 12, 3, 0, (0, 0, 0, 0, 0, 0)), (8, .iload_n 2, 1, 0, (0, 0, 0, 0, 0, 0)), (9, .iconst 0, 1, 0, (0, 0, 0, 0, 0, 0)), (10, .iconst 3, 1, 0, (0, 0, 0, 0, 0, 3)), (11, .invokestatic 209, 3, 0, (1, 3, 0, 0, 0, 0)), (14, .ifCond .ne 7, 3, 0, (0, 0, 0, 0, 0, 0)), (17, .iconst 1, 1, 1, (0, 0, 0, 0, 0, 1)), (18, .goto 55, 3, 0, (0, 0, 0, 0, 0, 0)), (21, .iload_n 3, 1, 0, (0, 0, 0, 0, 0, 0)), (22, .iconst 1, 1, 0, (0, 0, 0, 0, 0, 1)), (23, .sipush 9999, 3, 0, (0, 0, 0, 0, 0, 9999)), (26, .invokestatic 209, 3, 0, (1, 3, 0, 0, 0, 0)), (29, .ifCond .eq 24, 3, 0, (0, 0, 0, 0, 0, 0)), (32, .iload 4, 2, 0, (0, 0, 0, 0, 0, 0)), (34, .iconst 0, 1, 0, (0, 0, 0, 0, 0, 0)), (35, .sipush 9999, 3, 0, (0, 0, 0, 0, 0, 9999)), (38, .invokestatic 209, 3, 0, (1, 3, 0, 0, 0, 0)), (41, .ifCond .eq 12, 3, 0, (0, 0, 0, 0, 0, 0)), (44, .aload_n 0, 1, 0, (0, 0, 0, 0, 0, 0)), (45, .iload 5, 2, 0, (0, 0, 0, 0, 0, 0)), (47, .invokevirtual 432, 3, 0, (2, 2, 0, 0, 1, 0)), (50, .ifCond .ne 7, 3, 0, (0, 0, 0, 0, 0, 0)), (53, .iconst 2, 1, 2, (0, 0, 0, 0, 0, 2)), (54, .goto 19, 3, 0, (0, 0, 0, 0, 0, 0)), (57, .aload_n 0, 1, 0, (0, 0, 0, 0, 0, 0)), (58, .iload_n 1, 1, 0, (0, 0, 0, 0, 0, 0)), (59, .iload_n 2, 1, 0, (0, 0, 0, 0, 0, 0)), (60, .iload 5, 2, 0, (0, 0, 0, 0, 0, 0)), (62, .invokevirtual 435, 3, 0, (3, 4, 0, 0, 1, 0)), (65, .ifCond .eq 7, 3, 0, (0, 0, 0, 0, 0, 0)), (68, .iconst 3, 1, 0, (0, 0, 0, 0, 0, 3)), (69, .goto 4, 3, 0, (0, 0, 0, 0, 0, 0)), (72, .iconst 0, 1, 0, (0, 0, 0, 0, 0, 0)), (73, .putfield 180, 3, 0, (12, 0, 0, 1, 0, 0)), (76, .aload_n 0, 1, 0, (0, 0, 0, 0, 0, 0)), (77, .getfield 180, 3, 0, (12, 0, 0, 1, 0, 0)), (80, .ifCond .eq 5, 3, 0, (0, 0, 0, 0, 0, 0)), (83, .iconst 0, 1, 0, (0, 0, 0, 0, 0, 0)), (84, .ireturn, 1, 0, (0, 0, 0, 0, 0, 0)), (85, .aload_n 0, 1, 0, (0, 0, 0, 0, 0, 0)), (86, .iload_n 1, 1, 0, (0, 0, 0, 0, 0, 0)), (87, .iload_n 2, 1, 0, (0, 0, 0, 0, 0, 0)), (88, .iload 5, 2, 0, (0, 0, 0, 0, 0, 0)), (90, .iload 4, 2, 0, (0, 0, 0, 0, 0, 0)), (92, .iload 4, 2, 0, (0, 0, 0, 0, 0, 0)), (94, .ifCond .ne 7, 3, 0, (0, 0, 0, 0, 0, 0)), (97, .iconst 1, 1, 0, (0, 0, 0, 0, 0, 1)), (98, .goto 4, 3, 0, (0, 0, 0, 0, 0, 0)), (101, .iconst 0, 1, 0, (0, 0, 0, 0, 0, 0)), (102, .iconst 3, 1, 0, (0, 0, 0, 0, 0, 3)), (103, .aload_n 0, 1, 0, (0, 0, 0, 0, 0, 0)), (104, .getfield 197, 3, 0, (12, 18, 0, 1, 0, 0)), (107, .invokevirtual 442, 3, 0, (4, 8, 0, 0, 1, 0)), (110, .istore 6, 2, 0, (0, 0, 0, 0, 0, 0)), (112, .aload_n 0, 1, 0, (0, 0, 0, 0, 0, 0)), (113, .getfield 108, 3, 0, (12, 35, 16, 2, 27, 0)), (116, .iload 6, 2, 0, (0, 0, 0, 0, 0, 0)), (118, .iload_n 3, 1, 0, (0, 0, 0, 0, 0, 0)), (119, .iastore, 1, 0, (13, 44, 0, 0, 0, 0)), (120, .aload_n 0, 1, 0, (0, 0, 0, 0, 0, 0)), (121, .getfield 200, 3, 0, (12, 39, 0, 1, 0, 0)), (124, .iconst 1, 1, 0, (0, 0, 0, 0, 0, 1)), (125, .isub, 1, 0, (0, 0, 0, 0, 0, 0)), (126, .ireturn, 1, 0, (0, 0, 0, 0, 0, 0))]
set_option maxRecDepth 100000 in
theorem rk288 : R288.all (rok 2 288 1 [(280, [0]), (215, [0, 0, 0]), (281, [15, 0]), (282, [15, 0, 0, 0]), (224, [15, 0, 0, 0, 0, 0, 0, 0])]) = true := by decide +kernel
set_option maxRecDepth 100000 in
theorem tab288 {F280 : PM → Int32 → Int32} {G280 : PM → Int32 → Prop} {F215 : PM → Int32 → Int32 → Int32 → Int32} {G215 : PM → Int32 → Int32 → Int32 → Prop} {F281 : PM → Int32 → Int32} {G281 : PM → Int32 → Prop} {F282 : PM → Int32 → Int32 → Int32 → Int32} {G282 : PM → Int32 → Int32 → Int32 → Prop} {F224 : PM → Int32 → Int32 → Int32 → Int32 → Int32 → Int32 → Int32 → Int32 × PM} {G224 : PM → Int32 → Int32 → Int32 → Int32 → Int32 → Int32 → Int32 → Prop} : TabOK 2 288 1 [CC280 F280 G280, CC215 F215 G215, CC281 F281 G281, CC282 F282 G282, CC224 F224 G224] R288 := tab_ok (K := K288) rfl rfl (fun h => d288 h) rk288 (by decide +kernel)
set_option maxRecDepth 100000 in
theorem pc288 : cutpc [17, 53] R288 = true := by decide +kernel
set_option maxRecDepth 100000 in
theorem r12_doStop_17 (F280 : PM → Int32 → Int32) (G280 : PM → Int32 → Prop) (o280 : CalOK 2 (CC280 F280 G280)) (F215 : PM → Int32 → Int32 → Int32 → Int32) (G215 : PM → Int32 → Int32 → Int32 → Prop) (o215 : CalOK 2 (CC215 F215 G215)) (F281 : PM → Int32 → Int32) (G281 : PM → Int32 → Prop) (o281 : CalOK 2 (CC281 F281 G281)) (F282 : PM → Int32 → Int32 → Int32 → Int32) (G282 : PM → Int32 → Int32 → Int32 → Prop) (o282 : CalOK 2 (CC282 F282 G282)) (F224 : PM → Int32 → Int32 → Int32 → Int32 → Int32 → Int32 → Int32 → Int32 × PM) (G224 : PM → Int32 → Int32 → Int32 → Int32 → Int32 → Int32 → Int32 → Prop) (o224 : CalOK 2 (CC224 F224 G224)) : ∀ (p : PM) (v1 : Int32) (v2 : Int32) (v3 : Int32) (v4 : Int32) (v5 : Int32) (d6 : ZV), Gr 2 p → bg12_doStop_17 F224 G224 p v1 v2 v3 v4 v5 → ZJ 2 288 17 [zR 12 1, zI v1, zI v2, zI v3, zI v4, zI v5, d6] [zR 12 1] p (hwI (bv12_doStop_17 F224 p v1 v2 v3 v4 v5)) := by
  intro p v1 v2 v3 v4 v5 d6 hg H
  exact rwI (n := 3000) (q := 17) (la := [zR 12 1, zI v1, zI v2, zI v3, zI v4, zI v5, d6]) (sa := [zR 12 1]) (ks := [fun _ _ s => (0, s), fun _ _ s => (0, s)]) (gs := [fun _ _ _ => False, fun _ _ _ => False]) (fcons o280 (fcons o215 (fcons o281 (fcons o282 (fcons o224 (fnil)))))) tab288 pc288 ⟨fun _ _ _ _ H => H.elim, fun _ _ _ _ H => H.elim, trivial⟩ hg H
theorem t12_doStop_17 : ∀ (p : PM) (v1 : Int32) (v2 : Int32) (v3 : Int32) (v4 : Int32) (v5 : Int32) (d6 : ZV), Gr 2 p → g12_doStop_17 p v1 v2 v3 v4 v5 → ZJ 2 288 17 [zR 12 1, zI v1, zI v2, zI v3, zI v4, zI v5, d6] [zR 12 1] p (hwI (v12_doStop_17 p v1 v2 v3 v4 v5)) := r12_doStop_17 v12_isAccount g12_isAccount ok280 v12_in g12_in ok215 v12_isQuantity g12_isQuantity ok281 v12_isShut g12_isShut ok282 v12_newOrder g12_newOrder ok224
set_option maxRecDepth 100000 in
theorem r12_doStop_53 (F280 : PM → Int32 → Int32) (G280 : PM → Int32 → Prop) (o280 : CalOK 2 (CC280 F280 G280)) (F215 : PM → Int32 → Int32 → Int32 → Int32) (G215 : PM → Int32 → Int32 → Int32 → Prop) (o215 : CalOK 2 (CC215 F215 G215)) (F281 : PM → Int32 → Int32) (G281 : PM → Int32 → Prop) (o281 : CalOK 2 (CC281 F281 G281)) (F282 : PM → Int32 → Int32 → Int32 → Int32) (G282 : PM → Int32 → Int32 → Int32 → Prop) (o282 : CalOK 2 (CC282 F282 G282)) (F224 : PM → Int32 → Int32 → Int32 → Int32 → Int32 → Int32 → Int32 → Int32 × PM) (G224 : PM → Int32 → Int32 → Int32 → Int32 → Int32 → Int32 → Int32 → Prop) (o224 : CalOK 2 (CC224 F224 G224)) : ∀ (p : PM) (v1 : Int32) (v2 : Int32) (v3 : Int32) (v4 : Int32) (v5 : Int32) (d6 : ZV), Gr 2 p → bg12_doStop_53 F224 G224 p v1 v2 v3 v4 v5 → ZJ 2 288 53 [zR 12 1, zI v1, zI v2, zI v3, zI v4, zI v5, d6] [zR 12 1] p (hwI (bv12_doStop_53 F224 p v1 v2 v3 v4 v5)) := by
  intro p v1 v2 v3 v4 v5 d6 hg H
  exact rwI (n := 3000) (q := 53) (la := [zR 12 1, zI v1, zI v2, zI v3, zI v4, zI v5, d6]) (sa := [zR 12 1]) (ks := [fun _ _ s => (0, s), fun _ _ s => (0, s)]) (gs := [fun _ _ _ => False, fun _ _ _ => False]) (fcons o280 (fcons o215 (fcons o281 (fcons o282 (fcons o224 (fnil)))))) tab288 pc288 ⟨fun _ _ _ _ H => H.elim, fun _ _ _ _ H => H.elim, trivial⟩ hg H
theorem t12_doStop_53 : ∀ (p : PM) (v1 : Int32) (v2 : Int32) (v3 : Int32) (v4 : Int32) (v5 : Int32) (d6 : ZV), Gr 2 p → g12_doStop_53 p v1 v2 v3 v4 v5 → ZJ 2 288 53 [zR 12 1, zI v1, zI v2, zI v3, zI v4, zI v5, d6] [zR 12 1] p (hwI (v12_doStop_53 p v1 v2 v3 v4 v5)) := r12_doStop_53 v12_isAccount g12_isAccount ok280 v12_in g12_in ok215 v12_isQuantity g12_isQuantity ok281 v12_isShut g12_isShut ok282 v12_newOrder g12_newOrder ok224
set_option maxRecDepth 100000 in
theorem r12_doStop (F280 : PM → Int32 → Int32) (G280 : PM → Int32 → Prop) (o280 : CalOK 2 (CC280 F280 G280)) (F215 : PM → Int32 → Int32 → Int32 → Int32) (G215 : PM → Int32 → Int32 → Int32 → Prop) (o215 : CalOK 2 (CC215 F215 G215)) (F281 : PM → Int32 → Int32) (G281 : PM → Int32 → Prop) (o281 : CalOK 2 (CC281 F281 G281)) (F282 : PM → Int32 → Int32 → Int32 → Int32) (G282 : PM → Int32 → Int32 → Int32 → Prop) (o282 : CalOK 2 (CC282 F282 G282)) (F224 : PM → Int32 → Int32 → Int32 → Int32 → Int32 → Int32 → Int32 → Int32 × PM) (G224 : PM → Int32 → Int32 → Int32 → Int32 → Int32 → Int32 → Int32 → Prop) (o224 : CalOK 2 (CC224 F224 G224)) (kv17 : PM → Int32 → Int32 → Int32 → Int32 → Int32 → Int32 × PM) (kg17 : PM → Int32 → Int32 → Int32 → Int32 → Int32 → Prop) (hk17 : ∀ (p : PM) (v1 : Int32) (v2 : Int32) (v3 : Int32) (v4 : Int32) (v5 : Int32) (d6 : ZV), Gr 2 p → kg17 p v1 v2 v3 v4 v5 → ZJ 2 288 17 [zR 12 1, zI v1, zI v2, zI v3, zI v4, zI v5, d6] [zR 12 1] p (hwI (kv17 p v1 v2 v3 v4 v5))) (kv53 : PM → Int32 → Int32 → Int32 → Int32 → Int32 → Int32 × PM) (kg53 : PM → Int32 → Int32 → Int32 → Int32 → Int32 → Prop) (hk53 : ∀ (p : PM) (v1 : Int32) (v2 : Int32) (v3 : Int32) (v4 : Int32) (v5 : Int32) (d6 : ZV), Gr 2 p → kg53 p v1 v2 v3 v4 v5 → ZJ 2 288 53 [zR 12 1, zI v1, zI v2, zI v3, zI v4, zI v5, d6] [zR 12 1] p (hwI (kv53 p v1 v2 v3 v4 v5))) : ∀ (p : PM) (v1 : Int32) (v2 : Int32) (v3 : Int32) (v4 : Int32) (v5 : Int32), Gr 2 p → bg12_doStop F215 G215 F224 G224 F280 G280 F281 G281 F282 G282 kg17 kg53 p v1 v2 v3 v4 v5 → ZJ 2 288 0 [zR 12 1, zI v1, zI v2, zI v3, zI v4, zI v5, zJ] [] p (hwI (bv12_doStop F215 F224 F280 F281 F282 kv17 kv53 p v1 v2 v3 v4 v5)) := by
  intro p v1 v2 v3 v4 v5  hg H
  exact rwI (n := 3000) (q := 0) (la := [zR 12 1, zI v1, zI v2, zI v3, zI v4, zI v5, zJ]) (sa := []) (ks := [fun la sa s => kv17 s (ai la 1) (ai la 2) (ai la 3) (ai la 4) (ai la 5), fun la sa s => kv53 s (ai la 1) (ai la 2) (ai la 3) (ai la 4) (ai la 5)]) (gs := [fun la sa s => zsw (tc2 la [(112, 1), (0, 0), (0, 0), (0, 0), (0, 0), (0, 0), (2, 0)] && tc2 sa [(112, 1)]) False (kg17 s (ai la 1) (ai la 2) (ai la 3) (ai la 4) (ai la 5)), fun la sa s => zsw (tc2 la [(112, 1), (0, 0), (0, 0), (0, 0), (0, 0), (0, 0), (2, 0)] && tc2 sa [(112, 1)]) False (kg53 s (ai la 1) (ai la 2) (ai la 3) (ai la 4) (ai la 5))]) (fcons o280 (fcons o215 (fcons o281 (fcons o282 (fcons o224 (fnil)))))) tab288 pc288 ⟨fun la sa s hg H => zcut H fun H => hk17 s (ai la 1) (ai la 2) (ai la 3) (ai la 4) (ai la 5) (zld la 6) hg H, fun la sa s hg H => zcut H fun H => hk53 s (ai la 1) (ai la 2) (ai la 3) (ai la 4) (ai la 5) (zld la 6) hg H, trivial⟩ hg H
theorem t12_doStop : ∀ (p : PM) (v1 : Int32) (v2 : Int32) (v3 : Int32) (v4 : Int32) (v5 : Int32), Gr 2 p → g12_doStop p v1 v2 v3 v4 v5 → ZJ 2 288 0 [zR 12 1, zI v1, zI v2, zI v3, zI v4, zI v5, zJ] [] p (hwI (v12_doStop p v1 v2 v3 v4 v5)) := r12_doStop v12_isAccount g12_isAccount ok280 v12_in g12_in ok215 v12_isQuantity g12_isQuantity ok281 v12_isShut g12_isShut ok282 v12_newOrder g12_newOrder ok224 (v12_doStop_17) (g12_doStop_17) (t12_doStop_17) (v12_doStop_53) (g12_doStop_53) (t12_doStop_53)
def CC288 (F : PM → Int32 → Int32 → Int32 → Int32 → Int32 → Int32 × PM) (G : PM → Int32 → Int32 → Int32 → Int32 → Int32 → Prop) : Cal := (288, [15, 0, 0, 0, 0, 0], 1, false, fun as p => (zI (F p (ai as 1) (ai as 2) (ai as 3) (ai as 4) (ai as 5)).1, (F p (ai as 1) (ai as 2) (ai as 3) (ai as 4) (ai as 5)).2), fun as p => zsw (tc2 as [(112, 1), (0, 0), (0, 0), (0, 0), (0, 0), (0, 0)]) False (G p (ai as 1) (ai as 2) (ai as 3) (ai as 4) (ai as 5)))
set_option maxRecDepth 100000 in
theorem okr288 (F : PM → Int32 → Int32 → Int32 → Int32 → Int32 → Int32 × PM) (G : PM → Int32 → Int32 → Int32 → Int32 → Int32 → Prop) (h : ∀ (p : PM) (v1 : Int32) (v2 : Int32) (v3 : Int32) (v4 : Int32) (v5 : Int32), Gr 2 p → G p v1 v2 v3 v4 v5 → ZJ 2 288 0 [zR 12 1, zI v1, zI v2, zI v3, zI v4, zI v5, zJ] [] p (hwI (F p v1 v2 v3 v4 v5))) : CalOK 2 (CC288 F G) := cal_ok (m := 7) (by unfold mL; rw [mX_288]) (fun as p hg H => h p (ai as 1) (ai as 2) (ai as 3) (ai as 4) (ai as 5) hg H)
theorem ok288 : CalOK 2 (CC288 v12_doStop g12_doStop) := okr288 v12_doStop g12_doStop t12_doStop
noncomputable def bv12_doQuote_130 (F224 : PM → Int32 → Int32 → Int32 → Int32 → Int32 → Int32 → Int32 → Int32 × PM) (F257 : PM → Int32 → PM) (kv130 : PM → Int32 → Int32 → Int32 → Int32 → Int32 → Int32 → Int32 × PM) (p : PM) (v1 : Int32) (v2 : Int32) (v3 : Int32) (v4 : Int32) (v5 : Int32) (v6 : Int32) : Int32 × PM :=
  if v6 < (cn 44) then (
    if (p.1 15 3 (v6).toNatClampNeg) = 0 then (
      let p8 : PM := pI p 15 3 (v6).toNatClampNeg (cn 0)
      kv130 p8 v1 v2 v3 v4 v5 (v6 + (cn 1)))
    else (
      if (p.1 13 19 (v6).toNatClampNeg) = (cn 4) then (
        if (p.1 13 15 (v6).toNatClampNeg) = v1 then (
          if (p.1 13 16 (v6).toNatClampNeg) = v2 then (
            let p11 : PM := pI p 15 3 (v6).toNatClampNeg (cn 0)
            kv130 p11 v1 v2 v3 v4 v5 (v6 + (cn 1)))
          else (
            let p12 : PM := pI p 15 3 (v6).toNatClampNeg (cn 1)
            kv130 p12 v1 v2 v3 v4 v5 (v6 + (cn 1))))
        else (
          let p10 : PM := pI p 15 3 (v6).toNatClampNeg (cn 1)
          kv130 p10 v1 v2 v3 v4 v5 (v6 + (cn 1))))
      else (
        let p9 : PM := pI p 15 3 (v6).toNatClampNeg (cn 1)
        kv130 p9 v1 v2 v3 v4 v5 (v6 + (cn 1)))))
  else (
    let p1 : PM := pI p 13 4 (v1).toNatClampNeg (cn 0)
    let p2 : PM := pI p1 15 1 (v1).toNatClampNeg (cn 0)
    let r3 : Int32 × PM := F224 p2 v1 v2 v5 v3 (cn 0) (cn 4) (p2.1 12 1 18)
    let p4 : PM := F257 r3.2 r3.1
    if (p4.1 15 1 (v1).toNatClampNeg) = 0 then (
      let r5 : Int32 × PM := F224 p4 v1 v2 (-v5) v4 (cn 0) (cn 4) (p4.1 12 1 18)
      let p6 : PM := F257 r5.2 r5.1
      ((p2.1 12 1 39), p6))
    else (
      let p7 : PM := pI p4 12 1 39 ((p4.1 12 1 39) + (cn 1))
      ((p2.1 12 1 39), p7)))
noncomputable def v12_doQuote_130 (n : Nat) : PM → Int32 → Int32 → Int32 → Int32 → Int32 → Int32 → Int32 × PM := Nat.rec (motive := fun _ => PM → Int32 → Int32 → Int32 → Int32 → Int32 → Int32 → Int32 × PM) (fun p _ _ _ _ _ _ => (0, p)) (fun _ ih => bv12_doQuote_130 v12_newOrder v12_enters ih) n
theorem ev12_doQuote_130 (n : Nat) (p : PM) (v1 : Int32) (v2 : Int32) (v3 : Int32) (v4 : Int32) (v5 : Int32) (v6 : Int32) : v12_doQuote_130 (n + 1) p v1 v2 v3 v4 v5 v6 = bv12_doQuote_130 v12_newOrder v12_enters (v12_doQuote_130 n) p v1 v2 v3 v4 v5 v6 := rfl
noncomputable def bg12_doQuote_130 (F224 : PM → Int32 → Int32 → Int32 → Int32 → Int32 → Int32 → Int32 → Int32 × PM) (G224 : PM → Int32 → Int32 → Int32 → Int32 → Int32 → Int32 → Int32 → Prop) (F257 : PM → Int32 → PM) (G257 : PM → Int32 → Prop) (kg130 : PM → Int32 → Int32 → Int32 → Int32 → Int32 → Int32 → Prop) (p : PM) (v1 : Int32) (v2 : Int32) (v3 : Int32) (v4 : Int32) (v5 : Int32) (v6 : Int32) : Prop :=
  if v6 < (cn 44) then (
    (inb v6 44) ∧ (
    if (p.1 15 3 (v6).toNatClampNeg) = 0 then (
      (inb v6 44) ∧ (
      let p8 : PM := pI p 15 3 (v6).toNatClampNeg (cn 0)
      kg130 p8 v1 v2 v3 v4 v5 (v6 + (cn 1))))
    else (
      (inb v6 44) ∧ (
      if (p.1 13 19 (v6).toNatClampNeg) = (cn 4) then (
        (inb v6 44) ∧ (
        if (p.1 13 15 (v6).toNatClampNeg) = v1 then (
          (inb v6 44) ∧ (
          if (p.1 13 16 (v6).toNatClampNeg) = v2 then (
            (inb v6 44) ∧ (
            let p11 : PM := pI p 15 3 (v6).toNatClampNeg (cn 0)
            kg130 p11 v1 v2 v3 v4 v5 (v6 + (cn 1))))
          else (
            (inb v6 44) ∧ (
            let p12 : PM := pI p 15 3 (v6).toNatClampNeg (cn 1)
            kg130 p12 v1 v2 v3 v4 v5 (v6 + (cn 1))))))
        else (
          (inb v6 44) ∧ (
          let p10 : PM := pI p 15 3 (v6).toNatClampNeg (cn 1)
          kg130 p10 v1 v2 v3 v4 v5 (v6 + (cn 1))))))
      else (
        (inb v6 44) ∧ (
        let p9 : PM := pI p 15 3 (v6).toNatClampNeg (cn 1)
        kg130 p9 v1 v2 v3 v4 v5 (v6 + (cn 1))))))))
  else (
    (inb v1 8) ∧ (
    let p1 : PM := pI p 13 4 (v1).toNatClampNeg (cn 0)
    (inb v1 8) ∧ (
    let p2 : PM := pI p1 15 1 (v1).toNatClampNeg (cn 0)
    (G224 p2 v1 v2 v5 v3 (cn 0) (cn 4) (p2.1 12 1 18)) ∧ (
    let r3 : Int32 × PM := F224 p2 v1 v2 v5 v3 (cn 0) (cn 4) (p2.1 12 1 18)
    (G257 r3.2 r3.1) ∧ (
    let p4 : PM := F257 r3.2 r3.1
    (inb v1 8) ∧ (
    if (p4.1 15 1 (v1).toNatClampNeg) = 0 then (
      (G224 p4 v1 v2 (-v5) v4 (cn 0) (cn 4) (p4.1 12 1 18)) ∧ (
      let r5 : Int32 × PM := F224 p4 v1 v2 (-v5) v4 (cn 0) (cn 4) (p4.1 12 1 18)
      (G257 r5.2 r5.1) ∧ (
      let p6 : PM := F257 r5.2 r5.1
      True)))
    else (
      let p7 : PM := pI p4 12 1 39 ((p4.1 12 1 39) + (cn 1))
      True)))))))
noncomputable def g12_doQuote_130 (n : Nat) : PM → Int32 → Int32 → Int32 → Int32 → Int32 → Int32 → Prop := Nat.rec (motive := fun _ => PM → Int32 → Int32 → Int32 → Int32 → Int32 → Int32 → Prop) (fun _ _ _ _ _ _ _ => False) (fun _ ih => bg12_doQuote_130 v12_newOrder g12_newOrder v12_enters g12_enters ih) n
theorem eg12_doQuote_130 (n : Nat) (p : PM) (v1 : Int32) (v2 : Int32) (v3 : Int32) (v4 : Int32) (v5 : Int32) (v6 : Int32) : g12_doQuote_130 (n + 1) p v1 v2 v3 v4 v5 v6 = bg12_doQuote_130 v12_newOrder g12_newOrder v12_enters g12_enters (g12_doQuote_130 n) p v1 v2 v3 v4 v5 v6 := rfl
noncomputable def bv12_doQuote_60 (F222 : PM → Int32) (F231 : PM → Int32 → Int32 → Int32 → Int32) (kv130 : PM → Int32 → Int32 → Int32 → Int32 → Int32 → Int32 → Int32 × PM) (p : PM) (v1 : Int32) (v2 : Int32) (v3 : Int32) (v4 : Int32) (v5 : Int32) (s0 : Int32) : Int32 × PM :=
  let p1 : PM := pI p 12 1 0 s0
  if (p1.1 12 1 0) = 0 then (
    if (p1.1 15 9 ((v1 / (cn 2))).toNatClampNeg) = 0 then (
      if (cn 38) < (F222 p1) then (
        let p3 : PM := pI p1 12 1 0 (cn 3)
        if (p3.1 12 1 0) = 0 then (
          kv130 p3 v1 v2 v3 v4 v5 (cn 0))
        else (
          ((cn 0), p3)))
      else (
        if (F231 p1 v1 v2 v5) = 0 then (
          if (F231 p1 v1 v2 (-v5)) = 0 then (
            if (p1.1 12 1 0) = 0 then (
              kv130 p1 v1 v2 v3 v4 v5 (cn 0))
            else (
              ((cn 0), p1)))
          else (
            let p5 : PM := pI p1 12 1 0 (cn 3)
            if (p5.1 12 1 0) = 0 then (
              kv130 p5 v1 v2 v3 v4 v5 (cn 0))
            else (
              ((cn 0), p5))))
        else (
          let p4 : PM := pI p1 12 1 0 (cn 3)
          if (p4.1 12 1 0) = 0 then (
            kv130 p4 v1 v2 v3 v4 v5 (cn 0))
          else (
            ((cn 0), p4)))))
    else (
      let p2 : PM := pI p1 12 1 0 (cn 3)
      if (p2.1 12 1 0) = 0 then (
        kv130 p2 v1 v2 v3 v4 v5 (cn 0))
      else (
        ((cn 0), p2))))
  else (
    if (p1.1 12 1 0) = 0 then (
      kv130 p1 v1 v2 v3 v4 v5 (cn 0))
    else (
      ((cn 0), p1)))
noncomputable def v12_doQuote_60 (p : PM) (v1 : Int32) (v2 : Int32) (v3 : Int32) (v4 : Int32) (v5 : Int32) (s0 : Int32) : Int32 × PM := bv12_doQuote_60 v12_live v12_isRefused (v12_doQuote_130 FU) p v1 v2 v3 v4 v5 s0
noncomputable def bg12_doQuote_60 (F222 : PM → Int32) (G222 : PM → Prop) (F231 : PM → Int32 → Int32 → Int32 → Int32) (G231 : PM → Int32 → Int32 → Int32 → Prop) (kg130 : PM → Int32 → Int32 → Int32 → Int32 → Int32 → Int32 → Prop) (p : PM) (v1 : Int32) (v2 : Int32) (v3 : Int32) (v4 : Int32) (v5 : Int32) (s0 : Int32) : Prop :=
  let p1 : PM := pI p 12 1 0 s0
  if (p1.1 12 1 0) = 0 then (
    (inb (v1 / (cn 2)) 4) ∧ (
    if (p1.1 15 9 ((v1 / (cn 2))).toNatClampNeg) = 0 then (
      (G222 p1) ∧ (
      if (cn 38) < (F222 p1) then (
        let p3 : PM := pI p1 12 1 0 (cn 3)
        if (p3.1 12 1 0) = 0 then (
          kg130 p3 v1 v2 v3 v4 v5 (cn 0))
        else (
          True))
      else (
        (G231 p1 v1 v2 v5) ∧ (
        if (F231 p1 v1 v2 v5) = 0 then (
          (G231 p1 v1 v2 (-v5)) ∧ (
          if (F231 p1 v1 v2 (-v5)) = 0 then (
            if (p1.1 12 1 0) = 0 then (
              kg130 p1 v1 v2 v3 v4 v5 (cn 0))
            else (
              True))
          else (
            let p5 : PM := pI p1 12 1 0 (cn 3)
            if (p5.1 12 1 0) = 0 then (
              kg130 p5 v1 v2 v3 v4 v5 (cn 0))
            else (
              True))))
        else (
          let p4 : PM := pI p1 12 1 0 (cn 3)
          if (p4.1 12 1 0) = 0 then (
            kg130 p4 v1 v2 v3 v4 v5 (cn 0))
          else (
            True))))))
    else (
      let p2 : PM := pI p1 12 1 0 (cn 3)
      if (p2.1 12 1 0) = 0 then (
        kg130 p2 v1 v2 v3 v4 v5 (cn 0))
      else (
        True))))
  else (
    if (p1.1 12 1 0) = 0 then (
      kg130 p1 v1 v2 v3 v4 v5 (cn 0))
    else (
      True))
noncomputable def g12_doQuote_60 (p : PM) (v1 : Int32) (v2 : Int32) (v3 : Int32) (v4 : Int32) (v5 : Int32) (s0 : Int32) : Prop := bg12_doQuote_60 v12_live g12_live v12_isRefused g12_isRefused (g12_doQuote_130 FU) p v1 v2 v3 v4 v5 s0
noncomputable def bv12_doQuote (F215 : PM → Int32 → Int32 → Int32 → Int32) (F219 : PM → Int32 → Int32 → Int32) (F280 : PM → Int32 → Int32) (kv60 : PM → Int32 → Int32 → Int32 → Int32 → Int32 → Int32 → Int32 × PM) (p : PM) (v1 : Int32) (v2 : Int32) (v3 : Int32) (v4 : Int32) (v5 : Int32) : Int32 × PM :=
  if (F280 p v1) = 0 then (
    kv60 p v1 v2 v3 v4 v5 (cn 1))
  else (
    if (F215 p v2 (cn 0) (cn 5)) = 0 then (
      kv60 p v1 v2 v3 v4 v5 (cn 1))
    else (
      if (F219 p v2 v3) = 0 then (
        kv60 p v1 v2 v3 v4 v5 (cn 2))
      else (
        if (F219 p v2 v4) = 0 then (
          kv60 p v1 v2 v3 v4 v5 (cn 2))
        else (
          if v3 < v4 then (
            if (F215 p v5 (cn 1) (cn 50)) = 0 then (
              kv60 p v1 v2 v3 v4 v5 (cn 2))
            else (
              kv60 p v1 v2 v3 v4 v5 (cn 0)))
          else (
            kv60 p v1 v2 v3 v4 v5 (cn 2))))))
noncomputable def v12_doQuote (p : PM) (v1 : Int32) (v2 : Int32) (v3 : Int32) (v4 : Int32) (v5 : Int32) : Int32 × PM := bv12_doQuote v12_in v12_isPrice v12_isAccount v12_doQuote_60 p v1 v2 v3 v4 v5
noncomputable def bg12_doQuote (F215 : PM → Int32 → Int32 → Int32 → Int32) (G215 : PM → Int32 → Int32 → Int32 → Prop) (F219 : PM → Int32 → Int32 → Int32) (G219 : PM → Int32 → Int32 → Prop) (F280 : PM → Int32 → Int32) (G280 : PM → Int32 → Prop) (kg60 : PM → Int32 → Int32 → Int32 → Int32 → Int32 → Int32 → Prop) (p : PM) (v1 : Int32) (v2 : Int32) (v3 : Int32) (v4 : Int32) (v5 : Int32) : Prop :=
  (G280 p v1) ∧ (
  if (F280 p v1) = 0 then (
    kg60 p v1 v2 v3 v4 v5 (cn 1))
  else (
    (G215 p v2 (cn 0) (cn 5)) ∧ (
    if (F215 p v2 (cn 0) (cn 5)) = 0 then (
      kg60 p v1 v2 v3 v4 v5 (cn 1))
    else (
      (G219 p v2 v3) ∧ (
      if (F219 p v2 v3) = 0 then (
        kg60 p v1 v2 v3 v4 v5 (cn 2))
      else (
        (G219 p v2 v4) ∧ (
        if (F219 p v2 v4) = 0 then (
          kg60 p v1 v2 v3 v4 v5 (cn 2))
        else (
          if v3 < v4 then (
            (G215 p v5 (cn 1) (cn 50)) ∧ (
            if (F215 p v5 (cn 1) (cn 50)) = 0 then (
              kg60 p v1 v2 v3 v4 v5 (cn 2))
            else (
              kg60 p v1 v2 v3 v4 v5 (cn 0))))
          else (
            kg60 p v1 v2 v3 v4 v5 (cn 2))))))))))
noncomputable def g12_doQuote (p : PM) (v1 : Int32) (v2 : Int32) (v3 : Int32) (v4 : Int32) (v5 : Int32) : Prop := bg12_doQuote v12_in g12_in v12_isPrice g12_isPrice v12_isAccount g12_isAccount g12_doQuote_60 p v1 v2 v3 v4 v5
def R289 : List Row := [(0, .aload_n 0, 1, 0, (0, 0, 0, 0, 0, 0)), (1, .iload_n 1, 1, 0, (0, 0, 0, 0, 0, 0)), (2, .invokestatic 429, 3, 0, (0, 1, 0, 0, 0, 0)), (5, .ifCond .eq 12, 3, 0, (0, 0, 0, 0, 0, 0)), (8, .iload_n 2, 1, 0, (0, 0, 0, 0, 0, 0)), (9, .iconst 0, 1, 0, (0, 0, 0, 0, 0, 0)), (10, .iconst 5, 1, 0, (0, 0, 0, 0, 0, 5)), (11, .invokestatic 209, 3, 0, (1, 3, 0, 0, 0, 0)), (14, .ifCond .ne 7, 3, 0, (0, 0, 0, 0, 0, 0)), (17, .iconst 1, 1, 0, (0, 0, 0, 0, 0, 1)), (18, .goto 42, 3, 0, (0, 0, 0, 0, 0, 0)), (21, .iload_n 2, 1, 0, (0, 0, 0, 0, 0, 0)), (22, .iload_n 3, 1, 0, (0, 0, 0, 0, 0, 0)), (23, .invokestatic 334, 3, 0, (2, 2, 0, 0, 0, 0)), (26, .ifCond .eq 29, 3, 0, (0, 0, 0, 0, 0, 0)), (29, .iload_n 2, 1, 0, (0, 0, 0, 0, 0, 0)), (30, .iload 4, 2, 0, (0, 0, 0, 0, 0, 0)), (32, .invokestatic 334, 3, 0, (2, 2, 0, 0, 0, 0)), (35, .ifCond .eq 20, 3, 0, (0, 0, 0, 0, 0, 0)), (38, .iload 4, 2, 0, (0, 0, 0, 0, 0, 0)), (40, .iload_n 3, 1, 0, (0, 0, 0, 0, 0, 0)), (41, .if_icmp .le 14, 3, 0, (0, 0, 0, 0, 0, 0)), (44, .iload 5, 2, 0, (0, 0, 0, 0, 0, 0)), (46, .iconst 1, 1, 0, (0, 0, 0, 0, 0, 1)), (47, .bipush 50, 2, 0, (0, 0, 0, 0, 0, 50)), (49, .invokestatic 209, 3, 0, (1, 3, 0, 0, 0, 0)), (52, .ifCond .ne 7, 3, 0, (0, 0, 0, 0, 0, 0)), (55, .iconst 2, 1, 0, (0, 0, 0, 0, 0, 2)), (56, .goto 4, 3, 0, (0, 0, 0, 0, 0, 0)), (59, .iconst 0, 1, 0, (0, 0, 0, 0, 0, 0)), (60, .putfield 180, 3, 1, (12, 0, 0, 1, 0, 0)), (63, .aload_n 0, 1, 0, (0, 0, 0, 0, 0, 0)), (64, .getfield 180, 3, 0, (12, 0, 0, 1, 0, 0)), (67, .ifCond .ne 51, 3, 0, (0, 0, 0, 0, 0, 0)), (70, .aload_n 0, 1, 0, (0, 0, 0, 0, 0, 0)), (71, .getfield 153, 3, 0, (12, 54, 18, 2, 9, 0)), (74, .iload_n 1, 1, 0, (0, 0, 0, 0, 0, 0)), (75, .iconst 2, 1, 0, (0, 0, 0, 0, 0, 2)), (76, .idiv, 1, 0, (0, 0, 0, 0, 0, 0)), (77, .baload, 1, 0, (15, 4, 0, 0, 0, 0)), (78, .ifCond .ne 35, 3, 0, (0, 0, 0, 0, 0, 0)), (81, .aload_n 0, 1, 0, (0, 0, 0, 0, 0, 0)), (82, .invokevirtual 423, 3, 0, (3, 1, 0, 0, 1, 0)), (85, .bipush 38, 2, 0, (0, 0, 0, 0, 0, 38)), (87, .if_icmp .gt 26, 3, 0, (0, 0, 0, 0, 0, 0)), (90, .aload_n 0, 1, 0, (0, 0, 0, 0, 0, 0)), (91, .iload_n 1, 1, 0, (0, 0, 0, 0, 0, 0)), (92, .iload_n 2, 1, 0, (0, 0, 0, 0, 0, 0)), (93, .iload 5, 2, 0, (0, 0, 0, 0, 0, 0)), (95, .invokevirtual 426, 3, 0, (4, 4, 0, 0, 1, 0)), (98, .ifCond .ne 15, 3, 0, (0, 0, 0, 0, 0, 0)), (101, .aload_n 0, 1, 0, (0, 0, 0, 0, 0, 0)), (102, .iload_n 1, 1, 0, (0, 0, 0, 0, 0, 0)), (103, .iload_n 2, 1, 0, (0, 0, 0, 0, 0, 0)), (104, .iload 5, 2, 0, (0, 0, 0, 0, 0, 0)), (106, .ineg, 1, 0, (0, 0, 0, 0, 0, 0)), (107, .invokevirtual 426, 3, 0, (4, 4, 0, 0, 1, 0)), (110, .ifCond .eq 8, 3, 0, (0, 0, 0, 0, 0, 0)), (113, .aload_n 0, 1, 0, (0, 0, 0, 0, 0, 0)), (114, .iconst 3, 1, 0, (0, 0, 0, 0, 0, 3)), (115, .putfield 180, 3, 0, (12, 0, 0, 1, 0, 0)), (118, .aload_n 0, 1, 0, (0, 0, 0, 0, 0, 0)), (119, .getfield 180, 3, 0, (12, 0, 0, 1, 0, 0)), (122, .ifCond .eq 5, 3, 0, (0, 0, 0, 0, 0, 0)), (125, .iconst 0, 1, 0, (0, 0, 0, 0, 0, 0)), (126, .ireturn, 1, 0, (0, 0, 0, 0, 0, 0)), (127, .iconst 0, 1, 0, (0, 0, 0, 0, 0, 0)), (128, .istore 6, 2, 0, (0, 0, 0, 0, 0, 0)), (130, .iload 6, 2, 2, (0, 0, 0, 0, 0, 0)), (132, .bipush 44, 2, 0, (0, 0, 0, 0, 0, 44)), (134, .if_icmp .ge 64, 3, 0, (0, 0, 0, 0, 0, 0)), (137, .aload_n 0, 1, 0, (0, 0, 0, 0, 0, 0)), (138, .getfield 60, 3, 0, (12, 19, 18, 2, 3, 0)), (141, .iload 6, 2, 0, (0, 0, 0, 0, 0, 0)), (143, .aload_n 0, 1, 0, (0, 0, 0, 0, 0, 0)), (144, .getfield 60, 3, 0, (12, 19, 18, 2, 3, 0)), (147, .iload 6, 2, 0, (0, 0, 0, 0, 0, 0)), (149, .baload, 1, 0, (15, 44, 0, 0, 0, 0)), (150, .ifCond .eq 40, 3, 0, (0, 0, 0, 0, 0, 0)), (153, .aload_n 0, 1, 0, (0, 0, 0, 0, 0, 0)), (154, .getfield 84, 3, 0, (12, 27, 16, 2, 19, 0)), (157, .iload 6, 2, 0, (0, 0, 0, 0, 0, 0)), (159, .iaload, 1, 0, (13, 44, 0, 0, 0, 0)), (160, .iconst 4, 1, 0, (0, 0, 0, 0, 0, 4)), (161, .if_icmp .ne 25, 3, 0, (0, 0, 0, 0, 0, 0)), (164, .aload_n 0, 1, 0, (0, 0, 0, 0, 0, 0)), (165, .getfield 66, 3, 0, (12, 21, 16, 2, 15, 0)), (168, .iload 6, 2, 0, (0, 0, 0, 0, 0, 0)), (170, .iaload, 1, 0, (13, 44, 0, 0, 0, 0)), (171, .iload_n 1, 1, 0, (0, 0, 0, 0, 0, 0)), (172, .if_icmp .ne 14, 3, 0, (0, 0, 0, 0, 0, 0)), (175, .aload_n 0, 1, 0, (0, 0, 0, 0, 0, 0)), (176, .getfield 69, 3, 0, (12, 22, 16, 2, 16, 0)), (179, .iload 6, 2, 0, (0, 0, 0, 0, 0, 0)), (181, .iaload, 1, 0, (13, 44, 0, 0, 0, 0)), (182, .iload_n 2, 1, 0, (0, 0, 0, 0, 0, 0)), (183, .if_icmp .eq 7, 3, 0, (0, 0, 0, 0, 0, 0)), (186, .iconst 1, 1, 0, (0, 0, 0, 0, 0, 1)), (187, .goto 4, 3, 0, (0, 0, 0, 0, 0, 0)), (190, .iconst 0, 1, 0, (0, 0, 0, 0, 0, 0)), (191, .bastore, 1, 0, (15, 44, 0, 0, 0, 0)), (192, .iinc 6 1, 3, 0, (0, 0, 0, 0, 0, 1)), (195, .goto (-65), 3, 0, (0, 0, 0, 0, 0, 0)), (198, .aload_n 0, 1, 0, (0, 0, 0, 0, 0, 0)), (199, .getfield 23, 3, 0, (12, 5, 16, 2, 4, 0)), (202, .iload_n 1, 1, 0, (0, 0, 0, 0, 0, 0)), (203, .iconst 0, 1, 0, (0, 0, 0, 0, 0, 0)), (204, .iastore, 1, 0, (13, 8, 0, 0, 0, 0)), (205, .aload_n 0, 1, 0, (0, 0, 0, 0, 0, 0)), (206, .getfield 26, 3, 0, (12, 6, 18, 2, 1, 0)), (209, .iload_n 1, 1, 0, (0, 0, 0, 0, 0, 0)), (210, .iconst 0, 1, 0, (0, 0, 0, 0, 0, 0)), (211, .bastore, 1, 0, (15, 8, 0, 0, 0, 0)), (212, .aload_n 0, 1, 0, (0, 0, 0, 0, 0, 0)), (213, .getfield 200, 3, 0, (12, 39, 0, 1, 0, 0)), (216, .istore 6, 2, 0, (0, 0, 0, 0, 0, 0)), (218, .aload_n 0, 1, 0, (0, 0, 0, 0, 0, 0)), (219, .aload_n 0, 1, 0, (0, 0, 0, 0, 0, 0)), (220, .iload_n 1, 1, 0, (0, 0, 0, 0, 0, 0)), (221, .iload_n 2, 1, 0, (0, 0, 0, 0, 0, 0)), (222, .iload 5, 2, 0, (0, 0, 0, 0, 0, 0)), (224, .iload_n 3, 1, 0, (0, 0, 0, 0, 0, 0)), (225, .iconst 0, 1, 0, (0, 0, 0, 0, 0, 0)), (226, .iconst 4, 1, 0, (0, 0, 0, 0, 0, 4)), (227, .aload_n 0, 1, 0, (0, 0, 0, 0, 0, 0)), (228, .getfield 197, 3, 0, (12, 18, 0, 1, 0, 0)), (231, .invokevirtual 442, 3, 0, (5, 8, 0, 0, 1, 0)), (234, .invokevirtual 446, 3, 0, (6, 2, 0, 0, 1, 0)), (237, .aload_n 0, 1, 0, (0, 0, 0, 0, 0, 0)), (238, .getfield 26, 3, 0, (12, 6, 18, 2, 1, 0)), (241, .iload_n 1, 1, 0, (0, 0, 0, 0, 0, 0)), (242, .baload, 1, 0, (15, 8, 0, 0, 0, 0)), (243, .ifCond .eq 16, 3, 0, (0, 0, 0, 0, 0, 0)), (246, .aload_n 0, 1, 0, (0, 0, 0, 0, 0, 0)), (247, .dup, 1, 0, (0, 0, 0, 0, 0, 0)), (248, .getfield 200, 3, 0, (12, 39, 0, 1, 0, 0)), (251, .iconst 1, 1, 0, (0, 0, 0, 0, 0, 1)), (252, .iadd, 1, 0, (0, 0, 0, 0, 0, 0)), (253, .putfield 200, 3, 0, (12, 39, 0, 1, 0, 0)), (256, .goto 24, 3, 0, (0, 0, 0, 0, 0, 0)), (259, .aload_n 0, 1, 0, (0, 0, 0, 0, 0, 0)), (260, .aload_n 0, 1, 0, (0, 0, 0, 0, 0, 0)), (261, .iload_n 1, 1, 0, (0, 0, 0, 0, 0, 0)), (262, .iload_n 2, 1, 0, (0, 0, 0, 0, 0, 0)), (263, .iload 5, 2, 0, (0, 0, 0, 0, 0, 0)), (265, .ineg, 1, 0, (0, 0, 0, 0, 0, 0)), (266, .iload 4, 2, 0, (0, 0, 0, 0, 0, 0)), (268, .iconst 0, 1, 0, (0, 0, 0, 0, 0, 0)), (269, .iconst 4, 1, 0, (0, 0, 0, 0, 0, 4)), (270, .aload_n 0, 1, 0, (0, 0, 0, 0, 0, 0)), (271, .getfield 197, 3, 0, (12, 18, 0, 1, 0, 0)), (274, .invokevirtual 442, 3, 0, (5, 8, 0, 0, 1, 0)), (277, .invokevirtual 446, 3, 0, (6, 2, 0, 0, 1, 0)), (280, .iload 6, 2, 0, (0, 0, 0, 0, 0, 0)), (282, .ireturn, 1, 0, (0, 0, 0, 0, 0, 0))]
set_option maxRecDepth 100000 in
theorem rk289 : R289.all (rok 2 289 1 [(280, [0]), (215, [0, 0, 0]), (219, [0, 0]), (222, [15]), (231, [15, 0, 0, 0]), (224, [15, 0, 0, 0, 0, 0, 0, 0]), (257, [15, 0])]) = true := by decide +kernel
set_option maxRecDepth 100000 in
theorem tab289 {F280 : PM → Int32 → Int32} {G280 : PM → Int32 → Prop} {F215 : PM → Int32 → Int32 → Int32 → Int32} {G215 : PM → Int32 → Int32 → Int32 → Prop} {F219 : PM → Int32 → Int32 → Int32} {G219 : PM → Int32 → Int32 → Prop} {F222 : PM → Int32} {G222 : PM → Prop} {F231 : PM → Int32 → Int32 → Int32 → Int32} {G231 : PM → Int32 → Int32 → Int32 → Prop} {F224 : PM → Int32 → Int32 → Int32 → Int32 → Int32 → Int32 → Int32 → Int32 × PM} {G224 : PM → Int32 → Int32 → Int32 → Int32 → Int32 → Int32 → Int32 → Prop} {F257 : PM → Int32 → PM} {G257 : PM → Int32 → Prop} : TabOK 2 289 1 [CC280 F280 G280, CC215 F215 G215, CC219 F219 G219, CC222 F222 G222, CC231 F231 G231, CC224 F224 G224, CC257 F257 G257] R289 := tab_ok (K := K289) rfl rfl (fun h => d289 h) rk289 (by decide +kernel)
set_option maxRecDepth 100000 in
theorem pc289 : cutpc [60, 130] R289 = true := by decide +kernel
set_option maxRecDepth 100000 in
theorem r12_doQuote_130 (F280 : PM → Int32 → Int32) (G280 : PM → Int32 → Prop) (o280 : CalOK 2 (CC280 F280 G280)) (F215 : PM → Int32 → Int32 → Int32 → Int32) (G215 : PM → Int32 → Int32 → Int32 → Prop) (o215 : CalOK 2 (CC215 F215 G215)) (F219 : PM → Int32 → Int32 → Int32) (G219 : PM → Int32 → Int32 → Prop) (o219 : CalOK 2 (CC219 F219 G219)) (F222 : PM → Int32) (G222 : PM → Prop) (o222 : CalOK 2 (CC222 F222 G222)) (F231 : PM → Int32 → Int32 → Int32 → Int32) (G231 : PM → Int32 → Int32 → Int32 → Prop) (o231 : CalOK 2 (CC231 F231 G231)) (F224 : PM → Int32 → Int32 → Int32 → Int32 → Int32 → Int32 → Int32 → Int32 × PM) (G224 : PM → Int32 → Int32 → Int32 → Int32 → Int32 → Int32 → Int32 → Prop) (o224 : CalOK 2 (CC224 F224 G224)) (F257 : PM → Int32 → PM) (G257 : PM → Int32 → Prop) (o257 : CalOK 2 (CC257 F257 G257)) (kv130 : PM → Int32 → Int32 → Int32 → Int32 → Int32 → Int32 → Int32 × PM) (kg130 : PM → Int32 → Int32 → Int32 → Int32 → Int32 → Int32 → Prop) (hk130 : ∀ (p : PM) (v1 : Int32) (v2 : Int32) (v3 : Int32) (v4 : Int32) (v5 : Int32) (v6 : Int32), Gr 2 p → kg130 p v1 v2 v3 v4 v5 v6 → ZJ 2 289 130 [zR 12 1, zI v1, zI v2, zI v3, zI v4, zI v5, zI v6] [] p (hwI (kv130 p v1 v2 v3 v4 v5 v6))) : ∀ (p : PM) (v1 : Int32) (v2 : Int32) (v3 : Int32) (v4 : Int32) (v5 : Int32) (v6 : Int32), Gr 2 p → bg12_doQuote_130 F224 G224 F257 G257 kg130 p v1 v2 v3 v4 v5 v6 → ZJ 2 289 130 [zR 12 1, zI v1, zI v2, zI v3, zI v4, zI v5, zI v6] [] p (hwI (bv12_doQuote_130 F224 F257 kv130 p v1 v2 v3 v4 v5 v6)) := by
  intro p v1 v2 v3 v4 v5 v6  hg H
  exact rwI (n := 3000) (q := 130) (la := [zR 12 1, zI v1, zI v2, zI v3, zI v4, zI v5, zI v6]) (sa := []) (ks := [fun _ _ s => (0, s), fun la sa s => kv130 s (ai la 1) (ai la 2) (ai la 3) (ai la 4) (ai la 5) (ai la 6)]) (gs := [fun _ _ _ => False, fun la sa s => zsw (tc2 la [(112, 1), (0, 0), (0, 0), (0, 0), (0, 0), (0, 0), (0, 0)] && tc2 sa []) False (kg130 s (ai la 1) (ai la 2) (ai la 3) (ai la 4) (ai la 5) (ai la 6))]) (fcons o280 (fcons o215 (fcons o219 (fcons o222 (fcons o231 (fcons o224 (fcons o257 (fnil)))))))) tab289 pc289 ⟨fun _ _ _ _ H => H.elim, fun la sa s hg H => zcut H fun H => hk130 s (ai la 1) (ai la 2) (ai la 3) (ai la 4) (ai la 5) (ai la 6) hg H, trivial⟩ hg H
theorem t12_doQuote_130 : ∀ (n : Nat), ∀ (p : PM) (v1 : Int32) (v2 : Int32) (v3 : Int32) (v4 : Int32) (v5 : Int32) (v6 : Int32), Gr 2 p → g12_doQuote_130 n p v1 v2 v3 v4 v5 v6 → ZJ 2 289 130 [zR 12 1, zI v1, zI v2, zI v3, zI v4, zI v5, zI v6] [] p (hwI (v12_doQuote_130 n p v1 v2 v3 v4 v5 v6)) := by
  intro n
  induction n with
  | zero =>
    intro p v1 v2 v3 v4 v5 v6  hg H
    exact H.elim
  | succ n ih => exact r12_doQuote_130 v12_isAccount g12_isAccount ok280 v12_in g12_in ok215 v12_isPrice g12_isPrice ok219 v12_live g12_live ok222 v12_isRefused g12_isRefused ok231 v12_newOrder g12_newOrder ok224 v12_enters g12_enters ok257 (v12_doQuote_130 n) (g12_doQuote_130 n) ih
set_option maxRecDepth 100000 in
theorem r12_doQuote_60 (F280 : PM → Int32 → Int32) (G280 : PM → Int32 → Prop) (o280 : CalOK 2 (CC280 F280 G280)) (F215 : PM → Int32 → Int32 → Int32 → Int32) (G215 : PM → Int32 → Int32 → Int32 → Prop) (o215 : CalOK 2 (CC215 F215 G215)) (F219 : PM → Int32 → Int32 → Int32) (G219 : PM → Int32 → Int32 → Prop) (o219 : CalOK 2 (CC219 F219 G219)) (F222 : PM → Int32) (G222 : PM → Prop) (o222 : CalOK 2 (CC222 F222 G222)) (F231 : PM → Int32 → Int32 → Int32 → Int32) (G231 : PM → Int32 → Int32 → Int32 → Prop) (o231 : CalOK 2 (CC231 F231 G231)) (F224 : PM → Int32 → Int32 → Int32 → Int32 → Int32 → Int32 → Int32 → Int32 × PM) (G224 : PM → Int32 → Int32 → Int32 → Int32 → Int32 → Int32 → Int32 → Prop) (o224 : CalOK 2 (CC224 F224 G224)) (F257 : PM → Int32 → PM) (G257 : PM → Int32 → Prop) (o257 : CalOK 2 (CC257 F257 G257)) (kv130 : PM → Int32 → Int32 → Int32 → Int32 → Int32 → Int32 → Int32 × PM) (kg130 : PM → Int32 → Int32 → Int32 → Int32 → Int32 → Int32 → Prop) (hk130 : ∀ (p : PM) (v1 : Int32) (v2 : Int32) (v3 : Int32) (v4 : Int32) (v5 : Int32) (v6 : Int32), Gr 2 p → kg130 p v1 v2 v3 v4 v5 v6 → ZJ 2 289 130 [zR 12 1, zI v1, zI v2, zI v3, zI v4, zI v5, zI v6] [] p (hwI (kv130 p v1 v2 v3 v4 v5 v6))) : ∀ (p : PM) (v1 : Int32) (v2 : Int32) (v3 : Int32) (v4 : Int32) (v5 : Int32) (s0 : Int32) (d6 : ZV), Gr 2 p → bg12_doQuote_60 F222 G222 F231 G231 kg130 p v1 v2 v3 v4 v5 s0 → ZJ 2 289 60 [zR 12 1, zI v1, zI v2, zI v3, zI v4, zI v5, d6] [zI s0, zR 12 1] p (hwI (bv12_doQuote_60 F222 F231 kv130 p v1 v2 v3 v4 v5 s0)) := by
  intro p v1 v2 v3 v4 v5 s0 d6 hg H
  exact rwI (n := 3000) (q := 60) (la := [zR 12 1, zI v1, zI v2, zI v3, zI v4, zI v5, d6]) (sa := [zI s0, zR 12 1]) (ks := [fun _ _ s => (0, s), fun la sa s => kv130 s (ai la 1) (ai la 2) (ai la 3) (ai la 4) (ai la 5) (ai la 6)]) (gs := [fun _ _ _ => False, fun la sa s => zsw (tc2 la [(112, 1), (0, 0), (0, 0), (0, 0), (0, 0), (0, 0), (0, 0)] && tc2 sa []) False (kg130 s (ai la 1) (ai la 2) (ai la 3) (ai la 4) (ai la 5) (ai la 6))]) (fcons o280 (fcons o215 (fcons o219 (fcons o222 (fcons o231 (fcons o224 (fcons o257 (fnil)))))))) tab289 pc289 ⟨fun _ _ _ _ H => H.elim, fun la sa s hg H => zcut H fun H => hk130 s (ai la 1) (ai la 2) (ai la 3) (ai la 4) (ai la 5) (ai la 6) hg H, trivial⟩ hg H
theorem t12_doQuote_60 : ∀ (p : PM) (v1 : Int32) (v2 : Int32) (v3 : Int32) (v4 : Int32) (v5 : Int32) (s0 : Int32) (d6 : ZV), Gr 2 p → g12_doQuote_60 p v1 v2 v3 v4 v5 s0 → ZJ 2 289 60 [zR 12 1, zI v1, zI v2, zI v3, zI v4, zI v5, d6] [zI s0, zR 12 1] p (hwI (v12_doQuote_60 p v1 v2 v3 v4 v5 s0)) := r12_doQuote_60 v12_isAccount g12_isAccount ok280 v12_in g12_in ok215 v12_isPrice g12_isPrice ok219 v12_live g12_live ok222 v12_isRefused g12_isRefused ok231 v12_newOrder g12_newOrder ok224 v12_enters g12_enters ok257 (v12_doQuote_130 FU) (g12_doQuote_130 FU) (t12_doQuote_130 FU)
set_option maxRecDepth 100000 in
theorem r12_doQuote (F280 : PM → Int32 → Int32) (G280 : PM → Int32 → Prop) (o280 : CalOK 2 (CC280 F280 G280)) (F215 : PM → Int32 → Int32 → Int32 → Int32) (G215 : PM → Int32 → Int32 → Int32 → Prop) (o215 : CalOK 2 (CC215 F215 G215)) (F219 : PM → Int32 → Int32 → Int32) (G219 : PM → Int32 → Int32 → Prop) (o219 : CalOK 2 (CC219 F219 G219)) (F222 : PM → Int32) (G222 : PM → Prop) (o222 : CalOK 2 (CC222 F222 G222)) (F231 : PM → Int32 → Int32 → Int32 → Int32) (G231 : PM → Int32 → Int32 → Int32 → Prop) (o231 : CalOK 2 (CC231 F231 G231)) (F224 : PM → Int32 → Int32 → Int32 → Int32 → Int32 → Int32 → Int32 → Int32 × PM) (G224 : PM → Int32 → Int32 → Int32 → Int32 → Int32 → Int32 → Int32 → Prop) (o224 : CalOK 2 (CC224 F224 G224)) (F257 : PM → Int32 → PM) (G257 : PM → Int32 → Prop) (o257 : CalOK 2 (CC257 F257 G257)) (kv60 : PM → Int32 → Int32 → Int32 → Int32 → Int32 → Int32 → Int32 × PM) (kg60 : PM → Int32 → Int32 → Int32 → Int32 → Int32 → Int32 → Prop) (hk60 : ∀ (p : PM) (v1 : Int32) (v2 : Int32) (v3 : Int32) (v4 : Int32) (v5 : Int32) (s0 : Int32) (d6 : ZV), Gr 2 p → kg60 p v1 v2 v3 v4 v5 s0 → ZJ 2 289 60 [zR 12 1, zI v1, zI v2, zI v3, zI v4, zI v5, d6] [zI s0, zR 12 1] p (hwI (kv60 p v1 v2 v3 v4 v5 s0))) : ∀ (p : PM) (v1 : Int32) (v2 : Int32) (v3 : Int32) (v4 : Int32) (v5 : Int32), Gr 2 p → bg12_doQuote F215 G215 F219 G219 F280 G280 kg60 p v1 v2 v3 v4 v5 → ZJ 2 289 0 [zR 12 1, zI v1, zI v2, zI v3, zI v4, zI v5, zJ] [] p (hwI (bv12_doQuote F215 F219 F280 kv60 p v1 v2 v3 v4 v5)) := by
  intro p v1 v2 v3 v4 v5  hg H
  exact rwI (n := 3000) (q := 0) (la := [zR 12 1, zI v1, zI v2, zI v3, zI v4, zI v5, zJ]) (sa := []) (ks := [fun la sa s => kv60 s (ai la 1) (ai la 2) (ai la 3) (ai la 4) (ai la 5) (ai sa 0), fun _ _ s => (0, s)]) (gs := [fun la sa s => zsw (tc2 la [(112, 1), (0, 0), (0, 0), (0, 0), (0, 0), (0, 0), (2, 0)] && tc2 sa [(0, 0), (112, 1)]) False (kg60 s (ai la 1) (ai la 2) (ai la 3) (ai la 4) (ai la 5) (ai sa 0)), fun _ _ _ => False]) (fcons o280 (fcons o215 (fcons o219 (fcons o222 (fcons o231 (fcons o224 (fcons o257 (fnil)))))))) tab289 pc289 ⟨fun la sa s hg H => zcut H fun H => hk60 s (ai la 1) (ai la 2) (ai la 3) (ai la 4) (ai la 5) (ai sa 0) (zld la 6) hg H, fun _ _ _ _ H => H.elim, trivial⟩ hg H
theorem t12_doQuote : ∀ (p : PM) (v1 : Int32) (v2 : Int32) (v3 : Int32) (v4 : Int32) (v5 : Int32), Gr 2 p → g12_doQuote p v1 v2 v3 v4 v5 → ZJ 2 289 0 [zR 12 1, zI v1, zI v2, zI v3, zI v4, zI v5, zJ] [] p (hwI (v12_doQuote p v1 v2 v3 v4 v5)) := r12_doQuote v12_isAccount g12_isAccount ok280 v12_in g12_in ok215 v12_isPrice g12_isPrice ok219 v12_live g12_live ok222 v12_isRefused g12_isRefused ok231 v12_newOrder g12_newOrder ok224 v12_enters g12_enters ok257 (v12_doQuote_60) (g12_doQuote_60) (t12_doQuote_60)
def CC289 (F : PM → Int32 → Int32 → Int32 → Int32 → Int32 → Int32 × PM) (G : PM → Int32 → Int32 → Int32 → Int32 → Int32 → Prop) : Cal := (289, [15, 0, 0, 0, 0, 0], 1, false, fun as p => (zI (F p (ai as 1) (ai as 2) (ai as 3) (ai as 4) (ai as 5)).1, (F p (ai as 1) (ai as 2) (ai as 3) (ai as 4) (ai as 5)).2), fun as p => zsw (tc2 as [(112, 1), (0, 0), (0, 0), (0, 0), (0, 0), (0, 0)]) False (G p (ai as 1) (ai as 2) (ai as 3) (ai as 4) (ai as 5)))
set_option maxRecDepth 100000 in
theorem okr289 (F : PM → Int32 → Int32 → Int32 → Int32 → Int32 → Int32 × PM) (G : PM → Int32 → Int32 → Int32 → Int32 → Int32 → Prop) (h : ∀ (p : PM) (v1 : Int32) (v2 : Int32) (v3 : Int32) (v4 : Int32) (v5 : Int32), Gr 2 p → G p v1 v2 v3 v4 v5 → ZJ 2 289 0 [zR 12 1, zI v1, zI v2, zI v3, zI v4, zI v5, zJ] [] p (hwI (F p v1 v2 v3 v4 v5))) : CalOK 2 (CC289 F G) := cal_ok (m := 7) (by unfold mL; rw [mX_289]) (fun as p hg H => h p (ai as 1) (ai as 2) (ai as 3) (ai as 4) (ai as 5) hg H)
theorem ok289 : CalOK 2 (CC289 v12_doQuote g12_doQuote) := okr289 v12_doQuote g12_doQuote t12_doQuote
noncomputable def bv12_doCancel (F218 : PM → Int32 → Int32) (F223 : PM → Int32 → Int32) (p : PM) (v1 : Int32) : Int32 × PM :=
  if (F223 p v1) < 0 then (
    let p7 : PM := pI p 12 1 0 (cn 1)
    if (p7.1 12 1 0) = 0 then (
      let p8 : PM := pI p7 15 3 ((F223 p v1)).toNatClampNeg (cn 0)
      ((p8.1 13 17 ((F223 p v1)).toNatClampNeg), p8))
    else (
      ((cn 0), p7)))
  else (
    if (F218 p (p.1 13 16 ((F223 p v1)).toNatClampNeg)) = 0 then (
      if (p.1 12 1 17) < ((p.1 13 12 ((p.1 13 16 ((F223 p v1)).toNatClampNeg)).toNatClampNeg) - (p.1 13 13 ((p.1 13 16 ((F223 p v1)).toNatClampNeg)).toNatClampNeg)) then (
        let p3 : PM := pI p 12 1 0 (cn 0)
        if (p3.1 12 1 0) = 0 then (
          let p4 : PM := pI p3 15 3 ((F223 p v1)).toNatClampNeg (cn 0)
          ((p4.1 13 17 ((F223 p v1)).toNatClampNeg), p4))
        else (
          ((cn 0), p3)))
      else (
        let p5 : PM := pI p 12 1 0 (cn 2)
        if (p5.1 12 1 0) = 0 then (
          let p6 : PM := pI p5 15 3 ((F223 p v1)).toNatClampNeg (cn 0)
          ((p6.1 13 17 ((F223 p v1)).toNatClampNeg), p6))
        else (
          ((cn 0), p5))))
    else (
      let p1 : PM := pI p 12 1 0 (cn 0)
      if (p1.1 12 1 0) = 0 then (
        let p2 : PM := pI p1 15 3 ((F223 p v1)).toNatClampNeg (cn 0)
        ((p2.1 13 17 ((F223 p v1)).toNatClampNeg), p2))
      else (
        ((cn 0), p1))))
noncomputable def v12_doCancel (p : PM) (v1 : Int32) : Int32 × PM := bv12_doCancel v12_isOpen v12_placeOf p v1
noncomputable def bg12_doCancel (F218 : PM → Int32 → Int32) (G218 : PM → Int32 → Prop) (F223 : PM → Int32 → Int32) (G223 : PM → Int32 → Prop) (p : PM) (v1 : Int32) : Prop :=
  (G223 p v1) ∧ (
  if (F223 p v1) < 0 then (
    let p7 : PM := pI p 12 1 0 (cn 1)
    if (p7.1 12 1 0) = 0 then (
      (inb (F223 p v1) 44) ∧ (
      let p8 : PM := pI p7 15 3 ((F223 p v1)).toNatClampNeg (cn 0)
      (inb (F223 p v1) 44) ∧ (
      True)))
    else (
      True))
  else (
    (inb (F223 p v1) 44) ∧ (
    (G218 p (p.1 13 16 ((F223 p v1)).toNatClampNeg)) ∧ (
    if (F218 p (p.1 13 16 ((F223 p v1)).toNatClampNeg)) = 0 then (
      (inb (F223 p v1) 44) ∧ (
      (inb (p.1 13 16 ((F223 p v1)).toNatClampNeg) 6) ∧ (
      (inb (F223 p v1) 44) ∧ (
      (inb (p.1 13 16 ((F223 p v1)).toNatClampNeg) 6) ∧ (
      if (p.1 12 1 17) < ((p.1 13 12 ((p.1 13 16 ((F223 p v1)).toNatClampNeg)).toNatClampNeg) - (p.1 13 13 ((p.1 13 16 ((F223 p v1)).toNatClampNeg)).toNatClampNeg)) then (
        let p3 : PM := pI p 12 1 0 (cn 0)
        if (p3.1 12 1 0) = 0 then (
          (inb (F223 p v1) 44) ∧ (
          let p4 : PM := pI p3 15 3 ((F223 p v1)).toNatClampNeg (cn 0)
          (inb (F223 p v1) 44) ∧ (
          True)))
        else (
          True))
      else (
        let p5 : PM := pI p 12 1 0 (cn 2)
        if (p5.1 12 1 0) = 0 then (
          (inb (F223 p v1) 44) ∧ (
          let p6 : PM := pI p5 15 3 ((F223 p v1)).toNatClampNeg (cn 0)
          (inb (F223 p v1) 44) ∧ (
          True)))
        else (
          True)))))))
    else (
      let p1 : PM := pI p 12 1 0 (cn 0)
      if (p1.1 12 1 0) = 0 then (
        (inb (F223 p v1) 44) ∧ (
        let p2 : PM := pI p1 15 3 ((F223 p v1)).toNatClampNeg (cn 0)
        (inb (F223 p v1) 44) ∧ (
        True)))
      else (
        True))))))
noncomputable def g12_doCancel (p : PM) (v1 : Int32) : Prop := bg12_doCancel v12_isOpen g12_isOpen v12_placeOf g12_placeOf p v1
def R290 : List Row := [(0, .aload_n 0, 1, 0, (0, 0, 0, 0, 0, 0)), (1, .iload_n 1, 1, 0, (0, 0, 0, 0, 0, 0)), (2, .invokevirtual 449, 3, 0, (0, 2, 0, 0, 1, 0)), (5, .istore_n 2, 1, 0, (0, 0, 0, 0, 0, 0)), (6, .aload_n 0, 1, 0, (0, 0, 0, 0, 0, 0)), (7, .iload_n 2, 1, 0, (0, 0, 0, 0, 0, 0)), (8, .ifCond .ge 7, 3, 0, (0, 0, 0, 0, 0, 0)), (11, .iconst 1, 1, 0, (0, 0, 0, 0, 0, 1)), (12, .goto 51, 3, 0, (0, 0, 0, 0, 0, 0)), (15, .aload_n 0, 1, 0, (0, 0, 0, 0, 0, 0)), (16, .aload_n 0, 1, 0, (0, 0, 0, 0, 0, 0)), (17, .getfield 69, 3, 0, (12, 22, 16, 2, 16, 0)), (20, .iload_n 2, 1, 0, (0, 0, 0, 0, 0, 0)), (21, .iaload, 1, 0, (13, 44, 0, 0, 0, 0)), (22, .invokevirtual 328, 3, 0, (1, 2, 0, 0, 1, 0)), (25, .ifCond .ne 37, 3, 0, (0, 0, 0, 0, 0, 0)), (28, .aload_n 0, 1, 0, (0, 0, 0, 0, 0, 0)), (29, .getfield 194, 3, 0, (12, 17, 0, 1, 0, 0)), (32, .aload_n 0, 1, 0, (0, 0, 0, 0, 0, 0)), (33, .getfield 51, 3, 0, (12, 14, 16, 2, 12, 0)), (36, .aload_n 0, 1, 0, (0, 0, 0, 0, 0, 0)), (37, .getfield 69, 3, 0, (12, 22, 16, 2, 16, 0)), (40, .iload_n 2, 1, 0, (0, 0, 0, 0, 0, 0)), (41, .iaload, 1, 0, (13, 44, 0, 0, 0, 0)), (42, .iaload, 1, 0, (13, 6, 0, 0, 0, 0)), (43, .aload_n 0, 1, 0, (0, 0, 0, 0, 0, 0)), (44, .getfield 54, 3, 0, (12, 15, 16, 2, 13, 0)), (47, .aload_n 0, 1, 0, (0, 0, 0, 0, 0, 0)), (48, .getfield 69, 3, 0, (12, 22, 16, 2, 16, 0)), (51, .iload_n 2, 1, 0, (0, 0, 0, 0, 0, 0)), (52, .iaload, 1, 0, (13, 44, 0, 0, 0, 0)), (53, .iaload, 1, 0, (13, 6, 0, 0, 0, 0)), (54, .isub, 1, 0, (0, 0, 0, 0, 0, 0)), (55, .if_icmp .lt 7, 3, 0, (0, 0, 0, 0, 0, 0)), (58, .iconst 2, 1, 0, (0, 0, 0, 0, 0, 2)), (59, .goto 4, 3, 0, (0, 0, 0, 0, 0, 0)), (62, .iconst 0, 1, 0, (0, 0, 0, 0, 0, 0)), (63, .putfield 180, 3, 0, (12, 0, 0, 1, 0, 0)), (66, .aload_n 0, 1, 0, (0, 0, 0, 0, 0, 0)), (67, .getfield 180, 3, 0, (12, 0, 0, 1, 0, 0)), (70, .ifCond .eq 5, 3, 0, (0, 0, 0, 0, 0, 0)), (73, .iconst 0, 1, 0, (0, 0, 0, 0, 0, 0)), (74, .ireturn, 1, 0, (0, 0, 0, 0, 0, 0)), (75, .aload_n 0, 1, 0, (0, 0, 0, 0, 0, 0)), (76, .getfield 60, 3, 0, (12, 19, 18, 2, 3, 0)), (79, .iload_n 2, 1, 0, (0, 0, 0, 0, 0, 0)), (80, .iconst 0, 1, 0, (0, 0, 0, 0, 0, 0)), (81, .bastore, 1, 0, (15, 44, 0, 0, 0, 0)), (82, .aload_n 0, 1, 0, (0, 0, 0, 0, 0, 0)), (83, .getfield 75, 3, 0, (12, 24, 16, 2, 17, 0)), (86, .iload_n 2, 1, 0, (0, 0, 0, 0, 0, 0)), (87, .iaload, 1, 0, (13, 44, 0, 0, 0, 0)), (88, .ireturn, 1, 0, (0, 0, 0, 0, 0, 0))]
set_option maxRecDepth 100000 in
theorem rk290 : R290.all (rok 2 290 1 [(223, [15, 0]), (218, [15, 0])]) = true := by decide +kernel
set_option maxRecDepth 100000 in
theorem tab290 {F223 : PM → Int32 → Int32} {G223 : PM → Int32 → Prop} {F218 : PM → Int32 → Int32} {G218 : PM → Int32 → Prop} : TabOK 2 290 1 [CC223 F223 G223, CC218 F218 G218] R290 := tab_ok (K := K290) rfl rfl (fun h => d290 h) rk290 (by decide +kernel)
set_option maxRecDepth 100000 in
theorem pc290 : cutpc [] R290 = true := by decide +kernel
set_option maxRecDepth 100000 in
theorem r12_doCancel (F223 : PM → Int32 → Int32) (G223 : PM → Int32 → Prop) (o223 : CalOK 2 (CC223 F223 G223)) (F218 : PM → Int32 → Int32) (G218 : PM → Int32 → Prop) (o218 : CalOK 2 (CC218 F218 G218)) : ∀ (p : PM) (v1 : Int32), Gr 2 p → bg12_doCancel F218 G218 F223 G223 p v1 → ZJ 2 290 0 [zR 12 1, zI v1, zJ] [] p (hwI (bv12_doCancel F218 F223 p v1)) := by
  intro p v1  hg H
  exact rwI (n := 3000) (q := 0) (la := [zR 12 1, zI v1, zJ]) (sa := []) (ks := []) (gs := []) (fcons o223 (fcons o218 (fnil))) tab290 pc290 trivial hg H
theorem t12_doCancel : ∀ (p : PM) (v1 : Int32), Gr 2 p → g12_doCancel p v1 → ZJ 2 290 0 [zR 12 1, zI v1, zJ] [] p (hwI (v12_doCancel p v1)) := r12_doCancel v12_placeOf g12_placeOf ok223 v12_isOpen g12_isOpen ok218
def CC290 (F : PM → Int32 → Int32 × PM) (G : PM → Int32 → Prop) : Cal := (290, [15, 0], 1, false, fun as p => (zI (F p (ai as 1)).1, (F p (ai as 1)).2), fun as p => zsw (tc2 as [(112, 1), (0, 0)]) False (G p (ai as 1)))
set_option maxRecDepth 100000 in
theorem okr290 (F : PM → Int32 → Int32 × PM) (G : PM → Int32 → Prop) (h : ∀ (p : PM) (v1 : Int32), Gr 2 p → G p v1 → ZJ 2 290 0 [zR 12 1, zI v1, zJ] [] p (hwI (F p v1))) : CalOK 2 (CC290 F G) := cal_ok (m := 3) (by unfold mL; rw [mX_290]) (fun as p hg H => h p (ai as 1) hg H)
theorem ok290 : CalOK 2 (CC290 v12_doCancel g12_doCancel) := okr290 v12_doCancel g12_doCancel t12_doCancel
noncomputable def bv12_doRule_43 (p : PM) (v1 : Int32) (v2 : Int32) (v3 : Int32) (v4 : Int32) : Int32 × PM :=
  let p1 : PM := pI p 12 1 0 (cn 2)
  if (p1.1 12 1 0) = 0 then (
    let x5 : Int32 := (p1.1 13 6 (v1).toNatClampNeg)
    if (p1.1 12 1 0) = 0 then (
      let p6 : PM := pI p1 13 6 (v1).toNatClampNeg v2
      let p7 : PM := pI p6 13 7 (v1).toNatClampNeg v3
      let p8 : PM := pI p7 13 8 (v1).toNatClampNeg v4
      (x5, p8))
    else (
      (x5, p1)))
  else (
    if (p1.1 12 1 0) = 0 then (
      let p2 : PM := pI p1 13 6 (v1).toNatClampNeg v2
      let p3 : PM := pI p2 13 7 (v1).toNatClampNeg v3
      let p4 : PM := pI p3 13 8 (v1).toNatClampNeg v4
      ((cn 0), p4))
    else (
      ((cn 0), p1)))
noncomputable def v12_doRule_43 (p : PM) (v1 : Int32) (v2 : Int32) (v3 : Int32) (v4 : Int32) : Int32 × PM := bv12_doRule_43 p v1 v2 v3 v4
noncomputable def bg12_doRule_43 (p : PM) (v1 : Int32) (v2 : Int32) (v3 : Int32) (v4 : Int32) : Prop :=
  let p1 : PM := pI p 12 1 0 (cn 2)
  if (p1.1 12 1 0) = 0 then (
    (inb v1 6) ∧ (
    let x5 : Int32 := (p1.1 13 6 (v1).toNatClampNeg)
    if (p1.1 12 1 0) = 0 then (
      (inb v1 6) ∧ (
      let p6 : PM := pI p1 13 6 (v1).toNatClampNeg v2
      (inb v1 6) ∧ (
      let p7 : PM := pI p6 13 7 (v1).toNatClampNeg v3
      (inb v1 6) ∧ (
      let p8 : PM := pI p7 13 8 (v1).toNatClampNeg v4
      True))))
    else (
      True)))
  else (
    if (p1.1 12 1 0) = 0 then (
      (inb v1 6) ∧ (
      let p2 : PM := pI p1 13 6 (v1).toNatClampNeg v2
      (inb v1 6) ∧ (
      let p3 : PM := pI p2 13 7 (v1).toNatClampNeg v3
      (inb v1 6) ∧ (
      let p4 : PM := pI p3 13 8 (v1).toNatClampNeg v4
      True))))
    else (
      True))
noncomputable def g12_doRule_43 (p : PM) (v1 : Int32) (v2 : Int32) (v3 : Int32) (v4 : Int32) : Prop := bg12_doRule_43 p v1 v2 v3 v4
noncomputable def bv12_doRule (F215 : PM → Int32 → Int32 → Int32 → Int32) (kv43 : PM → Int32 → Int32 → Int32 → Int32 → Int32 × PM) (p : PM) (v1 : Int32) (v2 : Int32) (v3 : Int32) (v4 : Int32) : Int32 × PM :=
  if (F215 p v1 (cn 0) (cn 5)) = 0 then (
    let p9 : PM := pI p 12 1 0 (cn 1)
    if (p9.1 12 1 0) = 0 then (
      let x13 : Int32 := (p9.1 13 6 (v1).toNatClampNeg)
      if (p9.1 12 1 0) = 0 then (
        let p14 : PM := pI p9 13 6 (v1).toNatClampNeg v2
        let p15 : PM := pI p14 13 7 (v1).toNatClampNeg v3
        let p16 : PM := pI p15 13 8 (v1).toNatClampNeg v4
        (x13, p16))
      else (
        (x13, p9)))
    else (
      if (p9.1 12 1 0) = 0 then (
        let p10 : PM := pI p9 13 6 (v1).toNatClampNeg v2
        let p11 : PM := pI p10 13 7 (v1).toNatClampNeg v3
        let p12 : PM := pI p11 13 8 (v1).toNatClampNeg v4
        ((cn 0), p12))
      else (
        ((cn 0), p9))))
  else (
    if (F215 p v2 (cn 0) (cn 2)) = 0 then (
      kv43 p v1 v2 v3 v4)
    else (
      if (F215 p v3 (cn 0) (cn 50)) = 0 then (
        kv43 p v1 v2 v3 v4)
      else (
        if (F215 p v4 (cn 0) (cn 2)) = 0 then (
          kv43 p v1 v2 v3 v4)
        else (
          let p1 : PM := pI p 12 1 0 (cn 0)
          if (p1.1 12 1 0) = 0 then (
            let x5 : Int32 := (p1.1 13 6 (v1).toNatClampNeg)
            if (p1.1 12 1 0) = 0 then (
              let p6 : PM := pI p1 13 6 (v1).toNatClampNeg v2
              let p7 : PM := pI p6 13 7 (v1).toNatClampNeg v3
              let p8 : PM := pI p7 13 8 (v1).toNatClampNeg v4
              (x5, p8))
            else (
              (x5, p1)))
          else (
            if (p1.1 12 1 0) = 0 then (
              let p2 : PM := pI p1 13 6 (v1).toNatClampNeg v2
              let p3 : PM := pI p2 13 7 (v1).toNatClampNeg v3
              let p4 : PM := pI p3 13 8 (v1).toNatClampNeg v4
              ((cn 0), p4))
            else (
              ((cn 0), p1)))))))
noncomputable def v12_doRule (p : PM) (v1 : Int32) (v2 : Int32) (v3 : Int32) (v4 : Int32) : Int32 × PM := bv12_doRule v12_in v12_doRule_43 p v1 v2 v3 v4
noncomputable def bg12_doRule (F215 : PM → Int32 → Int32 → Int32 → Int32) (G215 : PM → Int32 → Int32 → Int32 → Prop) (kg43 : PM → Int32 → Int32 → Int32 → Int32 → Prop) (p : PM) (v1 : Int32) (v2 : Int32) (v3 : Int32) (v4 : Int32) : Prop :=
  (G215 p v1 (cn 0) (cn 5)) ∧ (
  if (F215 p v1 (cn 0) (cn 5)) = 0 then (
    let p9 : PM := pI p 12 1 0 (cn 1)
    if (p9.1 12 1 0) = 0 then (
      (inb v1 6) ∧ (
      let x13 : Int32 := (p9.1 13 6 (v1).toNatClampNeg)
      if (p9.1 12 1 0) = 0 then (
        (inb v1 6) ∧ (
        let p14 : PM := pI p9 13 6 (v1).toNatClampNeg v2
        (inb v1 6) ∧ (
        let p15 : PM := pI p14 13 7 (v1).toNatClampNeg v3
        (inb v1 6) ∧ (
        let p16 : PM := pI p15 13 8 (v1).toNatClampNeg v4
        True))))
      else (
        True)))
    else (
      if (p9.1 12 1 0) = 0 then (
        (inb v1 6) ∧ (
        let p10 : PM := pI p9 13 6 (v1).toNatClampNeg v2
        (inb v1 6) ∧ (
        let p11 : PM := pI p10 13 7 (v1).toNatClampNeg v3
        (inb v1 6) ∧ (
        let p12 : PM := pI p11 13 8 (v1).toNatClampNeg v4
        True))))
      else (
        True)))
  else (
    (G215 p v2 (cn 0) (cn 2)) ∧ (
    if (F215 p v2 (cn 0) (cn 2)) = 0 then (
      kg43 p v1 v2 v3 v4)
    else (
      (G215 p v3 (cn 0) (cn 50)) ∧ (
      if (F215 p v3 (cn 0) (cn 50)) = 0 then (
        kg43 p v1 v2 v3 v4)
      else (
        (G215 p v4 (cn 0) (cn 2)) ∧ (
        if (F215 p v4 (cn 0) (cn 2)) = 0 then (
          kg43 p v1 v2 v3 v4)
        else (
          let p1 : PM := pI p 12 1 0 (cn 0)
          if (p1.1 12 1 0) = 0 then (
            (inb v1 6) ∧ (
            let x5 : Int32 := (p1.1 13 6 (v1).toNatClampNeg)
            if (p1.1 12 1 0) = 0 then (
              (inb v1 6) ∧ (
              let p6 : PM := pI p1 13 6 (v1).toNatClampNeg v2
              (inb v1 6) ∧ (
              let p7 : PM := pI p6 13 7 (v1).toNatClampNeg v3
              (inb v1 6) ∧ (
              let p8 : PM := pI p7 13 8 (v1).toNatClampNeg v4
              True))))
            else (
              True)))
          else (
            if (p1.1 12 1 0) = 0 then (
              (inb v1 6) ∧ (
              let p2 : PM := pI p1 13 6 (v1).toNatClampNeg v2
              (inb v1 6) ∧ (
              let p3 : PM := pI p2 13 7 (v1).toNatClampNeg v3
              (inb v1 6) ∧ (
              let p4 : PM := pI p3 13 8 (v1).toNatClampNeg v4
              True))))
            else (
              True))))))))))
noncomputable def g12_doRule (p : PM) (v1 : Int32) (v2 : Int32) (v3 : Int32) (v4 : Int32) : Prop := bg12_doRule v12_in g12_in g12_doRule_43 p v1 v2 v3 v4
def R291 : List Row := [(0, .aload_n 0, 1, 0, (0, 0, 0, 0, 0, 0)), (1, .iload_n 1, 1, 0, (0, 0, 0, 0, 0, 0)), (2, .iconst 0, 1, 0, (0, 0, 0, 0, 0, 0)), (3, .iconst 5, 1, 0, (0, 0, 0, 0, 0, 5)), (4, .invokestatic 209, 3, 0, (0, 3, 0, 0, 0, 0)), (7, .ifCond .ne 7, 3, 0, (0, 0, 0, 0, 0, 0)), (10, .iconst 1, 1, 0, (0, 0, 0, 0, 0, 1)), (11, .goto 37, 3, 0, (0, 0, 0, 0, 0, 0)), (14, .iload_n 2, 1, 0, (0, 0, 0, 0, 0, 0)), (15, .iconst 0, 1, 0, (0, 0, 0, 0, 0, 0)), (16, .iconst 2, 1, 0, (0, 0, 0, 0, 0, 2)), (17, .invokestatic 209, 3, 0, (0, 3, 0, 0, 0, 0)), (20, .ifCond .eq 23, 3, 0, (0, 0, 0, 0, 0, 0)), (23, .iload_n 3, 1, 0, (0, 0, 0, 0, 0, 0)), (24, .iconst 0, 1, 0, (0, 0, 0, 0, 0, 0)), (25, .bipush 50, 2, 0, (0, 0, 0, 0, 0, 50)), (27, .invokestatic 209, 3, 0, (0, 3, 0, 0, 0, 0)), (30, .ifCond .eq 13, 3, 0, (0, 0, 0, 0, 0, 0)), (33, .iload 4, 2, 0, (0, 0, 0, 0, 0, 0)), (35, .iconst 0, 1, 0, (0, 0, 0, 0, 0, 0)), (36, .iconst 2, 1, 0, (0, 0, 0, 0, 0, 2)), (37, .invokestatic 209, 3, 0, (0, 3, 0, 0, 0, 0)), (40, .ifCond .ne 7, 3, 0, (0, 0, 0, 0, 0, 0)), (43, .iconst 2, 1, 1, (0, 0, 0, 0, 0, 2)), (44, .goto 4, 3, 0, (0, 0, 0, 0, 0, 0)), (47, .iconst 0, 1, 0, (0, 0, 0, 0, 0, 0)), (48, .putfield 180, 3, 0, (12, 0, 0, 1, 0, 0)), (51, .aload_n 0, 1, 0, (0, 0, 0, 0, 0, 0)), (52, .getfield 180, 3, 0, (12, 0, 0, 1, 0, 0)), (55, .ifCond .ne 12, 3, 0, (0, 0, 0, 0, 0, 0)), (58, .aload_n 0, 1, 0, (0, 0, 0, 0, 0, 0)), (59, .getfield 33, 3, 0, (12, 8, 16, 2, 6, 0)), (62, .iload_n 1, 1, 0, (0, 0, 0, 0, 0, 0)), (63, .iaload, 1, 0, (13, 6, 0, 0, 0, 0)), (64, .goto 4, 3, 0, (0, 0, 0, 0, 0, 0)), (67, .iconst 0, 1, 0, (0, 0, 0, 0, 0, 0)), (68, .istore 5, 2, 0, (0, 0, 0, 0, 0, 0)), (70, .aload_n 0, 1, 0, (0, 0, 0, 0, 0, 0)), (71, .getfield 180, 3, 0, (12, 0, 0, 1, 0, 0)), (74, .ifCond .ne 25, 3, 0, (0, 0, 0, 0, 0, 0)), (77, .aload_n 0, 1, 0, (0, 0, 0, 0, 0, 0)), (78, .getfield 33, 3, 0, (12, 8, 16, 2, 6, 0)), (81, .iload_n 1, 1, 0, (0, 0, 0, 0, 0, 0)), (82, .iload_n 2, 1, 0, (0, 0, 0, 0, 0, 0)), (83, .iastore, 1, 0, (13, 6, 0, 0, 0, 0)), (84, .aload_n 0, 1, 0, (0, 0, 0, 0, 0, 0)), (85, .getfield 36, 3, 0, (12, 9, 16, 2, 7, 0)), (88, .iload_n 1, 1, 0, (0, 0, 0, 0, 0, 0)), (89, .iload_n 3, 1, 0, (0, 0, 0, 0, 0, 0)), (90, .iastore, 1, 0, (13, 6, 0, 0, 0, 0)), (91, .aload_n 0, 1, 0, (0, 0, 0, 0, 0, 0)), (92, .getfield 39, 3, 0, (12, 10, 16, 2, 8, 0)), (95, .iload_n 1, 1, 0, (0, 0, 0, 0, 0, 0)), (96, .iload 4, 2, 0, (0, 0, 0, 0, 0, 0)), (98, .iastore, 1, 0, (13, 6, 0, 0, 0, 0)), (99, .iload 5, 2, 0, (0, 0, 0, 0, 0, 0)), (101, .ireturn, 1, 0, (0, 0, 0, 0, 0, 0))]
set_option maxRecDepth 100000 in
theorem rk291 : R291.all (rok 2 291 1 [(215, [0, 0, 0])]) = true := by decide +kernel
set_option maxRecDepth 100000 in
theorem tab291 {F215 : PM → Int32 → Int32 → Int32 → Int32} {G215 : PM → Int32 → Int32 → Int32 → Prop} : TabOK 2 291 1 [CC215 F215 G215] R291 := tab_ok (K := K291) rfl rfl (fun h => d291 h) rk291 (by decide +kernel)
set_option maxRecDepth 100000 in
theorem pc291 : cutpc [43] R291 = true := by decide +kernel
set_option maxRecDepth 100000 in
theorem r12_doRule_43 (F215 : PM → Int32 → Int32 → Int32 → Int32) (G215 : PM → Int32 → Int32 → Int32 → Prop) (o215 : CalOK 2 (CC215 F215 G215)) : ∀ (p : PM) (v1 : Int32) (v2 : Int32) (v3 : Int32) (v4 : Int32) (d5 : ZV), Gr 2 p → bg12_doRule_43 p v1 v2 v3 v4 → ZJ 2 291 43 [zR 12 1, zI v1, zI v2, zI v3, zI v4, d5] [zR 12 1] p (hwI (bv12_doRule_43 p v1 v2 v3 v4)) := by
  intro p v1 v2 v3 v4 d5 hg H
  exact rwI (n := 3000) (q := 43) (la := [zR 12 1, zI v1, zI v2, zI v3, zI v4, d5]) (sa := [zR 12 1]) (ks := [fun _ _ s => (0, s)]) (gs := [fun _ _ _ => False]) (fcons o215 (fnil)) tab291 pc291 ⟨fun _ _ _ _ H => H.elim, trivial⟩ hg H
theorem t12_doRule_43 : ∀ (p : PM) (v1 : Int32) (v2 : Int32) (v3 : Int32) (v4 : Int32) (d5 : ZV), Gr 2 p → g12_doRule_43 p v1 v2 v3 v4 → ZJ 2 291 43 [zR 12 1, zI v1, zI v2, zI v3, zI v4, d5] [zR 12 1] p (hwI (v12_doRule_43 p v1 v2 v3 v4)) := r12_doRule_43 v12_in g12_in ok215
set_option maxRecDepth 100000 in
theorem r12_doRule (F215 : PM → Int32 → Int32 → Int32 → Int32) (G215 : PM → Int32 → Int32 → Int32 → Prop) (o215 : CalOK 2 (CC215 F215 G215)) (kv43 : PM → Int32 → Int32 → Int32 → Int32 → Int32 × PM) (kg43 : PM → Int32 → Int32 → Int32 → Int32 → Prop) (hk43 : ∀ (p : PM) (v1 : Int32) (v2 : Int32) (v3 : Int32) (v4 : Int32) (d5 : ZV), Gr 2 p → kg43 p v1 v2 v3 v4 → ZJ 2 291 43 [zR 12 1, zI v1, zI v2, zI v3, zI v4, d5] [zR 12 1] p (hwI (kv43 p v1 v2 v3 v4))) : ∀ (p : PM) (v1 : Int32) (v2 : Int32) (v3 : Int32) (v4 : Int32), Gr 2 p → bg12_doRule F215 G215 kg43 p v1 v2 v3 v4 → ZJ 2 291 0 [zR 12 1, zI v1, zI v2, zI v3, zI v4, zJ] [] p (hwI (bv12_doRule F215 kv43 p v1 v2 v3 v4)) := by
  intro p v1 v2 v3 v4  hg H
  exact rwI (n := 3000) (q := 0) (la := [zR 12 1, zI v1, zI v2, zI v3, zI v4, zJ]) (sa := []) (ks := [fun la sa s => kv43 s (ai la 1) (ai la 2) (ai la 3) (ai la 4)]) (gs := [fun la sa s => zsw (tc2 la [(112, 1), (0, 0), (0, 0), (0, 0), (0, 0), (2, 0)] && tc2 sa [(112, 1)]) False (kg43 s (ai la 1) (ai la 2) (ai la 3) (ai la 4))]) (fcons o215 (fnil)) tab291 pc291 ⟨fun la sa s hg H => zcut H fun H => hk43 s (ai la 1) (ai la 2) (ai la 3) (ai la 4) (zld la 5) hg H, trivial⟩ hg H
theorem t12_doRule : ∀ (p : PM) (v1 : Int32) (v2 : Int32) (v3 : Int32) (v4 : Int32), Gr 2 p → g12_doRule p v1 v2 v3 v4 → ZJ 2 291 0 [zR 12 1, zI v1, zI v2, zI v3, zI v4, zJ] [] p (hwI (v12_doRule p v1 v2 v3 v4)) := r12_doRule v12_in g12_in ok215 (v12_doRule_43) (g12_doRule_43) (t12_doRule_43)
def CC291 (F : PM → Int32 → Int32 → Int32 → Int32 → Int32 × PM) (G : PM → Int32 → Int32 → Int32 → Int32 → Prop) : Cal := (291, [15, 0, 0, 0, 0], 1, false, fun as p => (zI (F p (ai as 1) (ai as 2) (ai as 3) (ai as 4)).1, (F p (ai as 1) (ai as 2) (ai as 3) (ai as 4)).2), fun as p => zsw (tc2 as [(112, 1), (0, 0), (0, 0), (0, 0), (0, 0)]) False (G p (ai as 1) (ai as 2) (ai as 3) (ai as 4)))
set_option maxRecDepth 100000 in
theorem okr291 (F : PM → Int32 → Int32 → Int32 → Int32 → Int32 × PM) (G : PM → Int32 → Int32 → Int32 → Int32 → Prop) (h : ∀ (p : PM) (v1 : Int32) (v2 : Int32) (v3 : Int32) (v4 : Int32), Gr 2 p → G p v1 v2 v3 v4 → ZJ 2 291 0 [zR 12 1, zI v1, zI v2, zI v3, zI v4, zJ] [] p (hwI (F p v1 v2 v3 v4))) : CalOK 2 (CC291 F G) := cal_ok (m := 6) (by unfold mL; rw [mX_291]) (fun as p hg H => h p (ai as 1) (ai as 2) (ai as 3) (ai as 4) hg H)
theorem ok291 : CalOK 2 (CC291 v12_doRule g12_doRule) := okr291 v12_doRule g12_doRule t12_doRule
noncomputable def bv12_puts (p : PM) (v1 : Nat) (v2 : Int32) (v3 : Int32) (v4 : Int32) (v5 : Int32) : Int32 × PM :=
  if v3 = 0 then (
    let p9 : PM := pI p 12 1 0 (cn 1)
    if (p9.1 12 1 0) = 0 then (
      let x11 : Int32 := (p9.1 13 v1 (v2).toNatClampNeg)
      if (p9.1 12 1 0) = 0 then (
        let p12 : PM := pI p9 13 v1 (v2).toNatClampNeg v4
        (x11, p12))
      else (
        (x11, p9)))
    else (
      if (p9.1 12 1 0) = 0 then (
        let p10 : PM := pI p9 13 v1 (v2).toNatClampNeg v4
        ((cn 0), p10))
      else (
        ((cn 0), p9))))
  else (
    if v5 = 0 then (
      let p5 : PM := pI p 12 1 0 (cn 2)
      if (p5.1 12 1 0) = 0 then (
        let x7 : Int32 := (p5.1 13 v1 (v2).toNatClampNeg)
        if (p5.1 12 1 0) = 0 then (
          let p8 : PM := pI p5 13 v1 (v2).toNatClampNeg v4
          (x7, p8))
        else (
          (x7, p5)))
      else (
        if (p5.1 12 1 0) = 0 then (
          let p6 : PM := pI p5 13 v1 (v2).toNatClampNeg v4
          ((cn 0), p6))
        else (
          ((cn 0), p5))))
    else (
      let p1 : PM := pI p 12 1 0 (cn 0)
      if (p1.1 12 1 0) = 0 then (
        let x3 : Int32 := (p1.1 13 v1 (v2).toNatClampNeg)
        if (p1.1 12 1 0) = 0 then (
          let p4 : PM := pI p1 13 v1 (v2).toNatClampNeg v4
          (x3, p4))
        else (
          (x3, p1)))
      else (
        if (p1.1 12 1 0) = 0 then (
          let p2 : PM := pI p1 13 v1 (v2).toNatClampNeg v4
          ((cn 0), p2))
        else (
          ((cn 0), p1)))))
noncomputable def v12_puts (p : PM) (v1 : Nat) (v2 : Int32) (v3 : Int32) (v4 : Int32) (v5 : Int32) : Int32 × PM := bv12_puts p v1 v2 v3 v4 v5
noncomputable def bg12_puts (p : PM) (v1 : Nat) (v2 : Int32) (v3 : Int32) (v4 : Int32) (v5 : Int32) : Prop :=
  if v3 = 0 then (
    let p9 : PM := pI p 12 1 0 (cn 1)
    if (p9.1 12 1 0) = 0 then (
      ((¬ v1 = 0 ∧ inb v2 (zln 2 13 v1))) ∧ (
      let x11 : Int32 := (p9.1 13 v1 (v2).toNatClampNeg)
      if (p9.1 12 1 0) = 0 then (
        ((¬ v1 = 0 ∧ inb v2 (zln 2 13 v1))) ∧ (
        let p12 : PM := pI p9 13 v1 (v2).toNatClampNeg v4
        True))
      else (
        True)))
    else (
      if (p9.1 12 1 0) = 0 then (
        ((¬ v1 = 0 ∧ inb v2 (zln 2 13 v1))) ∧ (
        let p10 : PM := pI p9 13 v1 (v2).toNatClampNeg v4
        True))
      else (
        True)))
  else (
    if v5 = 0 then (
      let p5 : PM := pI p 12 1 0 (cn 2)
      if (p5.1 12 1 0) = 0 then (
        ((¬ v1 = 0 ∧ inb v2 (zln 2 13 v1))) ∧ (
        let x7 : Int32 := (p5.1 13 v1 (v2).toNatClampNeg)
        if (p5.1 12 1 0) = 0 then (
          ((¬ v1 = 0 ∧ inb v2 (zln 2 13 v1))) ∧ (
          let p8 : PM := pI p5 13 v1 (v2).toNatClampNeg v4
          True))
        else (
          True)))
      else (
        if (p5.1 12 1 0) = 0 then (
          ((¬ v1 = 0 ∧ inb v2 (zln 2 13 v1))) ∧ (
          let p6 : PM := pI p5 13 v1 (v2).toNatClampNeg v4
          True))
        else (
          True)))
    else (
      let p1 : PM := pI p 12 1 0 (cn 0)
      if (p1.1 12 1 0) = 0 then (
        ((¬ v1 = 0 ∧ inb v2 (zln 2 13 v1))) ∧ (
        let x3 : Int32 := (p1.1 13 v1 (v2).toNatClampNeg)
        if (p1.1 12 1 0) = 0 then (
          ((¬ v1 = 0 ∧ inb v2 (zln 2 13 v1))) ∧ (
          let p4 : PM := pI p1 13 v1 (v2).toNatClampNeg v4
          True))
        else (
          True)))
      else (
        if (p1.1 12 1 0) = 0 then (
          ((¬ v1 = 0 ∧ inb v2 (zln 2 13 v1))) ∧ (
          let p2 : PM := pI p1 13 v1 (v2).toNatClampNeg v4
          True))
        else (
          True))))
noncomputable def g12_puts (p : PM) (v1 : Nat) (v2 : Int32) (v3 : Int32) (v4 : Int32) (v5 : Int32) : Prop := bg12_puts p v1 v2 v3 v4 v5
def R292 : List Row := [(0, .aload_n 0, 1, 0, (0, 0, 0, 0, 0, 0)), (1, .iload_n 3, 1, 0, (0, 0, 0, 0, 0, 0)), (2, .ifCond .ne 7, 3, 0, (0, 0, 0, 0, 0, 0)), (5, .iconst 1, 1, 0, (0, 0, 0, 0, 0, 1)), (6, .goto 13, 3, 0, (0, 0, 0, 0, 0, 0)), (9, .iload 5, 2, 0, (0, 0, 0, 0, 0, 0)), (11, .ifCond .ne 7, 3, 0, (0, 0, 0, 0, 0, 0)), (14, .iconst 2, 1, 0, (0, 0, 0, 0, 0, 2)), (15, .goto 4, 3, 0, (0, 0, 0, 0, 0, 0)), (18, .iconst 0, 1, 0, (0, 0, 0, 0, 0, 0)), (19, .putfield 180, 3, 0, (12, 0, 0, 1, 0, 0)), (22, .aload_n 0, 1, 0, (0, 0, 0, 0, 0, 0)), (23, .getfield 180, 3, 0, (12, 0, 0, 1, 0, 0)), (26, .ifCond .ne 9, 3, 0, (0, 0, 0, 0, 0, 0)), (29, .aload_n 1, 1, 0, (0, 0, 0, 0, 0, 0)), (30, .iload_n 2, 1, 0, (0, 0, 0, 0, 0, 0)), (31, .iaload, 1, 0, (13, 0, 3, 0, 0, 0)), (32, .goto 4, 3, 0, (0, 0, 0, 0, 0, 0)), (35, .iconst 0, 1, 0, (0, 0, 0, 0, 0, 0)), (36, .istore 6, 2, 0, (0, 0, 0, 0, 0, 0)), (38, .aload_n 0, 1, 0, (0, 0, 0, 0, 0, 0)), (39, .getfield 180, 3, 0, (12, 0, 0, 1, 0, 0)), (42, .ifCond .ne 8, 3, 0, (0, 0, 0, 0, 0, 0)), (45, .aload_n 1, 1, 0, (0, 0, 0, 0, 0, 0)), (46, .iload_n 2, 1, 0, (0, 0, 0, 0, 0, 0)), (47, .iload 4, 2, 0, (0, 0, 0, 0, 0, 0)), (49, .iastore, 1, 0, (13, 0, 3, 0, 0, 0)), (50, .iload 6, 2, 0, (0, 0, 0, 0, 0, 0)), (52, .ireturn, 1, 0, (0, 0, 0, 0, 0, 0))]
set_option maxRecDepth 100000 in
theorem rk292 : R292.all (rok 2 292 1 []) = true := by decide +kernel
set_option maxRecDepth 100000 in
theorem tab292 : TabOK 2 292 1 [] R292 := tab_ok (K := K292) rfl rfl (fun h => d292 h) rk292 (by decide +kernel)
set_option maxRecDepth 100000 in
theorem pc292 : cutpc [] R292 = true := by decide +kernel
set_option maxRecDepth 100000 in
theorem r12_puts : ∀ (p : PM) (v1 : Nat) (v2 : Int32) (v3 : Int32) (v4 : Int32) (v5 : Int32), Gr 2 p → bg12_puts p v1 v2 v3 v4 v5 → ZJ 2 292 0 [zR 12 1, zR 13 v1, zI v2, zI v3, zI v4, zI v5, zJ] [] p (hwI (bv12_puts p v1 v2 v3 v4 v5)) := by
  intro p v1 v2 v3 v4 v5  hg H
  exact rwI (n := 3000) (q := 0) (la := [zR 12 1, zR 13 v1, zI v2, zI v3, zI v4, zI v5, zJ]) (sa := []) (ks := []) (gs := []) (fnil) tab292 pc292 trivial hg H
theorem t12_puts : ∀ (p : PM) (v1 : Nat) (v2 : Int32) (v3 : Int32) (v4 : Int32) (v5 : Int32), Gr 2 p → g12_puts p v1 v2 v3 v4 v5 → ZJ 2 292 0 [zR 12 1, zR 13 v1, zI v2, zI v3, zI v4, zI v5, zJ] [] p (hwI (v12_puts p v1 v2 v3 v4 v5)) := r12_puts
def CC292 (F : PM → Nat → Int32 → Int32 → Int32 → Int32 → Int32 × PM) (G : PM → Nat → Int32 → Int32 → Int32 → Int32 → Prop) : Cal := (292, [15, 16, 0, 0, 0, 0], 1, false, fun as p => (zI (F p (ar as 1) (ai as 2) (ai as 3) (ai as 4) (ai as 5)).1, (F p (ar as 1) (ai as 2) (ai as 3) (ai as 4) (ai as 5)).2), fun as p => zsw (tc2 as [(112, 1), (17, 0), (0, 0), (0, 0), (0, 0), (0, 0)]) False (G p (ar as 1) (ai as 2) (ai as 3) (ai as 4) (ai as 5)))
set_option maxRecDepth 100000 in
theorem okr292 (F : PM → Nat → Int32 → Int32 → Int32 → Int32 → Int32 × PM) (G : PM → Nat → Int32 → Int32 → Int32 → Int32 → Prop) (h : ∀ (p : PM) (v1 : Nat) (v2 : Int32) (v3 : Int32) (v4 : Int32) (v5 : Int32), Gr 2 p → G p v1 v2 v3 v4 v5 → ZJ 2 292 0 [zR 12 1, zR 13 v1, zI v2, zI v3, zI v4, zI v5, zJ] [] p (hwI (F p v1 v2 v3 v4 v5))) : CalOK 2 (CC292 F G) := cal_ok (m := 7) (by unfold mL; rw [mX_292]) (fun as p hg H => h p (ar as 1) (ai as 2) (ai as 3) (ai as 4) (ai as 5) hg H)
theorem ok292 : CalOK 2 (CC292 v12_puts g12_puts) := okr292 v12_puts g12_puts t12_puts
noncomputable def bv12_doAuction (F215 : PM → Int32 → Int32 → Int32 → Int32) (F218 : PM → Int32 → Int32) (F254 : PM → Int32 → Int32 → Int32 → PM) (p : PM) (v1 : Int32) (v2 : Int32) (v3 : Int32) (v4 : Int32) : Int32 × PM :=
  if (F215 p v1 (cn 0) (cn 5)) = 0 then (
    let p11 : PM := pI p 12 1 0 (cn 1)
    if (p11.1 12 1 0) = 0 then (
      let p12 : PM := F254 p11 v1 (((p11.1 12 1 17) + v2) + v4) v3
      ((p12.1 13 12 (v1).toNatClampNeg), p12))
    else (
      ((cn 0), p11)))
  else (
    if (F215 p v2 (cn 1) (cn 20)) = 0 then (
      let p1 : PM := pI p 12 1 0 (cn 2)
      if (p1.1 12 1 0) = 0 then (
        let p2 : PM := F254 p1 v1 (((p1.1 12 1 17) + v2) + v4) v3
        ((p2.1 13 12 (v1).toNatClampNeg), p2))
      else (
        ((cn 0), p1)))
    else (
      if (F215 p v3 (cn 0) v2) = 0 then (
        let p3 : PM := pI p 12 1 0 (cn 2)
        if (p3.1 12 1 0) = 0 then (
          let p4 : PM := F254 p3 v1 (((p3.1 12 1 17) + v2) + v4) v3
          ((p4.1 13 12 (v1).toNatClampNeg), p4))
        else (
          ((cn 0), p3)))
      else (
        if (F215 p v4 (cn 0) (cn 9)) = 0 then (
          let p9 : PM := pI p 12 1 0 (cn 2)
          if (p9.1 12 1 0) = 0 then (
            let p10 : PM := F254 p9 v1 (((p9.1 12 1 17) + v2) + v4) v3
            ((p10.1 13 12 (v1).toNatClampNeg), p10))
          else (
            ((cn 0), p9)))
        else (
          if (F218 p v1) = 0 then (
            let p7 : PM := pI p 12 1 0 (cn 3)
            if (p7.1 12 1 0) = 0 then (
              let p8 : PM := F254 p7 v1 (((p7.1 12 1 17) + v2) + v4) v3
              ((p8.1 13 12 (v1).toNatClampNeg), p8))
            else (
              ((cn 0), p7)))
          else (
            let p5 : PM := pI p 12 1 0 (cn 0)
            if (p5.1 12 1 0) = 0 then (
              let p6 : PM := F254 p5 v1 (((p5.1 12 1 17) + v2) + v4) v3
              ((p6.1 13 12 (v1).toNatClampNeg), p6))
            else (
              ((cn 0), p5)))))))
noncomputable def v12_doAuction (p : PM) (v1 : Int32) (v2 : Int32) (v3 : Int32) (v4 : Int32) : Int32 × PM := bv12_doAuction v12_in v12_isOpen v12_beginsAuction p v1 v2 v3 v4
noncomputable def bg12_doAuction (F215 : PM → Int32 → Int32 → Int32 → Int32) (G215 : PM → Int32 → Int32 → Int32 → Prop) (F218 : PM → Int32 → Int32) (G218 : PM → Int32 → Prop) (F254 : PM → Int32 → Int32 → Int32 → PM) (G254 : PM → Int32 → Int32 → Int32 → Prop) (p : PM) (v1 : Int32) (v2 : Int32) (v3 : Int32) (v4 : Int32) : Prop :=
  (G215 p v1 (cn 0) (cn 5)) ∧ (
  if (F215 p v1 (cn 0) (cn 5)) = 0 then (
    let p11 : PM := pI p 12 1 0 (cn 1)
    if (p11.1 12 1 0) = 0 then (
      (G254 p11 v1 (((p11.1 12 1 17) + v2) + v4) v3) ∧ (
      let p12 : PM := F254 p11 v1 (((p11.1 12 1 17) + v2) + v4) v3
      (inb v1 6) ∧ (
      True)))
    else (
      True))
  else (
    (G215 p v2 (cn 1) (cn 20)) ∧ (
    if (F215 p v2 (cn 1) (cn 20)) = 0 then (
      let p1 : PM := pI p 12 1 0 (cn 2)
      if (p1.1 12 1 0) = 0 then (
        (G254 p1 v1 (((p1.1 12 1 17) + v2) + v4) v3) ∧ (
        let p2 : PM := F254 p1 v1 (((p1.1 12 1 17) + v2) + v4) v3
        (inb v1 6) ∧ (
        True)))
      else (
        True))
    else (
      (G215 p v3 (cn 0) v2) ∧ (
      if (F215 p v3 (cn 0) v2) = 0 then (
        let p3 : PM := pI p 12 1 0 (cn 2)
        if (p3.1 12 1 0) = 0 then (
          (G254 p3 v1 (((p3.1 12 1 17) + v2) + v4) v3) ∧ (
          let p4 : PM := F254 p3 v1 (((p3.1 12 1 17) + v2) + v4) v3
          (inb v1 6) ∧ (
          True)))
        else (
          True))
      else (
        (G215 p v4 (cn 0) (cn 9)) ∧ (
        if (F215 p v4 (cn 0) (cn 9)) = 0 then (
          let p9 : PM := pI p 12 1 0 (cn 2)
          if (p9.1 12 1 0) = 0 then (
            (G254 p9 v1 (((p9.1 12 1 17) + v2) + v4) v3) ∧ (
            let p10 : PM := F254 p9 v1 (((p9.1 12 1 17) + v2) + v4) v3
            (inb v1 6) ∧ (
            True)))
          else (
            True))
        else (
          (G218 p v1) ∧ (
          if (F218 p v1) = 0 then (
            let p7 : PM := pI p 12 1 0 (cn 3)
            if (p7.1 12 1 0) = 0 then (
              (G254 p7 v1 (((p7.1 12 1 17) + v2) + v4) v3) ∧ (
              let p8 : PM := F254 p7 v1 (((p7.1 12 1 17) + v2) + v4) v3
              (inb v1 6) ∧ (
              True)))
            else (
              True))
          else (
            let p5 : PM := pI p 12 1 0 (cn 0)
            if (p5.1 12 1 0) = 0 then (
              (G254 p5 v1 (((p5.1 12 1 17) + v2) + v4) v3) ∧ (
              let p6 : PM := F254 p5 v1 (((p5.1 12 1 17) + v2) + v4) v3
              (inb v1 6) ∧ (
              True)))
            else (
              True)))))))))))
noncomputable def g12_doAuction (p : PM) (v1 : Int32) (v2 : Int32) (v3 : Int32) (v4 : Int32) : Prop := bg12_doAuction v12_in g12_in v12_isOpen g12_isOpen v12_beginsAuction g12_beginsAuction p v1 v2 v3 v4
def R293 : List Row := [(0, .aload_n 0, 1, 0, (0, 0, 0, 0, 0, 0)), (1, .iload_n 1, 1, 0, (0, 0, 0, 0, 0, 0)), (2, .iconst 0, 1, 0, (0, 0, 0, 0, 0, 0)), (3, .iconst 5, 1, 0, (0, 0, 0, 0, 0, 5)), (4, .invokestatic 209, 3, 0, (0, 3, 0, 0, 0, 0)), (7, .ifCond .ne 7, 3, 0, (0, 0, 0, 0, 0, 0)), (10, .iconst 1, 1, 0, (0, 0, 0, 0, 0, 1)), (11, .goto 50, 3, 0, (0, 0, 0, 0, 0, 0)), (14, .iload_n 2, 1, 0, (0, 0, 0, 0, 0, 0)), (15, .iconst 1, 1, 0, (0, 0, 0, 0, 0, 1)), (16, .bipush 20, 2, 0, (0, 0, 0, 0, 0, 20)), (18, .invokestatic 209, 3, 0, (0, 3, 0, 0, 0, 0)), (21, .ifCond .eq 23, 3, 0, (0, 0, 0, 0, 0, 0)), (24, .iload_n 3, 1, 0, (0, 0, 0, 0, 0, 0)), (25, .iconst 0, 1, 0, (0, 0, 0, 0, 0, 0)), (26, .iload_n 2, 1, 0, (0, 0, 0, 0, 0, 0)), (27, .invokestatic 209, 3, 0, (0, 3, 0, 0, 0, 0)), (30, .ifCond .eq 14, 3, 0, (0, 0, 0, 0, 0, 0)), (33, .iload 4, 2, 0, (0, 0, 0, 0, 0, 0)), (35, .iconst 0, 1, 0, (0, 0, 0, 0, 0, 0)), (36, .bipush 9, 2, 0, (0, 0, 0, 0, 0, 9)), (38, .invokestatic 209, 3, 0, (0, 3, 0, 0, 0, 0)), (41, .ifCond .ne 7, 3, 0, (0, 0, 0, 0, 0, 0)), (44, .iconst 2, 1, 0, (0, 0, 0, 0, 0, 2)), (45, .goto 16, 3, 0, (0, 0, 0, 0, 0, 0)), (48, .aload_n 0, 1, 0, (0, 0, 0, 0, 0, 0)), (49, .iload_n 1, 1, 0, (0, 0, 0, 0, 0, 0)), (50, .invokevirtual 328, 3, 0, (2, 2, 0, 0, 1, 0)), (53, .ifCond .ne 7, 3, 0, (0, 0, 0, 0, 0, 0)), (56, .iconst 3, 1, 0, (0, 0, 0, 0, 0, 3)), (57, .goto 4, 3, 0, (0, 0, 0, 0, 0, 0)), (60, .iconst 0, 1, 0, (0, 0, 0, 0, 0, 0)), (61, .putfield 180, 3, 0, (12, 0, 0, 1, 0, 0)), (64, .aload_n 0, 1, 0, (0, 0, 0, 0, 0, 0)), (65, .getfield 180, 3, 0, (12, 0, 0, 1, 0, 0)), (68, .ifCond .eq 5, 3, 0, (0, 0, 0, 0, 0, 0)), (71, .iconst 0, 1, 0, (0, 0, 0, 0, 0, 0)), (72, .ireturn, 1, 0, (0, 0, 0, 0, 0, 0)), (73, .aload_n 0, 1, 0, (0, 0, 0, 0, 0, 0)), (74, .iload_n 1, 1, 0, (0, 0, 0, 0, 0, 0)), (75, .aload_n 0, 1, 0, (0, 0, 0, 0, 0, 0)), (76, .getfield 194, 3, 0, (12, 17, 0, 1, 0, 0)), (79, .iload_n 2, 1, 0, (0, 0, 0, 0, 0, 0)), (80, .iadd, 1, 0, (0, 0, 0, 0, 0, 0)), (81, .iload 4, 2, 0, (0, 0, 0, 0, 0, 0)), (83, .iadd, 1, 0, (0, 0, 0, 0, 0, 0)), (84, .iload_n 3, 1, 0, (0, 0, 0, 0, 0, 0)), (85, .invokevirtual 309, 3, 0, (1, 4, 0, 0, 1, 0)), (88, .aload_n 0, 1, 0, (0, 0, 0, 0, 0, 0)), (89, .getfield 51, 3, 0, (12, 14, 16, 2, 12, 0)), (92, .iload_n 1, 1, 0, (0, 0, 0, 0, 0, 0)), (93, .iaload, 1, 0, (13, 6, 0, 0, 0, 0)), (94, .ireturn, 1, 0, (0, 0, 0, 0, 0, 0))]
set_option maxRecDepth 100000 in
theorem rk293 : R293.all (rok 2 293 1 [(215, [0, 0, 0]), (254, [15, 0, 0, 0]), (218, [15, 0])]) = true := by decide +kernel
set_option maxRecDepth 100000 in
theorem tab293 {F215 : PM → Int32 → Int32 → Int32 → Int32} {G215 : PM → Int32 → Int32 → Int32 → Prop} {F254 : PM → Int32 → Int32 → Int32 → PM} {G254 : PM → Int32 → Int32 → Int32 → Prop} {F218 : PM → Int32 → Int32} {G218 : PM → Int32 → Prop} : TabOK 2 293 1 [CC215 F215 G215, CC254 F254 G254, CC218 F218 G218] R293 := tab_ok (K := K293) rfl rfl (fun h => d293 h) rk293 (by decide +kernel)
set_option maxRecDepth 100000 in
theorem pc293 : cutpc [] R293 = true := by decide +kernel
set_option maxRecDepth 100000 in
theorem r12_doAuction (F215 : PM → Int32 → Int32 → Int32 → Int32) (G215 : PM → Int32 → Int32 → Int32 → Prop) (o215 : CalOK 2 (CC215 F215 G215)) (F254 : PM → Int32 → Int32 → Int32 → PM) (G254 : PM → Int32 → Int32 → Int32 → Prop) (o254 : CalOK 2 (CC254 F254 G254)) (F218 : PM → Int32 → Int32) (G218 : PM → Int32 → Prop) (o218 : CalOK 2 (CC218 F218 G218)) : ∀ (p : PM) (v1 : Int32) (v2 : Int32) (v3 : Int32) (v4 : Int32), Gr 2 p → bg12_doAuction F215 G215 F218 G218 F254 G254 p v1 v2 v3 v4 → ZJ 2 293 0 [zR 12 1, zI v1, zI v2, zI v3, zI v4] [] p (hwI (bv12_doAuction F215 F218 F254 p v1 v2 v3 v4)) := by
  intro p v1 v2 v3 v4  hg H
  exact rwI (n := 3000) (q := 0) (la := [zR 12 1, zI v1, zI v2, zI v3, zI v4]) (sa := []) (ks := []) (gs := []) (fcons o215 (fcons o254 (fcons o218 (fnil)))) tab293 pc293 trivial hg H
theorem t12_doAuction : ∀ (p : PM) (v1 : Int32) (v2 : Int32) (v3 : Int32) (v4 : Int32), Gr 2 p → g12_doAuction p v1 v2 v3 v4 → ZJ 2 293 0 [zR 12 1, zI v1, zI v2, zI v3, zI v4] [] p (hwI (v12_doAuction p v1 v2 v3 v4)) := r12_doAuction v12_in g12_in ok215 v12_beginsAuction g12_beginsAuction ok254 v12_isOpen g12_isOpen ok218
def CC293 (F : PM → Int32 → Int32 → Int32 → Int32 → Int32 × PM) (G : PM → Int32 → Int32 → Int32 → Int32 → Prop) : Cal := (293, [15, 0, 0, 0, 0], 1, false, fun as p => (zI (F p (ai as 1) (ai as 2) (ai as 3) (ai as 4)).1, (F p (ai as 1) (ai as 2) (ai as 3) (ai as 4)).2), fun as p => zsw (tc2 as [(112, 1), (0, 0), (0, 0), (0, 0), (0, 0)]) False (G p (ai as 1) (ai as 2) (ai as 3) (ai as 4)))
set_option maxRecDepth 100000 in
theorem okr293 (F : PM → Int32 → Int32 → Int32 → Int32 → Int32 × PM) (G : PM → Int32 → Int32 → Int32 → Int32 → Prop) (h : ∀ (p : PM) (v1 : Int32) (v2 : Int32) (v3 : Int32) (v4 : Int32), Gr 2 p → G p v1 v2 v3 v4 → ZJ 2 293 0 [zR 12 1, zI v1, zI v2, zI v3, zI v4] [] p (hwI (F p v1 v2 v3 v4))) : CalOK 2 (CC293 F G) := cal_ok (m := 5) (by unfold mL; rw [mX_293]) (fun as p hg H => h p (ai as 1) (ai as 2) (ai as 3) (ai as 4) hg H)
theorem ok293 : CalOK 2 (CC293 v12_doAuction g12_doAuction) := okr293 v12_doAuction g12_doAuction t12_doAuction
noncomputable def bv12_doPass (F215 : PM → Int32 → Int32 → Int32 → Int32) (F274 : PM → Int32 → PM) (p : PM) (v1 : Int32) : Int32 × PM :=
  if (F215 p v1 (cn 1) (cn 20)) = 0 then (
    let p1 : PM := pI p 12 1 0 (cn 1)
    if (p1.1 12 1 0) = 0 then (
      let p2 : PM := F274 p1 v1
      if (p2.1 12 1 0) = 0 then (
        ((p2.1 12 1 17), p2))
      else (
        ((cn 0), p2)))
    else (
      if (p1.1 12 1 0) = 0 then (
        ((p1.1 12 1 17), p1))
      else (
        ((cn 0), p1))))
  else (
    let p3 : PM := pI p 12 1 0 (cn 0)
    if (p3.1 12 1 0) = 0 then (
      let p4 : PM := F274 p3 v1
      if (p4.1 12 1 0) = 0 then (
        ((p4.1 12 1 17), p4))
      else (
        ((cn 0), p4)))
    else (
      if (p3.1 12 1 0) = 0 then (
        ((p3.1 12 1 17), p3))
      else (
        ((cn 0), p3))))
noncomputable def v12_doPass (p : PM) (v1 : Int32) : Int32 × PM := bv12_doPass v12_in v12_passes p v1
noncomputable def bg12_doPass (F215 : PM → Int32 → Int32 → Int32 → Int32) (G215 : PM → Int32 → Int32 → Int32 → Prop) (F274 : PM → Int32 → PM) (G274 : PM → Int32 → Prop) (p : PM) (v1 : Int32) : Prop :=
  (G215 p v1 (cn 1) (cn 20)) ∧ (
  if (F215 p v1 (cn 1) (cn 20)) = 0 then (
    let p1 : PM := pI p 12 1 0 (cn 1)
    if (p1.1 12 1 0) = 0 then (
      (G274 p1 v1) ∧ (
      let p2 : PM := F274 p1 v1
      if (p2.1 12 1 0) = 0 then (
        True)
      else (
        True)))
    else (
      if (p1.1 12 1 0) = 0 then (
        True)
      else (
        True)))
  else (
    let p3 : PM := pI p 12 1 0 (cn 0)
    if (p3.1 12 1 0) = 0 then (
      (G274 p3 v1) ∧ (
      let p4 : PM := F274 p3 v1
      if (p4.1 12 1 0) = 0 then (
        True)
      else (
        True)))
    else (
      if (p3.1 12 1 0) = 0 then (
        True)
      else (
        True))))
noncomputable def g12_doPass (p : PM) (v1 : Int32) : Prop := bg12_doPass v12_in g12_in v12_passes g12_passes p v1
def R294 : List Row := [(0, .aload_n 0, 1, 0, (0, 0, 0, 0, 0, 0)), (1, .iload_n 1, 1, 0, (0, 0, 0, 0, 0, 0)), (2, .iconst 1, 1, 0, (0, 0, 0, 0, 0, 1)), (3, .bipush 20, 2, 0, (0, 0, 0, 0, 0, 20)), (5, .invokestatic 209, 3, 0, (0, 3, 0, 0, 0, 0)), (8, .ifCond .eq 7, 3, 0, (0, 0, 0, 0, 0, 0)), (11, .iconst 0, 1, 0, (0, 0, 0, 0, 0, 0)), (12, .goto 4, 3, 0, (0, 0, 0, 0, 0, 0)), (15, .iconst 1, 1, 0, (0, 0, 0, 0, 0, 1)), (16, .putfield 180, 3, 0, (12, 0, 0, 1, 0, 0)), (19, .aload_n 0, 1, 0, (0, 0, 0, 0, 0, 0)), (20, .getfield 180, 3, 0, (12, 0, 0, 1, 0, 0)), (23, .ifCond .ne 8, 3, 0, (0, 0, 0, 0, 0, 0)), (26, .aload_n 0, 1, 0, (0, 0, 0, 0, 0, 0)), (27, .iload_n 1, 1, 0, (0, 0, 0, 0, 0, 0)), (28, .invokevirtual 452, 3, 0, (1, 2, 0, 0, 1, 0)), (31, .aload_n 0, 1, 0, (0, 0, 0, 0, 0, 0)), (32, .getfield 180, 3, 0, (12, 0, 0, 1, 0, 0)), (35, .ifCond .ne 10, 3, 0, (0, 0, 0, 0, 0, 0)), (38, .aload_n 0, 1, 0, (0, 0, 0, 0, 0, 0)), (39, .getfield 194, 3, 0, (12, 17, 0, 1, 0, 0)), (42, .goto 4, 3, 0, (0, 0, 0, 0, 0, 0)), (45, .iconst 0, 1, 0, (0, 0, 0, 0, 0, 0)), (46, .ireturn, 1, 0, (0, 0, 0, 0, 0, 0))]
set_option maxRecDepth 100000 in
theorem rk294 : R294.all (rok 2 294 1 [(215, [0, 0, 0]), (274, [15, 0])]) = true := by decide +kernel
set_option maxRecDepth 100000 in
theorem tab294 {F215 : PM → Int32 → Int32 → Int32 → Int32} {G215 : PM → Int32 → Int32 → Int32 → Prop} {F274 : PM → Int32 → PM} {G274 : PM → Int32 → Prop} : TabOK 2 294 1 [CC215 F215 G215, CC274 F274 G274] R294 := tab_ok (K := K294) rfl rfl (fun h => d294 h) rk294 (by decide +kernel)
set_option maxRecDepth 100000 in
theorem pc294 : cutpc [] R294 = true := by decide +kernel
set_option maxRecDepth 100000 in
theorem r12_doPass (F215 : PM → Int32 → Int32 → Int32 → Int32) (G215 : PM → Int32 → Int32 → Int32 → Prop) (o215 : CalOK 2 (CC215 F215 G215)) (F274 : PM → Int32 → PM) (G274 : PM → Int32 → Prop) (o274 : CalOK 2 (CC274 F274 G274)) : ∀ (p : PM) (v1 : Int32), Gr 2 p → bg12_doPass F215 G215 F274 G274 p v1 → ZJ 2 294 0 [zR 12 1, zI v1] [] p (hwI (bv12_doPass F215 F274 p v1)) := by
  intro p v1  hg H
  exact rwI (n := 3000) (q := 0) (la := [zR 12 1, zI v1]) (sa := []) (ks := []) (gs := []) (fcons o215 (fcons o274 (fnil))) tab294 pc294 trivial hg H
theorem t12_doPass : ∀ (p : PM) (v1 : Int32), Gr 2 p → g12_doPass p v1 → ZJ 2 294 0 [zR 12 1, zI v1] [] p (hwI (v12_doPass p v1)) := r12_doPass v12_in g12_in ok215 v12_passes g12_passes ok274
def CC294 (F : PM → Int32 → Int32 × PM) (G : PM → Int32 → Prop) : Cal := (294, [15, 0], 1, false, fun as p => (zI (F p (ai as 1)).1, (F p (ai as 1)).2), fun as p => zsw (tc2 as [(112, 1), (0, 0)]) False (G p (ai as 1)))
set_option maxRecDepth 100000 in
theorem okr294 (F : PM → Int32 → Int32 × PM) (G : PM → Int32 → Prop) (h : ∀ (p : PM) (v1 : Int32), Gr 2 p → G p v1 → ZJ 2 294 0 [zR 12 1, zI v1] [] p (hwI (F p v1))) : CalOK 2 (CC294 F G) := cal_ok (m := 2) (by unfold mL; rw [mX_294]) (fun as p hg H => h p (ai as 1) hg H)
theorem ok294 : CalOK 2 (CC294 v12_doPass g12_doPass) := okr294 v12_doPass g12_doPass t12_doPass
noncomputable def bv12_doEndDay_101 (kv101 : PM → Int32 → Int32 → Int32 → Int32 × PM) (p : PM) (v1 : Int32) (v2 : Int32) (v3 : Int32) : Int32 × PM :=
  if v3 < (cn 6) then (
    if v1 = 0 then (
      if v1 = 0 then (
        let p3 : PM := pI p 12 1 18 ((p.1 12 1 18) + (cn 0))
        (v2, p3))
      else (
        let p4 : PM := pI p 12 1 18 ((p.1 12 1 18) + (cn 1))
        (v2, p4)))
    else (
      let p5 : PM := pI p 13 11 (v3).toNatClampNeg (p.1 13 10 (v3).toNatClampNeg)
      kv101 p5 v1 v2 (v3 + (cn 1))))
  else (
    if v1 = 0 then (
      let p1 : PM := pI p 12 1 18 ((p.1 12 1 18) + (cn 0))
      (v2, p1))
    else (
      let p2 : PM := pI p 12 1 18 ((p.1 12 1 18) + (cn 1))
      (v2, p2)))
noncomputable def v12_doEndDay_101 (n : Nat) : PM → Int32 → Int32 → Int32 → Int32 × PM := Nat.rec (motive := fun _ => PM → Int32 → Int32 → Int32 → Int32 × PM) (fun p _ _ _ => (0, p)) (fun _ ih => bv12_doEndDay_101 ih) n
theorem ev12_doEndDay_101 (n : Nat) (p : PM) (v1 : Int32) (v2 : Int32) (v3 : Int32) : v12_doEndDay_101 (n + 1) p v1 v2 v3 = bv12_doEndDay_101 (v12_doEndDay_101 n) p v1 v2 v3 := rfl
noncomputable def bg12_doEndDay_101 (kg101 : PM → Int32 → Int32 → Int32 → Prop) (p : PM) (v1 : Int32) (v2 : Int32) (v3 : Int32) : Prop :=
  if v3 < (cn 6) then (
    if v1 = 0 then (
      if v1 = 0 then (
        let p3 : PM := pI p 12 1 18 ((p.1 12 1 18) + (cn 0))
        True)
      else (
        let p4 : PM := pI p 12 1 18 ((p.1 12 1 18) + (cn 1))
        True))
    else (
      (inb v3 6) ∧ (
      (inb v3 6) ∧ (
      let p5 : PM := pI p 13 11 (v3).toNatClampNeg (p.1 13 10 (v3).toNatClampNeg)
      kg101 p5 v1 v2 (v3 + (cn 1))))))
  else (
    if v1 = 0 then (
      let p1 : PM := pI p 12 1 18 ((p.1 12 1 18) + (cn 0))
      True)
    else (
      let p2 : PM := pI p 12 1 18 ((p.1 12 1 18) + (cn 1))
      True))
noncomputable def g12_doEndDay_101 (n : Nat) : PM → Int32 → Int32 → Int32 → Prop := Nat.rec (motive := fun _ => PM → Int32 → Int32 → Int32 → Prop) (fun _ _ _ _ => False) (fun _ ih => bg12_doEndDay_101 ih) n
theorem eg12_doEndDay_101 (n : Nat) (p : PM) (v1 : Int32) (v2 : Int32) (v3 : Int32) : g12_doEndDay_101 (n + 1) p v1 v2 v3 = bg12_doEndDay_101 (g12_doEndDay_101 n) p v1 v2 v3 := rfl
noncomputable def bv12_doEndDay_51 (kv51 : PM → Int32 → Int32 → Int32 → Int32 × PM) (kv101 : PM → Int32 → Int32 → Int32 → Int32 × PM) (p : PM) (v1 : Int32) (v2 : Int32) (v3 : Int32) : Int32 × PM :=
  if v3 < (cn 44) then (
    if v1 = 0 then (
      kv101 p v1 v2 (cn 0))
    else (
      if (p.1 15 3 (v3).toNatClampNeg) = 0 then (
        kv51 p v1 v2 (v3 + (cn 1)))
      else (
        if (p.1 12 1 18) < (p.1 13 20 (v3).toNatClampNeg) then (
          kv51 p v1 v2 (v3 + (cn 1)))
        else (
          let p1 : PM := pI p 15 3 (v3).toNatClampNeg (cn 0)
          kv51 p1 v1 (v2 + (cn 1)) (v3 + (cn 1))))))
  else (
    kv101 p v1 v2 (cn 0))
noncomputable def v12_doEndDay_51 (n : Nat) : PM → Int32 → Int32 → Int32 → Int32 × PM := Nat.rec (motive := fun _ => PM → Int32 → Int32 → Int32 → Int32 × PM) (fun p _ _ _ => (0, p)) (fun _ ih => bv12_doEndDay_51 ih (v12_doEndDay_101 FU)) n
theorem ev12_doEndDay_51 (n : Nat) (p : PM) (v1 : Int32) (v2 : Int32) (v3 : Int32) : v12_doEndDay_51 (n + 1) p v1 v2 v3 = bv12_doEndDay_51 (v12_doEndDay_51 n) (v12_doEndDay_101 FU) p v1 v2 v3 := rfl
noncomputable def bg12_doEndDay_51 (kg51 : PM → Int32 → Int32 → Int32 → Prop) (kg101 : PM → Int32 → Int32 → Int32 → Prop) (p : PM) (v1 : Int32) (v2 : Int32) (v3 : Int32) : Prop :=
  if v3 < (cn 44) then (
    if v1 = 0 then (
      kg101 p v1 v2 (cn 0))
    else (
      (inb v3 44) ∧ (
      if (p.1 15 3 (v3).toNatClampNeg) = 0 then (
        kg51 p v1 v2 (v3 + (cn 1)))
      else (
        (inb v3 44) ∧ (
        if (p.1 12 1 18) < (p.1 13 20 (v3).toNatClampNeg) then (
          kg51 p v1 v2 (v3 + (cn 1)))
        else (
          (inb v3 44) ∧ (
          let p1 : PM := pI p 15 3 (v3).toNatClampNeg (cn 0)
          kg51 p1 v1 (v2 + (cn 1)) (v3 + (cn 1)))))))))
  else (
    kg101 p v1 v2 (cn 0))
noncomputable def g12_doEndDay_51 (n : Nat) : PM → Int32 → Int32 → Int32 → Prop := Nat.rec (motive := fun _ => PM → Int32 → Int32 → Int32 → Prop) (fun _ _ _ _ => False) (fun _ ih => bg12_doEndDay_51 ih (g12_doEndDay_101 FU)) n
theorem eg12_doEndDay_51 (n : Nat) (p : PM) (v1 : Int32) (v2 : Int32) (v3 : Int32) : g12_doEndDay_51 (n + 1) p v1 v2 v3 = bg12_doEndDay_51 (g12_doEndDay_51 n) (g12_doEndDay_101 FU) p v1 v2 v3 := rfl
noncomputable def bv12_doEndDay_4 (F218 : PM → Int32 → Int32) (kv4 : PM → Int32 → Int32 → Int32 × PM) (kv51 : PM → Int32 → Int32 → Int32 → Int32 × PM) (p : PM) (v1 : Int32) (v2 : Int32) : Int32 × PM :=
  if v2 < (cn 6) then (
    if v1 = 0 then (
      kv4 p (cn 0) (v2 + (cn 1)))
    else (
      if (F218 p v2) = 0 then (
        kv4 p (cn 0) (v2 + (cn 1)))
      else (
        kv4 p (cn 1) (v2 + (cn 1)))))
  else (
    if v1 = 0 then (
      let p1 : PM := pI p 12 1 0 (cn 1)
      kv51 p1 v1 (cn 0) (cn 0))
    else (
      let p2 : PM := pI p 12 1 0 (cn 0)
      kv51 p2 v1 (cn 0) (cn 0)))
noncomputable def v12_doEndDay_4 (n : Nat) : PM → Int32 → Int32 → Int32 × PM := Nat.rec (motive := fun _ => PM → Int32 → Int32 → Int32 × PM) (fun p _ _ => (0, p)) (fun _ ih => bv12_doEndDay_4 v12_isOpen ih (v12_doEndDay_51 FU)) n
theorem ev12_doEndDay_4 (n : Nat) (p : PM) (v1 : Int32) (v2 : Int32) : v12_doEndDay_4 (n + 1) p v1 v2 = bv12_doEndDay_4 v12_isOpen (v12_doEndDay_4 n) (v12_doEndDay_51 FU) p v1 v2 := rfl
noncomputable def bg12_doEndDay_4 (F218 : PM → Int32 → Int32) (G218 : PM → Int32 → Prop) (kg4 : PM → Int32 → Int32 → Prop) (kg51 : PM → Int32 → Int32 → Int32 → Prop) (p : PM) (v1 : Int32) (v2 : Int32) : Prop :=
  if v2 < (cn 6) then (
    if v1 = 0 then (
      kg4 p (cn 0) (v2 + (cn 1)))
    else (
      (G218 p v2) ∧ (
      if (F218 p v2) = 0 then (
        kg4 p (cn 0) (v2 + (cn 1)))
      else (
        kg4 p (cn 1) (v2 + (cn 1))))))
  else (
    if v1 = 0 then (
      let p1 : PM := pI p 12 1 0 (cn 1)
      kg51 p1 v1 (cn 0) (cn 0))
    else (
      let p2 : PM := pI p 12 1 0 (cn 0)
      kg51 p2 v1 (cn 0) (cn 0)))
noncomputable def g12_doEndDay_4 (n : Nat) : PM → Int32 → Int32 → Prop := Nat.rec (motive := fun _ => PM → Int32 → Int32 → Prop) (fun _ _ _ => False) (fun _ ih => bg12_doEndDay_4 v12_isOpen g12_isOpen ih (g12_doEndDay_51 FU)) n
theorem eg12_doEndDay_4 (n : Nat) (p : PM) (v1 : Int32) (v2 : Int32) : g12_doEndDay_4 (n + 1) p v1 v2 = bg12_doEndDay_4 v12_isOpen g12_isOpen (g12_doEndDay_4 n) (g12_doEndDay_51 FU) p v1 v2 := rfl
noncomputable def bv12_doEndDay (kv4 : PM → Int32 → Int32 → Int32 × PM) (p : PM) : Int32 × PM :=
  kv4 p (cn 1) (cn 0)
noncomputable def v12_doEndDay (p : PM) : Int32 × PM := bv12_doEndDay (v12_doEndDay_4 FU) p
noncomputable def bg12_doEndDay (kg4 : PM → Int32 → Int32 → Prop) (p : PM) : Prop :=
  kg4 p (cn 1) (cn 0)
noncomputable def g12_doEndDay (p : PM) : Prop := bg12_doEndDay (g12_doEndDay_4 FU) p
def R295 : List Row := [(0, .iconst 1, 1, 0, (0, 0, 0, 0, 0, 1)), (1, .istore_n 1, 1, 0, (0, 0, 0, 0, 0, 0)), (2, .iconst 0, 1, 0, (0, 0, 0, 0, 0, 0)), (3, .istore_n 2, 1, 0, (0, 0, 0, 0, 0, 0)), (4, .iload_n 2, 1, 1, (0, 0, 0, 0, 0, 0)), (5, .bipush 6, 2, 0, (0, 0, 0, 0, 0, 6)), (7, .if_icmp .ge 27, 3, 0, (0, 0, 0, 0, 0, 0)), (10, .iload_n 1, 1, 0, (0, 0, 0, 0, 0, 0)), (11, .ifCond .eq 15, 3, 0, (0, 0, 0, 0, 0, 0)), (14, .aload_n 0, 1, 0, (0, 0, 0, 0, 0, 0)), (15, .iload_n 2, 1, 0, (0, 0, 0, 0, 0, 0)), (16, .invokevirtual 328, 3, 0, (0, 2, 0, 0, 1, 0)), (19, .ifCond .eq 7, 3, 0, (0, 0, 0, 0, 0, 0)), (22, .iconst 1, 1, 0, (0, 0, 0, 0, 0, 1)), (23, .goto 4, 3, 0, (0, 0, 0, 0, 0, 0)), (26, .iconst 0, 1, 0, (0, 0, 0, 0, 0, 0)), (27, .istore_n 1, 1, 0, (0, 0, 0, 0, 0, 0)), (28, .iinc 2 1, 3, 0, (0, 0, 0, 0, 0, 1)), (31, .goto (-27), 3, 0, (0, 0, 0, 0, 0, 0)), (34, .aload_n 0, 1, 0, (0, 0, 0, 0, 0, 0)), (35, .iload_n 1, 1, 0, (0, 0, 0, 0, 0, 0)), (36, .ifCond .eq 7, 3, 0, (0, 0, 0, 0, 0, 0)), (39, .iconst 0, 1, 0, (0, 0, 0, 0, 0, 0)), (40, .goto 4, 3, 0, (0, 0, 0, 0, 0, 0)), (43, .iconst 1, 1, 0, (0, 0, 0, 0, 0, 1)), (44, .putfield 180, 3, 0, (12, 0, 0, 1, 0, 0)), (47, .iconst 0, 1, 0, (0, 0, 0, 0, 0, 0)), (48, .istore_n 2, 1, 0, (0, 0, 0, 0, 0, 0)), (49, .iconst 0, 1, 0, (0, 0, 0, 0, 0, 0)), (50, .istore_n 3, 1, 0, (0, 0, 0, 0, 0, 0)), (51, .iload_n 3, 1, 2, (0, 0, 0, 0, 0, 0)), (52, .bipush 44, 2, 0, (0, 0, 0, 0, 0, 44)), (54, .if_icmp .ge 45, 3, 0, (0, 0, 0, 0, 0, 0)), (57, .iload_n 1, 1, 0, (0, 0, 0, 0, 0, 0)), (58, .ifCond .eq 41, 3, 0, (0, 0, 0, 0, 0, 0)), (61, .aload_n 0, 1, 0, (0, 0, 0, 0, 0, 0)), (62, .getfield 60, 3, 0, (12, 19, 18, 2, 3, 0)), (65, .iload_n 3, 1, 0, (0, 0, 0, 0, 0, 0)), (66, .baload, 1, 0, (15, 44, 0, 0, 0, 0)), (67, .ifCond .eq 26, 3, 0, (0, 0, 0, 0, 0, 0)), (70, .aload_n 0, 1, 0, (0, 0, 0, 0, 0, 0)), (71, .getfield 87, 3, 0, (12, 28, 16, 2, 20, 0)), (74, .iload_n 3, 1, 0, (0, 0, 0, 0, 0, 0)), (75, .iaload, 1, 0, (13, 44, 0, 0, 0, 0)), (76, .aload_n 0, 1, 0, (0, 0, 0, 0, 0, 0)), (77, .getfield 197, 3, 0, (12, 18, 0, 1, 0, 0)), (80, .if_icmp .gt 13, 3, 0, (0, 0, 0, 0, 0, 0)), (83, .aload_n 0, 1, 0, (0, 0, 0, 0, 0, 0)), (84, .getfield 60, 3, 0, (12, 19, 18, 2, 3, 0)), (87, .iload_n 3, 1, 0, (0, 0, 0, 0, 0, 0)), (88, .iconst 0, 1, 0, (0, 0, 0, 0, 0, 0)), (89, .bastore, 1, 0, (15, 44, 0, 0, 0, 0)), (90, .iinc 2 1, 3, 0, (0, 0, 0, 0, 0, 1)), (93, .iinc 3 1, 3, 0, (0, 0, 0, 0, 0, 1)), (96, .goto (-45), 3, 0, (0, 0, 0, 0, 0, 0)), (99, .iconst 0, 1, 0, (0, 0, 0, 0, 0, 0)), (100, .istore_n 3, 1, 0, (0, 0, 0, 0, 0, 0)), (101, .iload_n 3, 1, 3, (0, 0, 0, 0, 0, 0)), (102, .bipush 6, 2, 0, (0, 0, 0, 0, 0, 6)), (104, .if_icmp .ge 25, 3, 0, (0, 0, 0, 0, 0, 0)), (107, .iload_n 1, 1, 0, (0, 0, 0, 0, 0, 0)), (108, .ifCond .eq 21, 3, 0, (0, 0, 0, 0, 0, 0)), (111, .aload_n 0, 1, 0, (0, 0, 0, 0, 0, 0)), (112, .getfield 48, 3, 0, (12, 13, 16, 2, 11, 0)), (115, .iload_n 3, 1, 0, (0, 0, 0, 0, 0, 0)), (116, .aload_n 0, 1, 0, (0, 0, 0, 0, 0, 0)), (117, .getfield 45, 3, 0, (12, 12, 16, 2, 10, 0)), (120, .iload_n 3, 1, 0, (0, 0, 0, 0, 0, 0)), (121, .iaload, 1, 0, (13, 6, 0, 0, 0, 0)), (122, .iastore, 1, 0, (13, 6, 0, 0, 0, 0)), (123, .iinc 3 1, 3, 0, (0, 0, 0, 0, 0, 1)), (126, .goto (-25), 3, 0, (0, 0, 0, 0, 0, 0)), (129, .aload_n 0, 1, 0, (0, 0, 0, 0, 0, 0)), (130, .dup, 1, 0, (0, 0, 0, 0, 0, 0)), (131, .getfield 197, 3, 0, (12, 18, 0, 1, 0, 0)), (134, .iload_n 1, 1, 0, (0, 0, 0, 0, 0, 0)), (135, .ifCond .eq 7, 3, 0, (0, 0, 0, 0, 0, 0)), (138, .iconst 1, 1, 0, (0, 0, 0, 0, 0, 1)), (139, .goto 4, 3, 0, (0, 0, 0, 0, 0, 0)), (142, .iconst 0, 1, 0, (0, 0, 0, 0, 0, 0)), (143, .iadd, 1, 0, (0, 0, 0, 0, 0, 0)), (144, .putfield 197, 3, 0, (12, 18, 0, 1, 0, 0)), (147, .iload_n 2, 1, 0, (0, 0, 0, 0, 0, 0)), (148, .ireturn, 1, 0, (0, 0, 0, 0, 0, 0))]
set_option maxRecDepth 100000 in
theorem rk295 : R295.all (rok 2 295 1 [(218, [15, 0])]) = true := by decide +kernel
set_option maxRecDepth 100000 in
theorem tab295 {F218 : PM → Int32 → Int32} {G218 : PM → Int32 → Prop} : TabOK 2 295 1 [CC218 F218 G218] R295 := tab_ok (K := K295) rfl rfl (fun h => d295 h) rk295 (by decide +kernel)
set_option maxRecDepth 100000 in
theorem pc295 : cutpc [4, 51, 101] R295 = true := by decide +kernel
set_option maxRecDepth 100000 in
theorem r12_doEndDay_101 (F218 : PM → Int32 → Int32) (G218 : PM → Int32 → Prop) (o218 : CalOK 2 (CC218 F218 G218)) (kv101 : PM → Int32 → Int32 → Int32 → Int32 × PM) (kg101 : PM → Int32 → Int32 → Int32 → Prop) (hk101 : ∀ (p : PM) (v1 : Int32) (v2 : Int32) (v3 : Int32), Gr 2 p → kg101 p v1 v2 v3 → ZJ 2 295 101 [zR 12 1, zI v1, zI v2, zI v3] [] p (hwI (kv101 p v1 v2 v3))) : ∀ (p : PM) (v1 : Int32) (v2 : Int32) (v3 : Int32), Gr 2 p → bg12_doEndDay_101 kg101 p v1 v2 v3 → ZJ 2 295 101 [zR 12 1, zI v1, zI v2, zI v3] [] p (hwI (bv12_doEndDay_101 kv101 p v1 v2 v3)) := by
  intro p v1 v2 v3  hg H
  exact rwI (n := 3000) (q := 101) (la := [zR 12 1, zI v1, zI v2, zI v3]) (sa := []) (ks := [fun _ _ s => (0, s), fun _ _ s => (0, s), fun la sa s => kv101 s (ai la 1) (ai la 2) (ai la 3)]) (gs := [fun _ _ _ => False, fun _ _ _ => False, fun la sa s => zsw (tc2 la [(112, 1), (0, 0), (0, 0), (0, 0)] && tc2 sa []) False (kg101 s (ai la 1) (ai la 2) (ai la 3))]) (fcons o218 (fnil)) tab295 pc295 ⟨fun _ _ _ _ H => H.elim, fun _ _ _ _ H => H.elim, fun la sa s hg H => zcut H fun H => hk101 s (ai la 1) (ai la 2) (ai la 3) hg H, trivial⟩ hg H
theorem t12_doEndDay_101 : ∀ (n : Nat), ∀ (p : PM) (v1 : Int32) (v2 : Int32) (v3 : Int32), Gr 2 p → g12_doEndDay_101 n p v1 v2 v3 → ZJ 2 295 101 [zR 12 1, zI v1, zI v2, zI v3] [] p (hwI (v12_doEndDay_101 n p v1 v2 v3)) := by
  intro n
  induction n with
  | zero =>
    intro p v1 v2 v3  hg H
    exact H.elim
  | succ n ih => exact r12_doEndDay_101 v12_isOpen g12_isOpen ok218 (v12_doEndDay_101 n) (g12_doEndDay_101 n) ih
set_option maxRecDepth 100000 in
theorem r12_doEndDay_51 (F218 : PM → Int32 → Int32) (G218 : PM → Int32 → Prop) (o218 : CalOK 2 (CC218 F218 G218)) (kv51 : PM → Int32 → Int32 → Int32 → Int32 × PM) (kg51 : PM → Int32 → Int32 → Int32 → Prop) (hk51 : ∀ (p : PM) (v1 : Int32) (v2 : Int32) (v3 : Int32), Gr 2 p → kg51 p v1 v2 v3 → ZJ 2 295 51 [zR 12 1, zI v1, zI v2, zI v3] [] p (hwI (kv51 p v1 v2 v3))) (kv101 : PM → Int32 → Int32 → Int32 → Int32 × PM) (kg101 : PM → Int32 → Int32 → Int32 → Prop) (hk101 : ∀ (p : PM) (v1 : Int32) (v2 : Int32) (v3 : Int32), Gr 2 p → kg101 p v1 v2 v3 → ZJ 2 295 101 [zR 12 1, zI v1, zI v2, zI v3] [] p (hwI (kv101 p v1 v2 v3))) : ∀ (p : PM) (v1 : Int32) (v2 : Int32) (v3 : Int32), Gr 2 p → bg12_doEndDay_51 kg51 kg101 p v1 v2 v3 → ZJ 2 295 51 [zR 12 1, zI v1, zI v2, zI v3] [] p (hwI (bv12_doEndDay_51 kv51 kv101 p v1 v2 v3)) := by
  intro p v1 v2 v3  hg H
  exact rwI (n := 3000) (q := 51) (la := [zR 12 1, zI v1, zI v2, zI v3]) (sa := []) (ks := [fun _ _ s => (0, s), fun la sa s => kv51 s (ai la 1) (ai la 2) (ai la 3), fun la sa s => kv101 s (ai la 1) (ai la 2) (ai la 3)]) (gs := [fun _ _ _ => False, fun la sa s => zsw (tc2 la [(112, 1), (0, 0), (0, 0), (0, 0)] && tc2 sa []) False (kg51 s (ai la 1) (ai la 2) (ai la 3)), fun la sa s => zsw (tc2 la [(112, 1), (0, 0), (0, 0), (0, 0)] && tc2 sa []) False (kg101 s (ai la 1) (ai la 2) (ai la 3))]) (fcons o218 (fnil)) tab295 pc295 ⟨fun _ _ _ _ H => H.elim, fun la sa s hg H => zcut H fun H => hk51 s (ai la 1) (ai la 2) (ai la 3) hg H, fun la sa s hg H => zcut H fun H => hk101 s (ai la 1) (ai la 2) (ai la 3) hg H, trivial⟩ hg H
theorem t12_doEndDay_51 : ∀ (n : Nat), ∀ (p : PM) (v1 : Int32) (v2 : Int32) (v3 : Int32), Gr 2 p → g12_doEndDay_51 n p v1 v2 v3 → ZJ 2 295 51 [zR 12 1, zI v1, zI v2, zI v3] [] p (hwI (v12_doEndDay_51 n p v1 v2 v3)) := by
  intro n
  induction n with
  | zero =>
    intro p v1 v2 v3  hg H
    exact H.elim
  | succ n ih => exact r12_doEndDay_51 v12_isOpen g12_isOpen ok218 (v12_doEndDay_51 n) (g12_doEndDay_51 n) ih (v12_doEndDay_101 FU) (g12_doEndDay_101 FU) (t12_doEndDay_101 FU)
set_option maxRecDepth 100000 in
theorem r12_doEndDay_4 (F218 : PM → Int32 → Int32) (G218 : PM → Int32 → Prop) (o218 : CalOK 2 (CC218 F218 G218)) (kv4 : PM → Int32 → Int32 → Int32 × PM) (kg4 : PM → Int32 → Int32 → Prop) (hk4 : ∀ (p : PM) (v1 : Int32) (v2 : Int32) (d3 : ZV), Gr 2 p → kg4 p v1 v2 → ZJ 2 295 4 [zR 12 1, zI v1, zI v2, d3] [] p (hwI (kv4 p v1 v2))) (kv51 : PM → Int32 → Int32 → Int32 → Int32 × PM) (kg51 : PM → Int32 → Int32 → Int32 → Prop) (hk51 : ∀ (p : PM) (v1 : Int32) (v2 : Int32) (v3 : Int32), Gr 2 p → kg51 p v1 v2 v3 → ZJ 2 295 51 [zR 12 1, zI v1, zI v2, zI v3] [] p (hwI (kv51 p v1 v2 v3))) : ∀ (p : PM) (v1 : Int32) (v2 : Int32) (d3 : ZV), Gr 2 p → bg12_doEndDay_4 F218 G218 kg4 kg51 p v1 v2 → ZJ 2 295 4 [zR 12 1, zI v1, zI v2, d3] [] p (hwI (bv12_doEndDay_4 F218 kv4 kv51 p v1 v2)) := by
  intro p v1 v2 d3 hg H
  exact rwI (n := 3000) (q := 4) (la := [zR 12 1, zI v1, zI v2, d3]) (sa := []) (ks := [fun la sa s => kv4 s (ai la 1) (ai la 2), fun la sa s => kv51 s (ai la 1) (ai la 2) (ai la 3), fun _ _ s => (0, s)]) (gs := [fun la sa s => zsw (tc2 la [(112, 1), (0, 0), (0, 0), (2, 0)] && tc2 sa []) False (kg4 s (ai la 1) (ai la 2)), fun la sa s => zsw (tc2 la [(112, 1), (0, 0), (0, 0), (0, 0)] && tc2 sa []) False (kg51 s (ai la 1) (ai la 2) (ai la 3)), fun _ _ _ => False]) (fcons o218 (fnil)) tab295 pc295 ⟨fun la sa s hg H => zcut H fun H => hk4 s (ai la 1) (ai la 2) (zld la 3) hg H, fun la sa s hg H => zcut H fun H => hk51 s (ai la 1) (ai la 2) (ai la 3) hg H, fun _ _ _ _ H => H.elim, trivial⟩ hg H
theorem t12_doEndDay_4 : ∀ (n : Nat), ∀ (p : PM) (v1 : Int32) (v2 : Int32) (d3 : ZV), Gr 2 p → g12_doEndDay_4 n p v1 v2 → ZJ 2 295 4 [zR 12 1, zI v1, zI v2, d3] [] p (hwI (v12_doEndDay_4 n p v1 v2)) := by
  intro n
  induction n with
  | zero =>
    intro p v1 v2 d3 hg H
    exact H.elim
  | succ n ih => exact r12_doEndDay_4 v12_isOpen g12_isOpen ok218 (v12_doEndDay_4 n) (g12_doEndDay_4 n) ih (v12_doEndDay_51 FU) (g12_doEndDay_51 FU) (t12_doEndDay_51 FU)
set_option maxRecDepth 100000 in
theorem r12_doEndDay (F218 : PM → Int32 → Int32) (G218 : PM → Int32 → Prop) (o218 : CalOK 2 (CC218 F218 G218)) (kv4 : PM → Int32 → Int32 → Int32 × PM) (kg4 : PM → Int32 → Int32 → Prop) (hk4 : ∀ (p : PM) (v1 : Int32) (v2 : Int32) (d3 : ZV), Gr 2 p → kg4 p v1 v2 → ZJ 2 295 4 [zR 12 1, zI v1, zI v2, d3] [] p (hwI (kv4 p v1 v2))) : ∀ (p : PM), Gr 2 p → bg12_doEndDay kg4 p → ZJ 2 295 0 [zR 12 1, zJ, zJ, zJ] [] p (hwI (bv12_doEndDay kv4 p)) := by
  intro p   hg H
  exact rwI (n := 3000) (q := 0) (la := [zR 12 1, zJ, zJ, zJ]) (sa := []) (ks := [fun la sa s => kv4 s (ai la 1) (ai la 2), fun _ _ s => (0, s), fun _ _ s => (0, s)]) (gs := [fun la sa s => zsw (tc2 la [(112, 1), (0, 0), (0, 0), (2, 0)] && tc2 sa []) False (kg4 s (ai la 1) (ai la 2)), fun _ _ _ => False, fun _ _ _ => False]) (fcons o218 (fnil)) tab295 pc295 ⟨fun la sa s hg H => zcut H fun H => hk4 s (ai la 1) (ai la 2) (zld la 3) hg H, fun _ _ _ _ H => H.elim, fun _ _ _ _ H => H.elim, trivial⟩ hg H
theorem t12_doEndDay : ∀ (p : PM), Gr 2 p → g12_doEndDay p → ZJ 2 295 0 [zR 12 1, zJ, zJ, zJ] [] p (hwI (v12_doEndDay p)) := r12_doEndDay v12_isOpen g12_isOpen ok218 (v12_doEndDay_4 FU) (g12_doEndDay_4 FU) (t12_doEndDay_4 FU)
def CC295 (F : PM → Int32 × PM) (G : PM → Prop) : Cal := (295, [15], 1, false, fun as p => (zI (F p ).1, (F p ).2), fun as p => zsw (tc2 as [(112, 1)]) False (G p ))
set_option maxRecDepth 100000 in
theorem okr295 (F : PM → Int32 × PM) (G : PM → Prop) (h : ∀ (p : PM), Gr 2 p → G p  → ZJ 2 295 0 [zR 12 1, zJ, zJ, zJ] [] p (hwI (F p ))) : CalOK 2 (CC295 F G) := cal_ok (m := 4) (by unfold mL; rw [mX_295]) (fun as p hg H => h p  hg H)
theorem ok295 : CalOK 2 (CC295 v12_doEndDay g12_doEndDay) := okr295 v12_doEndDay g12_doEndDay t12_doEndDay
noncomputable def bv12_undoes (F232 : PM → Int32 → Int32 → Int32 → Int32 → PM) (p : PM) (v1 : Int32) (v2 : Int32) (v3 : Int32) : PM :=
  let p1 : PM := F232 p v1 (p.1 13 30 (v2).toNatClampNeg) v3 (p.1 13 33 (v2).toNatClampNeg)
  p1
noncomputable def v12_undoes (p : PM) (v1 : Int32) (v2 : Int32) (v3 : Int32) : PM := bv12_undoes v12_holds p v1 v2 v3
noncomputable def bg12_undoes (F232 : PM → Int32 → Int32 → Int32 → Int32 → PM) (G232 : PM → Int32 → Int32 → Int32 → Int32 → Prop) (p : PM) (v1 : Int32) (v2 : Int32) (v3 : Int32) : Prop :=
  (inb v2 60) ∧ (
  (inb v2 60) ∧ (
  (G232 p v1 (p.1 13 30 (v2).toNatClampNeg) v3 (p.1 13 33 (v2).toNatClampNeg)) ∧ (
  let p1 : PM := F232 p v1 (p.1 13 30 (v2).toNatClampNeg) v3 (p.1 13 33 (v2).toNatClampNeg)
  True)))
noncomputable def g12_undoes (p : PM) (v1 : Int32) (v2 : Int32) (v3 : Int32) : Prop := bg12_undoes v12_holds g12_holds p v1 v2 v3
def R296 : List Row := [(0, .aload_n 0, 1, 0, (0, 0, 0, 0, 0, 0)), (1, .iload_n 1, 1, 0, (0, 0, 0, 0, 0, 0)), (2, .aload_n 0, 1, 0, (0, 0, 0, 0, 0, 0)), (3, .getfield 120, 3, 0, (12, 41, 16, 2, 30, 0)), (6, .iload_n 2, 1, 0, (0, 0, 0, 0, 0, 0)), (7, .iaload, 1, 0, (13, 60, 0, 0, 0, 0)), (8, .iload_n 3, 1, 0, (0, 0, 0, 0, 0, 0)), (9, .aload_n 0, 1, 0, (0, 0, 0, 0, 0, 0)), (10, .getfield 129, 3, 0, (12, 44, 16, 2, 33, 0)), (13, .iload_n 2, 1, 0, (0, 0, 0, 0, 0, 0)), (14, .iaload, 1, 0, (13, 60, 0, 0, 0, 0)), (15, .invokevirtual 236, 3, 0, (0, 5, 0, 0, 1, 0)), (18, .return_, 1, 0, (0, 0, 0, 0, 0, 0))]
set_option maxRecDepth 100000 in
theorem rk296 : R296.all (rok 2 296 0 [(232, [15, 0, 0, 0, 0])]) = true := by decide +kernel
set_option maxRecDepth 100000 in
theorem tab296 {F232 : PM → Int32 → Int32 → Int32 → Int32 → PM} {G232 : PM → Int32 → Int32 → Int32 → Int32 → Prop} : TabOK 2 296 0 [CC232 F232 G232] R296 := tab_ok (K := K296) rfl rfl (fun h => d296 h) rk296 (by decide +kernel)
set_option maxRecDepth 100000 in
theorem pc296 : cutpc [] R296 = true := by decide +kernel
set_option maxRecDepth 100000 in
theorem r12_undoes (F232 : PM → Int32 → Int32 → Int32 → Int32 → PM) (G232 : PM → Int32 → Int32 → Int32 → Int32 → Prop) (o232 : CalOK 2 (CC232 F232 G232)) : ∀ (p : PM) (v1 : Int32) (v2 : Int32) (v3 : Int32), Gr 2 p → bg12_undoes F232 G232 p v1 v2 v3 → ZJ 2 296 0 [zR 12 1, zI v1, zI v2, zI v3] [] p (hwV (bv12_undoes F232 p v1 v2 v3)) := by
  intro p v1 v2 v3  hg H
  exact rwV (n := 3000) (q := 0) (la := [zR 12 1, zI v1, zI v2, zI v3]) (sa := []) (ks := []) (gs := []) (fcons o232 (fnil)) tab296 pc296 trivial hg H
theorem t12_undoes : ∀ (p : PM) (v1 : Int32) (v2 : Int32) (v3 : Int32), Gr 2 p → g12_undoes p v1 v2 v3 → ZJ 2 296 0 [zR 12 1, zI v1, zI v2, zI v3] [] p (hwV (v12_undoes p v1 v2 v3)) := r12_undoes v12_holds g12_holds ok232
def CC296 (F : PM → Int32 → Int32 → Int32 → PM) (G : PM → Int32 → Int32 → Int32 → Prop) : Cal := (296, [15, 0, 0, 0], 0, false, fun as p => (zJ, (F p (ai as 1) (ai as 2) (ai as 3))), fun as p => zsw (tc2 as [(112, 1), (0, 0), (0, 0), (0, 0)]) False (G p (ai as 1) (ai as 2) (ai as 3)))
set_option maxRecDepth 100000 in
theorem okr296 (F : PM → Int32 → Int32 → Int32 → PM) (G : PM → Int32 → Int32 → Int32 → Prop) (h : ∀ (p : PM) (v1 : Int32) (v2 : Int32) (v3 : Int32), Gr 2 p → G p v1 v2 v3 → ZJ 2 296 0 [zR 12 1, zI v1, zI v2, zI v3] [] p (hwV (F p v1 v2 v3))) : CalOK 2 (CC296 F G) := cal_ok (m := 4) (by unfold mL; rw [mX_296]) (fun as p hg H => h p (ai as 1) (ai as 2) (ai as 3) hg H)
theorem ok296 : CalOK 2 (CC296 v12_undoes g12_undoes) := okr296 v12_undoes g12_undoes t12_undoes
noncomputable def bv12_doBust_166 (kv166 : PM → Int32 → Int32 → Int32 → Int32 × PM) (p : PM) (v1 : Int32) (v3 : Int32) (v5 : Int32) : Int32 × PM :=
  if v5 < (cn 44) then (
    if (p.1 15 3 (v5).toNatClampNeg) = 0 then (
      kv166 p v1 v3 (v5 + (cn 1)))
    else (
      if (p.1 13 19 (v5).toNatClampNeg) = (cn 3) then (
        if (p.1 13 24 (v5).toNatClampNeg) = (cn 1) then (
          if (p.1 13 28 (v5).toNatClampNeg) = v1 then (
            if (p.1 15 6 (v5).toNatClampNeg) = 0 then (
              let p1 : PM := pI p 13 24 (v5).toNatClampNeg (cn 2)
              let p2 : PM := pI p1 13 28 (v5).toNatClampNeg (cn (-1))
              kv166 p2 v1 v3 (v5 + (cn 1)))
            else (
              kv166 p v1 v3 (v5 + (cn 1))))
          else (
            kv166 p v1 v3 (v5 + (cn 1))))
        else (
          kv166 p v1 v3 (v5 + (cn 1))))
      else (
        kv166 p v1 v3 (v5 + (cn 1)))))
  else (
    ((p.1 13 10 (v3).toNatClampNeg), p))
noncomputable def v12_doBust_166 (n : Nat) : PM → Int32 → Int32 → Int32 → Int32 × PM := Nat.rec (motive := fun _ => PM → Int32 → Int32 → Int32 → Int32 × PM) (fun p _ _ _ => (0, p)) (fun _ ih => bv12_doBust_166 ih) n
theorem ev12_doBust_166 (n : Nat) (p : PM) (v1 : Int32) (v3 : Int32) (v5 : Int32) : v12_doBust_166 (n + 1) p v1 v3 v5 = bv12_doBust_166 (v12_doBust_166 n) p v1 v3 v5 := rfl
noncomputable def bg12_doBust_166 (kg166 : PM → Int32 → Int32 → Int32 → Prop) (p : PM) (v1 : Int32) (v3 : Int32) (v5 : Int32) : Prop :=
  if v5 < (cn 44) then (
    (inb v5 44) ∧ (
    if (p.1 15 3 (v5).toNatClampNeg) = 0 then (
      kg166 p v1 v3 (v5 + (cn 1)))
    else (
      (inb v5 44) ∧ (
      if (p.1 13 19 (v5).toNatClampNeg) = (cn 3) then (
        (inb v5 44) ∧ (
        if (p.1 13 24 (v5).toNatClampNeg) = (cn 1) then (
          (inb v5 44) ∧ (
          if (p.1 13 28 (v5).toNatClampNeg) = v1 then (
            (inb v5 44) ∧ (
            if (p.1 15 6 (v5).toNatClampNeg) = 0 then (
              (inb v5 44) ∧ (
              let p1 : PM := pI p 13 24 (v5).toNatClampNeg (cn 2)
              (inb v5 44) ∧ (
              let p2 : PM := pI p1 13 28 (v5).toNatClampNeg (cn (-1))
              kg166 p2 v1 v3 (v5 + (cn 1)))))
            else (
              kg166 p v1 v3 (v5 + (cn 1)))))
          else (
            kg166 p v1 v3 (v5 + (cn 1)))))
        else (
          kg166 p v1 v3 (v5 + (cn 1)))))
      else (
        kg166 p v1 v3 (v5 + (cn 1)))))))
  else (
    (inb v3 6) ∧ (
    True))
noncomputable def g12_doBust_166 (n : Nat) : PM → Int32 → Int32 → Int32 → Prop := Nat.rec (motive := fun _ => PM → Int32 → Int32 → Int32 → Prop) (fun _ _ _ _ => False) (fun _ ih => bg12_doBust_166 ih) n
theorem eg12_doBust_166 (n : Nat) (p : PM) (v1 : Int32) (v3 : Int32) (v5 : Int32) : g12_doBust_166 (n + 1) p v1 v3 v5 = bg12_doBust_166 (g12_doBust_166 n) p v1 v3 v5 := rfl
noncomputable def bv12_doBust_16 (F234 : PM → Int32 → Int32) (F235 : PM → Int32 → Int32) (F296 : PM → Int32 → Int32 → Int32 → PM) (kv166 : PM → Int32 → Int32 → Int32 → Int32 × PM) (p : PM) (v1 : Int32) (s0 : Int32) : Int32 × PM :=
  if (F234 p v1) = 0 then (
    let p21 : PM := pI p 12 1 0 (cn 1)
    if (p21.1 12 1 0) = 0 then (
      let x22 : Int32 := (p21.1 13 30 (s0).toNatClampNeg)
      if (F235 p21 x22) = v1 then (
        let p26 : PM := F296 p21 (p21.1 13 31 (s0).toNatClampNeg) s0 (-(p21.1 13 34 (s0).toNatClampNeg))
        let p27 : PM := F296 p26 (p26.1 13 32 (s0).toNatClampNeg) s0 (p26.1 13 34 (s0).toNatClampNeg)
        let p28 : PM := pI p27 15 7 (s0).toNatClampNeg (cn 1)
        if (F235 p28 x22) < 0 then (
          let p30 : PM := pI p28 13 10 (x22).toNatClampNeg (p28.1 13 11 (x22).toNatClampNeg)
          kv166 p30 v1 x22 (cn 0))
        else (
          let p29 : PM := pI p28 13 10 (x22).toNatClampNeg (p28.1 13 33 ((irm (F235 p28 x22) (cn 60))).toNatClampNeg)
          kv166 p29 v1 x22 (cn 0)))
      else (
        let p23 : PM := F296 p21 (p21.1 13 31 (s0).toNatClampNeg) s0 (-(p21.1 13 34 (s0).toNatClampNeg))
        let p24 : PM := F296 p23 (p23.1 13 32 (s0).toNatClampNeg) s0 (p23.1 13 34 (s0).toNatClampNeg)
        let p25 : PM := pI p24 15 7 (s0).toNatClampNeg (cn 1)
        kv166 p25 v1 x22 (cn 0)))
    else (
      ((cn 0), p21)))
  else (
    if (p.1 15 7 (s0).toNatClampNeg) = 0 then (
      let p1 : PM := pI p 12 1 0 (cn 0)
      if (p1.1 12 1 0) = 0 then (
        let x2 : Int32 := (p1.1 13 30 (s0).toNatClampNeg)
        if (F235 p1 x2) = v1 then (
          let p6 : PM := F296 p1 (p1.1 13 31 (s0).toNatClampNeg) s0 (-(p1.1 13 34 (s0).toNatClampNeg))
          let p7 : PM := F296 p6 (p6.1 13 32 (s0).toNatClampNeg) s0 (p6.1 13 34 (s0).toNatClampNeg)
          let p8 : PM := pI p7 15 7 (s0).toNatClampNeg (cn 1)
          if (F235 p8 x2) < 0 then (
            let p10 : PM := pI p8 13 10 (x2).toNatClampNeg (p8.1 13 11 (x2).toNatClampNeg)
            kv166 p10 v1 x2 (cn 0))
          else (
            let p9 : PM := pI p8 13 10 (x2).toNatClampNeg (p8.1 13 33 ((irm (F235 p8 x2) (cn 60))).toNatClampNeg)
            kv166 p9 v1 x2 (cn 0)))
        else (
          let p3 : PM := F296 p1 (p1.1 13 31 (s0).toNatClampNeg) s0 (-(p1.1 13 34 (s0).toNatClampNeg))
          let p4 : PM := F296 p3 (p3.1 13 32 (s0).toNatClampNeg) s0 (p3.1 13 34 (s0).toNatClampNeg)
          let p5 : PM := pI p4 15 7 (s0).toNatClampNeg (cn 1)
          kv166 p5 v1 x2 (cn 0)))
      else (
        ((cn 0), p1)))
    else (
      let p11 : PM := pI p 12 1 0 (cn 2)
      if (p11.1 12 1 0) = 0 then (
        let x12 : Int32 := (p11.1 13 30 (s0).toNatClampNeg)
        if (F235 p11 x12) = v1 then (
          let p16 : PM := F296 p11 (p11.1 13 31 (s0).toNatClampNeg) s0 (-(p11.1 13 34 (s0).toNatClampNeg))
          let p17 : PM := F296 p16 (p16.1 13 32 (s0).toNatClampNeg) s0 (p16.1 13 34 (s0).toNatClampNeg)
          let p18 : PM := pI p17 15 7 (s0).toNatClampNeg (cn 1)
          if (F235 p18 x12) < 0 then (
            let p20 : PM := pI p18 13 10 (x12).toNatClampNeg (p18.1 13 11 (x12).toNatClampNeg)
            kv166 p20 v1 x12 (cn 0))
          else (
            let p19 : PM := pI p18 13 10 (x12).toNatClampNeg (p18.1 13 33 ((irm (F235 p18 x12) (cn 60))).toNatClampNeg)
            kv166 p19 v1 x12 (cn 0)))
        else (
          let p13 : PM := F296 p11 (p11.1 13 31 (s0).toNatClampNeg) s0 (-(p11.1 13 34 (s0).toNatClampNeg))
          let p14 : PM := F296 p13 (p13.1 13 32 (s0).toNatClampNeg) s0 (p13.1 13 34 (s0).toNatClampNeg)
          let p15 : PM := pI p14 15 7 (s0).toNatClampNeg (cn 1)
          kv166 p15 v1 x12 (cn 0)))
      else (
        ((cn 0), p11))))
noncomputable def v12_doBust_16 (p : PM) (v1 : Int32) (s0 : Int32) : Int32 × PM := bv12_doBust_16 v12_isKept v12_latest v12_undoes (v12_doBust_166 FU) p v1 s0
noncomputable def bg12_doBust_16 (F234 : PM → Int32 → Int32) (G234 : PM → Int32 → Prop) (F235 : PM → Int32 → Int32) (G235 : PM → Int32 → Prop) (F296 : PM → Int32 → Int32 → Int32 → PM) (G296 : PM → Int32 → Int32 → Int32 → Prop) (kg166 : PM → Int32 → Int32 → Int32 → Prop) (p : PM) (v1 : Int32) (s0 : Int32) : Prop :=
  (G234 p v1) ∧ (
  if (F234 p v1) = 0 then (
    let p21 : PM := pI p 12 1 0 (cn 1)
    if (p21.1 12 1 0) = 0 then (
      (inb s0 60) ∧ (
      let x22 : Int32 := (p21.1 13 30 (s0).toNatClampNeg)
      (G235 p21 x22) ∧ (
      if (F235 p21 x22) = v1 then (
        (inb s0 60) ∧ (
        (inb s0 60) ∧ (
        (G296 p21 (p21.1 13 31 (s0).toNatClampNeg) s0 (-(p21.1 13 34 (s0).toNatClampNeg))) ∧ (
        let p26 : PM := F296 p21 (p21.1 13 31 (s0).toNatClampNeg) s0 (-(p21.1 13 34 (s0).toNatClampNeg))
        (inb s0 60) ∧ (
        (inb s0 60) ∧ (
        (G296 p26 (p26.1 13 32 (s0).toNatClampNeg) s0 (p26.1 13 34 (s0).toNatClampNeg)) ∧ (
        let p27 : PM := F296 p26 (p26.1 13 32 (s0).toNatClampNeg) s0 (p26.1 13 34 (s0).toNatClampNeg)
        (inb s0 60) ∧ (
        let p28 : PM := pI p27 15 7 (s0).toNatClampNeg (cn 1)
        (G235 p28 x22) ∧ (
        if (F235 p28 x22) < 0 then (
          (inb x22 6) ∧ (
          (inb x22 6) ∧ (
          let p30 : PM := pI p28 13 10 (x22).toNatClampNeg (p28.1 13 11 (x22).toNatClampNeg)
          kg166 p30 v1 x22 (cn 0))))
        else (
          (inb (irm (F235 p28 x22) (cn 60)) 60) ∧ (
          (inb x22 6) ∧ (
          let p29 : PM := pI p28 13 10 (x22).toNatClampNeg (p28.1 13 33 ((irm (F235 p28 x22) (cn 60))).toNatClampNeg)
          kg166 p29 v1 x22 (cn 0)))))))))))))
      else (
        (inb s0 60) ∧ (
        (inb s0 60) ∧ (
        (G296 p21 (p21.1 13 31 (s0).toNatClampNeg) s0 (-(p21.1 13 34 (s0).toNatClampNeg))) ∧ (
        let p23 : PM := F296 p21 (p21.1 13 31 (s0).toNatClampNeg) s0 (-(p21.1 13 34 (s0).toNatClampNeg))
        (inb s0 60) ∧ (
        (inb s0 60) ∧ (
        (G296 p23 (p23.1 13 32 (s0).toNatClampNeg) s0 (p23.1 13 34 (s0).toNatClampNeg)) ∧ (
        let p24 : PM := F296 p23 (p23.1 13 32 (s0).toNatClampNeg) s0 (p23.1 13 34 (s0).toNatClampNeg)
        (inb s0 60) ∧ (
        let p25 : PM := pI p24 15 7 (s0).toNatClampNeg (cn 1)
        kg166 p25 v1 x22 (cn 0))))))))))))
    else (
      True))
  else (
    (inb s0 60) ∧ (
    if (p.1 15 7 (s0).toNatClampNeg) = 0 then (
      let p1 : PM := pI p 12 1 0 (cn 0)
      if (p1.1 12 1 0) = 0 then (
        (inb s0 60) ∧ (
        let x2 : Int32 := (p1.1 13 30 (s0).toNatClampNeg)
        (G235 p1 x2) ∧ (
        if (F235 p1 x2) = v1 then (
          (inb s0 60) ∧ (
          (inb s0 60) ∧ (
          (G296 p1 (p1.1 13 31 (s0).toNatClampNeg) s0 (-(p1.1 13 34 (s0).toNatClampNeg))) ∧ (
          let p6 : PM := F296 p1 (p1.1 13 31 (s0).toNatClampNeg) s0 (-(p1.1 13 34 (s0).toNatClampNeg))
          (inb s0 60) ∧ (
          (inb s0 60) ∧ (
          (G296 p6 (p6.1 13 32 (s0).toNatClampNeg) s0 (p6.1 13 34 (s0).toNatClampNeg)) ∧ (
          let p7 : PM := F296 p6 (p6.1 13 32 (s0).toNatClampNeg) s0 (p6.1 13 34 (s0).toNatClampNeg)
          (inb s0 60) ∧ (
          let p8 : PM := pI p7 15 7 (s0).toNatClampNeg (cn 1)
          (G235 p8 x2) ∧ (
          if (F235 p8 x2) < 0 then (
            (inb x2 6) ∧ (
            (inb x2 6) ∧ (
            let p10 : PM := pI p8 13 10 (x2).toNatClampNeg (p8.1 13 11 (x2).toNatClampNeg)
            kg166 p10 v1 x2 (cn 0))))
          else (
            (inb (irm (F235 p8 x2) (cn 60)) 60) ∧ (
            (inb x2 6) ∧ (
            let p9 : PM := pI p8 13 10 (x2).toNatClampNeg (p8.1 13 33 ((irm (F235 p8 x2) (cn 60))).toNatClampNeg)
            kg166 p9 v1 x2 (cn 0)))))))))))))
        else (
          (inb s0 60) ∧ (
          (inb s0 60) ∧ (
          (G296 p1 (p1.1 13 31 (s0).toNatClampNeg) s0 (-(p1.1 13 34 (s0).toNatClampNeg))) ∧ (
          let p3 : PM := F296 p1 (p1.1 13 31 (s0).toNatClampNeg) s0 (-(p1.1 13 34 (s0).toNatClampNeg))
          (inb s0 60) ∧ (
          (inb s0 60) ∧ (
          (G296 p3 (p3.1 13 32 (s0).toNatClampNeg) s0 (p3.1 13 34 (s0).toNatClampNeg)) ∧ (
          let p4 : PM := F296 p3 (p3.1 13 32 (s0).toNatClampNeg) s0 (p3.1 13 34 (s0).toNatClampNeg)
          (inb s0 60) ∧ (
          let p5 : PM := pI p4 15 7 (s0).toNatClampNeg (cn 1)
          kg166 p5 v1 x2 (cn 0))))))))))))
      else (
        True))
    else (
      let p11 : PM := pI p 12 1 0 (cn 2)
      if (p11.1 12 1 0) = 0 then (
        (inb s0 60) ∧ (
        let x12 : Int32 := (p11.1 13 30 (s0).toNatClampNeg)
        (G235 p11 x12) ∧ (
        if (F235 p11 x12) = v1 then (
          (inb s0 60) ∧ (
          (inb s0 60) ∧ (
          (G296 p11 (p11.1 13 31 (s0).toNatClampNeg) s0 (-(p11.1 13 34 (s0).toNatClampNeg))) ∧ (
          let p16 : PM := F296 p11 (p11.1 13 31 (s0).toNatClampNeg) s0 (-(p11.1 13 34 (s0).toNatClampNeg))
          (inb s0 60) ∧ (
          (inb s0 60) ∧ (
          (G296 p16 (p16.1 13 32 (s0).toNatClampNeg) s0 (p16.1 13 34 (s0).toNatClampNeg)) ∧ (
          let p17 : PM := F296 p16 (p16.1 13 32 (s0).toNatClampNeg) s0 (p16.1 13 34 (s0).toNatClampNeg)
          (inb s0 60) ∧ (
          let p18 : PM := pI p17 15 7 (s0).toNatClampNeg (cn 1)
          (G235 p18 x12) ∧ (
          if (F235 p18 x12) < 0 then (
            (inb x12 6) ∧ (
            (inb x12 6) ∧ (
            let p20 : PM := pI p18 13 10 (x12).toNatClampNeg (p18.1 13 11 (x12).toNatClampNeg)
            kg166 p20 v1 x12 (cn 0))))
          else (
            (inb (irm (F235 p18 x12) (cn 60)) 60) ∧ (
            (inb x12 6) ∧ (
            let p19 : PM := pI p18 13 10 (x12).toNatClampNeg (p18.1 13 33 ((irm (F235 p18 x12) (cn 60))).toNatClampNeg)
            kg166 p19 v1 x12 (cn 0)))))))))))))
        else (
          (inb s0 60) ∧ (
          (inb s0 60) ∧ (
          (G296 p11 (p11.1 13 31 (s0).toNatClampNeg) s0 (-(p11.1 13 34 (s0).toNatClampNeg))) ∧ (
          let p13 : PM := F296 p11 (p11.1 13 31 (s0).toNatClampNeg) s0 (-(p11.1 13 34 (s0).toNatClampNeg))
          (inb s0 60) ∧ (
          (inb s0 60) ∧ (
          (G296 p13 (p13.1 13 32 (s0).toNatClampNeg) s0 (p13.1 13 34 (s0).toNatClampNeg)) ∧ (
          let p14 : PM := F296 p13 (p13.1 13 32 (s0).toNatClampNeg) s0 (p13.1 13 34 (s0).toNatClampNeg)
          (inb s0 60) ∧ (
          let p15 : PM := pI p14 15 7 (s0).toNatClampNeg (cn 1)
          kg166 p15 v1 x12 (cn 0))))))))))))
      else (
        True)))))
noncomputable def g12_doBust_16 (p : PM) (v1 : Int32) (s0 : Int32) : Prop := bg12_doBust_16 v12_isKept g12_isKept v12_latest g12_latest v12_undoes g12_undoes (g12_doBust_166 FU) p v1 s0
noncomputable def bv12_doBust (F234 : PM → Int32 → Int32) (kv16 : PM → Int32 → Int32 → Int32 × PM) (p : PM) (v1 : Int32) : Int32 × PM :=
  if (F234 p v1) = 0 then (
    kv16 p v1 (cn 0))
  else (
    kv16 p v1 (irm v1 (cn 60)))
noncomputable def v12_doBust (p : PM) (v1 : Int32) : Int32 × PM := bv12_doBust v12_isKept v12_doBust_16 p v1
noncomputable def bg12_doBust (F234 : PM → Int32 → Int32) (G234 : PM → Int32 → Prop) (kg16 : PM → Int32 → Int32 → Prop) (p : PM) (v1 : Int32) : Prop :=
  (G234 p v1) ∧ (
  if (F234 p v1) = 0 then (
    kg16 p v1 (cn 0))
  else (
    kg16 p v1 (irm v1 (cn 60))))
noncomputable def g12_doBust (p : PM) (v1 : Int32) : Prop := bg12_doBust v12_isKept g12_isKept g12_doBust_16 p v1
def R297 : List Row := [(0, .aload_n 0, 1, 0, (0, 0, 0, 0, 0, 0)), (1, .iload_n 1, 1, 0, (0, 0, 0, 0, 0, 0)), (2, .invokevirtual 240, 3, 0, (0, 2, 0, 0, 1, 0)), (5, .ifCond .eq 10, 3, 0, (0, 0, 0, 0, 0, 0)), (8, .iload_n 1, 1, 0, (0, 0, 0, 0, 0, 0)), (9, .bipush 60, 2, 0, (0, 0, 0, 0, 0, 60)), (11, .irem, 1, 0, (0, 0, 0, 0, 0, 0)), (12, .goto 4, 3, 0, (0, 0, 0, 0, 0, 0)), (15, .iconst 0, 1, 0, (0, 0, 0, 0, 0, 0)), (16, .istore_n 2, 1, 1, (0, 0, 0, 0, 0, 0)), (17, .aload_n 0, 1, 0, (0, 0, 0, 0, 0, 0)), (18, .aload_n 0, 1, 0, (0, 0, 0, 0, 0, 0)), (19, .iload_n 1, 1, 0, (0, 0, 0, 0, 0, 0)), (20, .invokevirtual 240, 3, 0, (0, 2, 0, 0, 1, 0)), (23, .ifCond .ne 7, 3, 0, (0, 0, 0, 0, 0, 0)), (26, .iconst 1, 1, 0, (0, 0, 0, 0, 0, 1)), (27, .goto 17, 3, 0, (0, 0, 0, 0, 0, 0)), (30, .aload_n 0, 1, 0, (0, 0, 0, 0, 0, 0)), (31, .getfield 135, 3, 0, (12, 46, 18, 2, 7, 0)), (34, .iload_n 2, 1, 0, (0, 0, 0, 0, 0, 0)), (35, .baload, 1, 0, (15, 60, 0, 0, 0, 0)), (36, .ifCond .eq 7, 3, 0, (0, 0, 0, 0, 0, 0)), (39, .iconst 2, 1, 0, (0, 0, 0, 0, 0, 2)), (40, .goto 4, 3, 0, (0, 0, 0, 0, 0, 0)), (43, .iconst 0, 1, 0, (0, 0, 0, 0, 0, 0)), (44, .putfield 180, 3, 0, (12, 0, 0, 1, 0, 0)), (47, .aload_n 0, 1, 0, (0, 0, 0, 0, 0, 0)), (48, .getfield 180, 3, 0, (12, 0, 0, 1, 0, 0)), (51, .ifCond .eq 5, 3, 0, (0, 0, 0, 0, 0, 0)), (54, .iconst 0, 1, 0, (0, 0, 0, 0, 0, 0)), (55, .ireturn, 1, 0, (0, 0, 0, 0, 0, 0)), (56, .aload_n 0, 1, 0, (0, 0, 0, 0, 0, 0)), (57, .getfield 120, 3, 0, (12, 41, 16, 2, 30, 0)), (60, .iload_n 2, 1, 0, (0, 0, 0, 0, 0, 0)), (61, .iaload, 1, 0, (13, 60, 0, 0, 0, 0)), (62, .istore_n 3, 1, 0, (0, 0, 0, 0, 0, 0)), (63, .aload_n 0, 1, 0, (0, 0, 0, 0, 0, 0)), (64, .iload_n 3, 1, 0, (0, 0, 0, 0, 0, 0)), (65, .invokevirtual 362, 3, 0, (1, 2, 0, 0, 1, 0)), (68, .iload_n 1, 1, 0, (0, 0, 0, 0, 0, 0)), (69, .if_icmp .ne 7, 3, 0, (0, 0, 0, 0, 0, 0)), (72, .iconst 1, 1, 0, (0, 0, 0, 0, 0, 1)), (73, .goto 4, 3, 0, (0, 0, 0, 0, 0, 0)), (76, .iconst 0, 1, 0, (0, 0, 0, 0, 0, 0)), (77, .istore 4, 2, 0, (0, 0, 0, 0, 0, 0)), (79, .aload_n 0, 1, 0, (0, 0, 0, 0, 0, 0)), (80, .aload_n 0, 1, 0, (0, 0, 0, 0, 0, 0)), (81, .getfield 123, 3, 0, (12, 42, 16, 2, 31, 0)), (84, .iload_n 2, 1, 0, (0, 0, 0, 0, 0, 0)), (85, .iaload, 1, 0, (13, 60, 0, 0, 0, 0)), (86, .iload_n 2, 1, 0, (0, 0, 0, 0, 0, 0)), (87, .aload_n 0, 1, 0, (0, 0, 0, 0, 0, 0)), (88, .getfield 132, 3, 0, (12, 45, 16, 2, 34, 0)), (91, .iload_n 2, 1, 0, (0, 0, 0, 0, 0, 0)), (92, .iaload, 1, 0, (13, 60, 0, 0, 0, 0)), (93, .ineg, 1, 0, (0, 0, 0, 0, 0, 0)), (94, .invokevirtual 455, 3, 0, (2, 4, 0, 0, 1, 0)), (97, .aload_n 0, 1, 0, (0, 0, 0, 0, 0, 0)), (98, .aload_n 0, 1, 0, (0, 0, 0, 0, 0, 0)), (99, .getfield 126, 3, 0, (12, 43, 16, 2, 32, 0)), (102, .iload_n 2, 1, 0, (0, 0, 0, 0, 0, 0)), (103, .iaload, 1, 0, (13, 60, 0, 0, 0, 0)), (104, .iload_n 2, 1, 0, (0, 0, 0, 0, 0, 0)), (105, .aload_n 0, 1, 0, (0, 0, 0, 0, 0, 0)), (106, .getfield 132, 3, 0, (12, 45, 16, 2, 34, 0)), (109, .iload_n 2, 1, 0, (0, 0, 0, 0, 0, 0)), (110, .iaload, 1, 0, (13, 60, 0, 0, 0, 0)), (111, .invokevirtual 455, 3, 0, (2, 4, 0, 0, 1, 0)), (114, .aload_n 0, 1, 0, (0, 0, 0, 0, 0, 0)), (115, .getfield 135, 3, 0, (12, 46, 18, 2, 7, 0)), (118, .iload_n 2, 1, 0, (0, 0, 0, 0, 0, 0)), (119, .iconst 1, 1, 0, (0, 0, 0, 0, 0, 1)), (120, .bastore, 1, 0, (15, 60, 0, 0, 0, 0)), (121, .iload 4, 2, 0, (0, 0, 0, 0, 0, 0)), (123, .ifCond .eq 40, 3, 0, (0, 0, 0, 0, 0, 0)), (126, .aload_n 0, 1, 0, (0, 0, 0, 0, 0, 0)), (127, .iload_n 3, 1, 0, (0, 0, 0, 0, 0, 0)), (128, .invokevirtual 362, 3, 0, (1, 2, 0, 0, 1, 0)), (131, .istore 5, 2, 0, (0, 0, 0, 0, 0, 0)), (133, .aload_n 0, 1, 0, (0, 0, 0, 0, 0, 0)), (134, .getfield 45, 3, 0, (12, 12, 16, 2, 10, 0)), (137, .iload_n 3, 1, 0, (0, 0, 0, 0, 0, 0)), (138, .iload 5, 2, 0, (0, 0, 0, 0, 0, 0)), (140, .ifCond .ge 12, 3, 0, (0, 0, 0, 0, 0, 0)), (143, .aload_n 0, 1, 0, (0, 0, 0, 0, 0, 0)), (144, .getfield 48, 3, 0, (12, 13, 16, 2, 11, 0)), (147, .iload_n 3, 1, 0, (0, 0, 0, 0, 0, 0)), (148, .iaload, 1, 0, (13, 6, 0, 0, 0, 0)), (149, .goto 13, 3, 0, (0, 0, 0, 0, 0, 0)), (152, .aload_n 0, 1, 0, (0, 0, 0, 0, 0, 0)), (153, .getfield 129, 3, 0, (12, 44, 16, 2, 33, 0)), (156, .iload 5, 2, 0, (0, 0, 0, 0, 0, 0)), (158, .bipush 60, 2, 0, (0, 0, 0, 0, 0, 60)), (160, .irem, 1, 0, (0, 0, 0, 0, 0, 0)), (161, .iaload, 1, 0, (13, 60, 0, 0, 0, 0)), (162, .iastore, 1, 0, (13, 6, 0, 0, 0, 0)), (163, .iconst 0, 1, 0, (0, 0, 0, 0, 0, 0)), (164, .istore 5, 2, 0, (0, 0, 0, 0, 0, 0)), (166, .iload 5, 2, 2, (0, 0, 0, 0, 0, 0)), (168, .bipush 44, 2, 0, (0, 0, 0, 0, 0, 44)), (170, .if_icmp .ge 78, 3, 0, (0, 0, 0, 0, 0, 0)), (173, .aload_n 0, 1, 0, (0, 0, 0, 0, 0, 0)), (174, .getfield 60, 3, 0, (12, 19, 18, 2, 3, 0)), (177, .iload 5, 2, 0, (0, 0, 0, 0, 0, 0)), (179, .baload, 1, 0, (15, 44, 0, 0, 0, 0)), (180, .ifCond .eq 62, 3, 0, (0, 0, 0, 0, 0, 0)), (183, .aload_n 0, 1, 0, (0, 0, 0, 0, 0, 0)), (184, .getfield 84, 3, 0, (12, 27, 16, 2, 19, 0)), (187, .iload 5, 2, 0, (0, 0, 0, 0, 0, 0)), (189, .iaload, 1, 0, (13, 44, 0, 0, 0, 0)), (190, .iconst 3, 1, 0, (0, 0, 0, 0, 0, 3)), (191, .if_icmp .ne 51, 3, 0, (0, 0, 0, 0, 0, 0)), (194, .aload_n 0, 1, 0, (0, 0, 0, 0, 0, 0)), (195, .getfield 99, 3, 0, (12, 32, 16, 2, 24, 0)), (198, .iload 5, 2, 0, (0, 0, 0, 0, 0, 0)), (200, .iaload, 1, 0, (13, 44, 0, 0, 0, 0)), (201, .iconst 1, 1, 0, (0, 0, 0, 0, 0, 1)), (202, .if_icmp .ne 40, 3, 0, (0, 0, 0, 0, 0, 0)), (205, .aload_n 0, 1, 0, (0, 0, 0, 0, 0, 0)), (206, .getfield 111, 3, 0, (12, 36, 16, 2, 28, 0)), (209, .iload 5, 2, 0, (0, 0, 0, 0, 0, 0)), (211, .iaload, 1, 0, (13, 44, 0, 0, 0, 0)), (212, .iload_n 1, 1, 0, (0, 0, 0, 0, 0, 0)), (213, .if_icmp .ne 29, 3, 0, (0, 0, 0, 0, 0, 0)), (216, .aload_n 0, 1, 0, (0, 0, 0, 0, 0, 0)), (217, .getfield 114, 3, 0, (12, 37, 18, 2, 6, 0)), (220, .iload 5, 2, 0, (0, 0, 0, 0, 0, 0)), (222, .baload, 1, 0, (15, 44, 0, 0, 0, 0)), (223, .ifCond .ne 19, 3, 0, (0, 0, 0, 0, 0, 0)), (226, .aload_n 0, 1, 0, (0, 0, 0, 0, 0, 0)), (227, .getfield 99, 3, 0, (12, 32, 16, 2, 24, 0)), (230, .iload 5, 2, 0, (0, 0, 0, 0, 0, 0)), (232, .iconst 2, 1, 0, (0, 0, 0, 0, 0, 2)), (233, .iastore, 1, 0, (13, 44, 0, 0, 0, 0)), (234, .aload_n 0, 1, 0, (0, 0, 0, 0, 0, 0)), (235, .getfield 111, 3, 0, (12, 36, 16, 2, 28, 0)), (238, .iload 5, 2, 0, (0, 0, 0, 0, 0, 0)), (240, .iconst (-1), 1, 0, (0, 0, 0, 0, 0, -1)), (241, .iastore, 1, 0, (13, 44, 0, 0, 0, 0)), (242, .iinc 5 1, 3, 0, (0, 0, 0, 0, 0, 1)), (245, .goto (-79), 3, 0, (0, 0, 0, 0, 0, 0)), (248, .aload_n 0, 1, 0, (0, 0, 0, 0, 0, 0)), (249, .getfield 45, 3, 0, (12, 12, 16, 2, 10, 0)), (252, .iload_n 3, 1, 0, (0, 0, 0, 0, 0, 0)), (253, .iaload, 1, 0, (13, 6, 0, 0, 0, 0)), (254, .ireturn, 1, 0, (0, 0, 0, 0, 0, 0))]
set_option maxRecDepth 100000 in
theorem rk297 : R297.all (rok 2 297 1 [(234, [15, 0]), (235, [15, 0]), (296, [15, 0, 0, 0])]) = true := by decide +kernel
set_option maxRecDepth 100000 in
theorem tab297 {F234 : PM → Int32 → Int32} {G234 : PM → Int32 → Prop} {F235 : PM → Int32 → Int32} {G235 : PM → Int32 → Prop} {F296 : PM → Int32 → Int32 → Int32 → PM} {G296 : PM → Int32 → Int32 → Int32 → Prop} : TabOK 2 297 1 [CC234 F234 G234, CC235 F235 G235, CC296 F296 G296] R297 := tab_ok (K := K297) rfl rfl (fun h => d297 h) rk297 (by decide +kernel)
set_option maxRecDepth 100000 in
theorem pc297 : cutpc [16, 166] R297 = true := by decide +kernel
set_option maxRecDepth 100000 in
theorem r12_doBust_166 (F234 : PM → Int32 → Int32) (G234 : PM → Int32 → Prop) (o234 : CalOK 2 (CC234 F234 G234)) (F235 : PM → Int32 → Int32) (G235 : PM → Int32 → Prop) (o235 : CalOK 2 (CC235 F235 G235)) (F296 : PM → Int32 → Int32 → Int32 → PM) (G296 : PM → Int32 → Int32 → Int32 → Prop) (o296 : CalOK 2 (CC296 F296 G296)) (kv166 : PM → Int32 → Int32 → Int32 → Int32 × PM) (kg166 : PM → Int32 → Int32 → Int32 → Prop) (hk166 : ∀ (p : PM) (v1 : Int32) (v3 : Int32) (v5 : Int32) (d2 d4 : ZV), Gr 2 p → kg166 p v1 v3 v5 → ZJ 2 297 166 [zR 12 1, zI v1, d2, zI v3, d4, zI v5] [] p (hwI (kv166 p v1 v3 v5))) : ∀ (p : PM) (v1 : Int32) (v3 : Int32) (v5 : Int32) (d2 d4 : ZV), Gr 2 p → bg12_doBust_166 kg166 p v1 v3 v5 → ZJ 2 297 166 [zR 12 1, zI v1, d2, zI v3, d4, zI v5] [] p (hwI (bv12_doBust_166 kv166 p v1 v3 v5)) := by
  intro p v1 v3 v5 d2 d4 hg H
  exact rwI (n := 3000) (q := 166) (la := [zR 12 1, zI v1, d2, zI v3, d4, zI v5]) (sa := []) (ks := [fun _ _ s => (0, s), fun la sa s => kv166 s (ai la 1) (ai la 3) (ai la 5)]) (gs := [fun _ _ _ => False, fun la sa s => zsw (tc2 la [(112, 1), (0, 0), (2, 0), (0, 0), (2, 0), (0, 0)] && tc2 sa []) False (kg166 s (ai la 1) (ai la 3) (ai la 5))]) (fcons o234 (fcons o235 (fcons o296 (fnil)))) tab297 pc297 ⟨fun _ _ _ _ H => H.elim, fun la sa s hg H => zcut H fun H => hk166 s (ai la 1) (ai la 3) (ai la 5) (zld la 2) (zld la 4) hg H, trivial⟩ hg H
theorem t12_doBust_166 : ∀ (n : Nat), ∀ (p : PM) (v1 : Int32) (v3 : Int32) (v5 : Int32) (d2 d4 : ZV), Gr 2 p → g12_doBust_166 n p v1 v3 v5 → ZJ 2 297 166 [zR 12 1, zI v1, d2, zI v3, d4, zI v5] [] p (hwI (v12_doBust_166 n p v1 v3 v5)) := by
  intro n
  induction n with
  | zero =>
    intro p v1 v3 v5 d2 d4 hg H
    exact H.elim
  | succ n ih => exact r12_doBust_166 v12_isKept g12_isKept ok234 v12_latest g12_latest ok235 v12_undoes g12_undoes ok296 (v12_doBust_166 n) (g12_doBust_166 n) ih
set_option maxRecDepth 100000 in
theorem r12_doBust_16 (F234 : PM → Int32 → Int32) (G234 : PM → Int32 → Prop) (o234 : CalOK 2 (CC234 F234 G234)) (F235 : PM → Int32 → Int32) (G235 : PM → Int32 → Prop) (o235 : CalOK 2 (CC235 F235 G235)) (F296 : PM → Int32 → Int32 → Int32 → PM) (G296 : PM → Int32 → Int32 → Int32 → Prop) (o296 : CalOK 2 (CC296 F296 G296)) (kv166 : PM → Int32 → Int32 → Int32 → Int32 × PM) (kg166 : PM → Int32 → Int32 → Int32 → Prop) (hk166 : ∀ (p : PM) (v1 : Int32) (v3 : Int32) (v5 : Int32) (d2 d4 : ZV), Gr 2 p → kg166 p v1 v3 v5 → ZJ 2 297 166 [zR 12 1, zI v1, d2, zI v3, d4, zI v5] [] p (hwI (kv166 p v1 v3 v5))) : ∀ (p : PM) (v1 : Int32) (s0 : Int32) (d2 d3 d4 d5 : ZV), Gr 2 p → bg12_doBust_16 F234 G234 F235 G235 F296 G296 kg166 p v1 s0 → ZJ 2 297 16 [zR 12 1, zI v1, d2, d3, d4, d5] [zI s0] p (hwI (bv12_doBust_16 F234 F235 F296 kv166 p v1 s0)) := by
  intro p v1 s0 d2 d3 d4 d5 hg H
  exact rwI (n := 3000) (q := 16) (la := [zR 12 1, zI v1, d2, d3, d4, d5]) (sa := [zI s0]) (ks := [fun _ _ s => (0, s), fun la sa s => kv166 s (ai la 1) (ai la 3) (ai la 5)]) (gs := [fun _ _ _ => False, fun la sa s => zsw (tc2 la [(112, 1), (0, 0), (2, 0), (0, 0), (2, 0), (0, 0)] && tc2 sa []) False (kg166 s (ai la 1) (ai la 3) (ai la 5))]) (fcons o234 (fcons o235 (fcons o296 (fnil)))) tab297 pc297 ⟨fun _ _ _ _ H => H.elim, fun la sa s hg H => zcut H fun H => hk166 s (ai la 1) (ai la 3) (ai la 5) (zld la 2) (zld la 4) hg H, trivial⟩ hg H
theorem t12_doBust_16 : ∀ (p : PM) (v1 : Int32) (s0 : Int32) (d2 d3 d4 d5 : ZV), Gr 2 p → g12_doBust_16 p v1 s0 → ZJ 2 297 16 [zR 12 1, zI v1, d2, d3, d4, d5] [zI s0] p (hwI (v12_doBust_16 p v1 s0)) := r12_doBust_16 v12_isKept g12_isKept ok234 v12_latest g12_latest ok235 v12_undoes g12_undoes ok296 (v12_doBust_166 FU) (g12_doBust_166 FU) (t12_doBust_166 FU)
set_option maxRecDepth 100000 in
theorem r12_doBust (F234 : PM → Int32 → Int32) (G234 : PM → Int32 → Prop) (o234 : CalOK 2 (CC234 F234 G234)) (F235 : PM → Int32 → Int32) (G235 : PM → Int32 → Prop) (o235 : CalOK 2 (CC235 F235 G235)) (F296 : PM → Int32 → Int32 → Int32 → PM) (G296 : PM → Int32 → Int32 → Int32 → Prop) (o296 : CalOK 2 (CC296 F296 G296)) (kv16 : PM → Int32 → Int32 → Int32 × PM) (kg16 : PM → Int32 → Int32 → Prop) (hk16 : ∀ (p : PM) (v1 : Int32) (s0 : Int32) (d2 d3 d4 d5 : ZV), Gr 2 p → kg16 p v1 s0 → ZJ 2 297 16 [zR 12 1, zI v1, d2, d3, d4, d5] [zI s0] p (hwI (kv16 p v1 s0))) : ∀ (p : PM) (v1 : Int32), Gr 2 p → bg12_doBust F234 G234 kg16 p v1 → ZJ 2 297 0 [zR 12 1, zI v1, zJ, zJ, zJ, zJ] [] p (hwI (bv12_doBust F234 kv16 p v1)) := by
  intro p v1  hg H
  exact rwI (n := 3000) (q := 0) (la := [zR 12 1, zI v1, zJ, zJ, zJ, zJ]) (sa := []) (ks := [fun la sa s => kv16 s (ai la 1) (ai sa 0), fun _ _ s => (0, s)]) (gs := [fun la sa s => zsw (tc2 la [(112, 1), (0, 0), (2, 0), (2, 0), (2, 0), (2, 0)] && tc2 sa [(0, 0)]) False (kg16 s (ai la 1) (ai sa 0)), fun _ _ _ => False]) (fcons o234 (fcons o235 (fcons o296 (fnil)))) tab297 pc297 ⟨fun la sa s hg H => zcut H fun H => hk16 s (ai la 1) (ai sa 0) (zld la 2) (zld la 3) (zld la 4) (zld la 5) hg H, fun _ _ _ _ H => H.elim, trivial⟩ hg H
theorem t12_doBust : ∀ (p : PM) (v1 : Int32), Gr 2 p → g12_doBust p v1 → ZJ 2 297 0 [zR 12 1, zI v1, zJ, zJ, zJ, zJ] [] p (hwI (v12_doBust p v1)) := r12_doBust v12_isKept g12_isKept ok234 v12_latest g12_latest ok235 v12_undoes g12_undoes ok296 (v12_doBust_16) (g12_doBust_16) (t12_doBust_16)
def CC297 (F : PM → Int32 → Int32 × PM) (G : PM → Int32 → Prop) : Cal := (297, [15, 0], 1, false, fun as p => (zI (F p (ai as 1)).1, (F p (ai as 1)).2), fun as p => zsw (tc2 as [(112, 1), (0, 0)]) False (G p (ai as 1)))
set_option maxRecDepth 100000 in
theorem okr297 (F : PM → Int32 → Int32 × PM) (G : PM → Int32 → Prop) (h : ∀ (p : PM) (v1 : Int32), Gr 2 p → G p v1 → ZJ 2 297 0 [zR 12 1, zI v1, zJ, zJ, zJ, zJ] [] p (hwI (F p v1))) : CalOK 2 (CC297 F G) := cal_ok (m := 6) (by unfold mL; rw [mX_297]) (fun as p hg H => h p (ai as 1) hg H)
theorem ok297 : CalOK 2 (CC297 v12_doBust g12_doBust) := okr297 v12_doBust g12_doBust t12_doBust
noncomputable def bv12_doAdjust_16 (F219 : PM → Int32 → Int32 → Int32) (F234 : PM → Int32 → Int32) (F235 : PM → Int32 → Int32) (p : PM) (v1 : Int32) (v2 : Int32) (s0 : Int32) : Int32 × PM :=
  if (F234 p v1) = 0 then (
    let p22 : PM := pI p 12 1 0 (cn 1)
    if (p22.1 12 1 0) = 0 then (
      let x23 : Int32 := (p22.1 13 33 (s0).toNatClampNeg)
      let p24 : PM := pJ p22 14 1 ((p22.1 13 31 (s0).toNatClampNeg)).toNatClampNeg ((p22.2.1 14 1 ((p22.1 13 31 (s0).toNatClampNeg)).toNatClampNeg) - (((p22.1 13 34 (s0).toNatClampNeg)).toInt64 * ((v2 - x23)).toInt64))
      let p25 : PM := pJ p24 14 1 ((p24.1 13 32 (s0).toNatClampNeg)).toNatClampNeg ((p24.2.1 14 1 ((p24.1 13 32 (s0).toNatClampNeg)).toNatClampNeg) + (((p24.1 13 34 (s0).toNatClampNeg)).toInt64 * ((v2 - x23)).toInt64))
      let p26 : PM := pI p25 13 33 (s0).toNatClampNeg v2
      if (F235 p26 (p26.1 13 30 (s0).toNatClampNeg)) = v1 then (
        let p28 : PM := pI p26 13 10 ((p26.1 13 30 (s0).toNatClampNeg)).toNatClampNeg v2
        (x23, p28))
      else (
        let p27 : PM := pI p26 13 10 ((p26.1 13 30 (s0).toNatClampNeg)).toNatClampNeg (p26.1 13 10 ((p26.1 13 30 (s0).toNatClampNeg)).toNatClampNeg)
        (x23, p27)))
    else (
      ((cn 0), p22)))
  else (
    if (F219 p (p.1 13 30 (s0).toNatClampNeg) v2) = 0 then (
      let p15 : PM := pI p 12 1 0 (cn 2)
      if (p15.1 12 1 0) = 0 then (
        let x16 : Int32 := (p15.1 13 33 (s0).toNatClampNeg)
        let p17 : PM := pJ p15 14 1 ((p15.1 13 31 (s0).toNatClampNeg)).toNatClampNeg ((p15.2.1 14 1 ((p15.1 13 31 (s0).toNatClampNeg)).toNatClampNeg) - (((p15.1 13 34 (s0).toNatClampNeg)).toInt64 * ((v2 - x16)).toInt64))
        let p18 : PM := pJ p17 14 1 ((p17.1 13 32 (s0).toNatClampNeg)).toNatClampNeg ((p17.2.1 14 1 ((p17.1 13 32 (s0).toNatClampNeg)).toNatClampNeg) + (((p17.1 13 34 (s0).toNatClampNeg)).toInt64 * ((v2 - x16)).toInt64))
        let p19 : PM := pI p18 13 33 (s0).toNatClampNeg v2
        if (F235 p19 (p19.1 13 30 (s0).toNatClampNeg)) = v1 then (
          let p21 : PM := pI p19 13 10 ((p19.1 13 30 (s0).toNatClampNeg)).toNatClampNeg v2
          (x16, p21))
        else (
          let p20 : PM := pI p19 13 10 ((p19.1 13 30 (s0).toNatClampNeg)).toNatClampNeg (p19.1 13 10 ((p19.1 13 30 (s0).toNatClampNeg)).toNatClampNeg)
          (x16, p20)))
      else (
        ((cn 0), p15)))
    else (
      if (p.1 15 7 (s0).toNatClampNeg) = 0 then (
        let p1 : PM := pI p 12 1 0 (cn 0)
        if (p1.1 12 1 0) = 0 then (
          let x2 : Int32 := (p1.1 13 33 (s0).toNatClampNeg)
          let p3 : PM := pJ p1 14 1 ((p1.1 13 31 (s0).toNatClampNeg)).toNatClampNeg ((p1.2.1 14 1 ((p1.1 13 31 (s0).toNatClampNeg)).toNatClampNeg) - (((p1.1 13 34 (s0).toNatClampNeg)).toInt64 * ((v2 - x2)).toInt64))
          let p4 : PM := pJ p3 14 1 ((p3.1 13 32 (s0).toNatClampNeg)).toNatClampNeg ((p3.2.1 14 1 ((p3.1 13 32 (s0).toNatClampNeg)).toNatClampNeg) + (((p3.1 13 34 (s0).toNatClampNeg)).toInt64 * ((v2 - x2)).toInt64))
          let p5 : PM := pI p4 13 33 (s0).toNatClampNeg v2
          if (F235 p5 (p5.1 13 30 (s0).toNatClampNeg)) = v1 then (
            let p7 : PM := pI p5 13 10 ((p5.1 13 30 (s0).toNatClampNeg)).toNatClampNeg v2
            (x2, p7))
          else (
            let p6 : PM := pI p5 13 10 ((p5.1 13 30 (s0).toNatClampNeg)).toNatClampNeg (p5.1 13 10 ((p5.1 13 30 (s0).toNatClampNeg)).toNatClampNeg)
            (x2, p6)))
        else (
          ((cn 0), p1)))
      else (
        let p8 : PM := pI p 12 1 0 (cn 3)
        if (p8.1 12 1 0) = 0 then (
          let x9 : Int32 := (p8.1 13 33 (s0).toNatClampNeg)
          let p10 : PM := pJ p8 14 1 ((p8.1 13 31 (s0).toNatClampNeg)).toNatClampNeg ((p8.2.1 14 1 ((p8.1 13 31 (s0).toNatClampNeg)).toNatClampNeg) - (((p8.1 13 34 (s0).toNatClampNeg)).toInt64 * ((v2 - x9)).toInt64))
          let p11 : PM := pJ p10 14 1 ((p10.1 13 32 (s0).toNatClampNeg)).toNatClampNeg ((p10.2.1 14 1 ((p10.1 13 32 (s0).toNatClampNeg)).toNatClampNeg) + (((p10.1 13 34 (s0).toNatClampNeg)).toInt64 * ((v2 - x9)).toInt64))
          let p12 : PM := pI p11 13 33 (s0).toNatClampNeg v2
          if (F235 p12 (p12.1 13 30 (s0).toNatClampNeg)) = v1 then (
            let p14 : PM := pI p12 13 10 ((p12.1 13 30 (s0).toNatClampNeg)).toNatClampNeg v2
            (x9, p14))
          else (
            let p13 : PM := pI p12 13 10 ((p12.1 13 30 (s0).toNatClampNeg)).toNatClampNeg (p12.1 13 10 ((p12.1 13 30 (s0).toNatClampNeg)).toNatClampNeg)
            (x9, p13)))
        else (
          ((cn 0), p8)))))
noncomputable def v12_doAdjust_16 (p : PM) (v1 : Int32) (v2 : Int32) (s0 : Int32) : Int32 × PM := bv12_doAdjust_16 v12_isPrice v12_isKept v12_latest p v1 v2 s0
noncomputable def bg12_doAdjust_16 (F219 : PM → Int32 → Int32 → Int32) (G219 : PM → Int32 → Int32 → Prop) (F234 : PM → Int32 → Int32) (G234 : PM → Int32 → Prop) (F235 : PM → Int32 → Int32) (G235 : PM → Int32 → Prop) (p : PM) (v1 : Int32) (v2 : Int32) (s0 : Int32) : Prop :=
  (G234 p v1) ∧ (
  if (F234 p v1) = 0 then (
    let p22 : PM := pI p 12 1 0 (cn 1)
    if (p22.1 12 1 0) = 0 then (
      (inb s0 60) ∧ (
      let x23 : Int32 := (p22.1 13 33 (s0).toNatClampNeg)
      (inb s0 60) ∧ (
      (inb (p22.1 13 31 (s0).toNatClampNeg) 9) ∧ (
      (inb s0 60) ∧ (
      (inb (p22.1 13 31 (s0).toNatClampNeg) 9) ∧ (
      let p24 : PM := pJ p22 14 1 ((p22.1 13 31 (s0).toNatClampNeg)).toNatClampNeg ((p22.2.1 14 1 ((p22.1 13 31 (s0).toNatClampNeg)).toNatClampNeg) - (((p22.1 13 34 (s0).toNatClampNeg)).toInt64 * ((v2 - x23)).toInt64))
      (inb s0 60) ∧ (
      (inb (p24.1 13 32 (s0).toNatClampNeg) 9) ∧ (
      (inb s0 60) ∧ (
      (inb (p24.1 13 32 (s0).toNatClampNeg) 9) ∧ (
      let p25 : PM := pJ p24 14 1 ((p24.1 13 32 (s0).toNatClampNeg)).toNatClampNeg ((p24.2.1 14 1 ((p24.1 13 32 (s0).toNatClampNeg)).toNatClampNeg) + (((p24.1 13 34 (s0).toNatClampNeg)).toInt64 * ((v2 - x23)).toInt64))
      (inb s0 60) ∧ (
      let p26 : PM := pI p25 13 33 (s0).toNatClampNeg v2
      (inb s0 60) ∧ (
      (inb s0 60) ∧ (
      (G235 p26 (p26.1 13 30 (s0).toNatClampNeg)) ∧ (
      if (F235 p26 (p26.1 13 30 (s0).toNatClampNeg)) = v1 then (
        (inb (p26.1 13 30 (s0).toNatClampNeg) 6) ∧ (
        let p28 : PM := pI p26 13 10 ((p26.1 13 30 (s0).toNatClampNeg)).toNatClampNeg v2
        True))
      else (
        (inb s0 60) ∧ (
        (inb (p26.1 13 30 (s0).toNatClampNeg) 6) ∧ (
        (inb (p26.1 13 30 (s0).toNatClampNeg) 6) ∧ (
        let p27 : PM := pI p26 13 10 ((p26.1 13 30 (s0).toNatClampNeg)).toNatClampNeg (p26.1 13 10 ((p26.1 13 30 (s0).toNatClampNeg)).toNatClampNeg)
        True))))))))))))))))))
    else (
      True))
  else (
    (inb s0 60) ∧ (
    (G219 p (p.1 13 30 (s0).toNatClampNeg) v2) ∧ (
    if (F219 p (p.1 13 30 (s0).toNatClampNeg) v2) = 0 then (
      let p15 : PM := pI p 12 1 0 (cn 2)
      if (p15.1 12 1 0) = 0 then (
        (inb s0 60) ∧ (
        let x16 : Int32 := (p15.1 13 33 (s0).toNatClampNeg)
        (inb s0 60) ∧ (
        (inb (p15.1 13 31 (s0).toNatClampNeg) 9) ∧ (
        (inb s0 60) ∧ (
        (inb (p15.1 13 31 (s0).toNatClampNeg) 9) ∧ (
        let p17 : PM := pJ p15 14 1 ((p15.1 13 31 (s0).toNatClampNeg)).toNatClampNeg ((p15.2.1 14 1 ((p15.1 13 31 (s0).toNatClampNeg)).toNatClampNeg) - (((p15.1 13 34 (s0).toNatClampNeg)).toInt64 * ((v2 - x16)).toInt64))
        (inb s0 60) ∧ (
        (inb (p17.1 13 32 (s0).toNatClampNeg) 9) ∧ (
        (inb s0 60) ∧ (
        (inb (p17.1 13 32 (s0).toNatClampNeg) 9) ∧ (
        let p18 : PM := pJ p17 14 1 ((p17.1 13 32 (s0).toNatClampNeg)).toNatClampNeg ((p17.2.1 14 1 ((p17.1 13 32 (s0).toNatClampNeg)).toNatClampNeg) + (((p17.1 13 34 (s0).toNatClampNeg)).toInt64 * ((v2 - x16)).toInt64))
        (inb s0 60) ∧ (
        let p19 : PM := pI p18 13 33 (s0).toNatClampNeg v2
        (inb s0 60) ∧ (
        (inb s0 60) ∧ (
        (G235 p19 (p19.1 13 30 (s0).toNatClampNeg)) ∧ (
        if (F235 p19 (p19.1 13 30 (s0).toNatClampNeg)) = v1 then (
          (inb (p19.1 13 30 (s0).toNatClampNeg) 6) ∧ (
          let p21 : PM := pI p19 13 10 ((p19.1 13 30 (s0).toNatClampNeg)).toNatClampNeg v2
          True))
        else (
          (inb s0 60) ∧ (
          (inb (p19.1 13 30 (s0).toNatClampNeg) 6) ∧ (
          (inb (p19.1 13 30 (s0).toNatClampNeg) 6) ∧ (
          let p20 : PM := pI p19 13 10 ((p19.1 13 30 (s0).toNatClampNeg)).toNatClampNeg (p19.1 13 10 ((p19.1 13 30 (s0).toNatClampNeg)).toNatClampNeg)
          True))))))))))))))))))
      else (
        True))
    else (
      (inb s0 60) ∧ (
      if (p.1 15 7 (s0).toNatClampNeg) = 0 then (
        let p1 : PM := pI p 12 1 0 (cn 0)
        if (p1.1 12 1 0) = 0 then (
          (inb s0 60) ∧ (
          let x2 : Int32 := (p1.1 13 33 (s0).toNatClampNeg)
          (inb s0 60) ∧ (
          (inb (p1.1 13 31 (s0).toNatClampNeg) 9) ∧ (
          (inb s0 60) ∧ (
          (inb (p1.1 13 31 (s0).toNatClampNeg) 9) ∧ (
          let p3 : PM := pJ p1 14 1 ((p1.1 13 31 (s0).toNatClampNeg)).toNatClampNeg ((p1.2.1 14 1 ((p1.1 13 31 (s0).toNatClampNeg)).toNatClampNeg) - (((p1.1 13 34 (s0).toNatClampNeg)).toInt64 * ((v2 - x2)).toInt64))
          (inb s0 60) ∧ (
          (inb (p3.1 13 32 (s0).toNatClampNeg) 9) ∧ (
          (inb s0 60) ∧ (
          (inb (p3.1 13 32 (s0).toNatClampNeg) 9) ∧ (
          let p4 : PM := pJ p3 14 1 ((p3.1 13 32 (s0).toNatClampNeg)).toNatClampNeg ((p3.2.1 14 1 ((p3.1 13 32 (s0).toNatClampNeg)).toNatClampNeg) + (((p3.1 13 34 (s0).toNatClampNeg)).toInt64 * ((v2 - x2)).toInt64))
          (inb s0 60) ∧ (
          let p5 : PM := pI p4 13 33 (s0).toNatClampNeg v2
          (inb s0 60) ∧ (
          (inb s0 60) ∧ (
          (G235 p5 (p5.1 13 30 (s0).toNatClampNeg)) ∧ (
          if (F235 p5 (p5.1 13 30 (s0).toNatClampNeg)) = v1 then (
            (inb (p5.1 13 30 (s0).toNatClampNeg) 6) ∧ (
            let p7 : PM := pI p5 13 10 ((p5.1 13 30 (s0).toNatClampNeg)).toNatClampNeg v2
            True))
          else (
            (inb s0 60) ∧ (
            (inb (p5.1 13 30 (s0).toNatClampNeg) 6) ∧ (
            (inb (p5.1 13 30 (s0).toNatClampNeg) 6) ∧ (
            let p6 : PM := pI p5 13 10 ((p5.1 13 30 (s0).toNatClampNeg)).toNatClampNeg (p5.1 13 10 ((p5.1 13 30 (s0).toNatClampNeg)).toNatClampNeg)
            True))))))))))))))))))
        else (
          True))
      else (
        let p8 : PM := pI p 12 1 0 (cn 3)
        if (p8.1 12 1 0) = 0 then (
          (inb s0 60) ∧ (
          let x9 : Int32 := (p8.1 13 33 (s0).toNatClampNeg)
          (inb s0 60) ∧ (
          (inb (p8.1 13 31 (s0).toNatClampNeg) 9) ∧ (
          (inb s0 60) ∧ (
          (inb (p8.1 13 31 (s0).toNatClampNeg) 9) ∧ (
          let p10 : PM := pJ p8 14 1 ((p8.1 13 31 (s0).toNatClampNeg)).toNatClampNeg ((p8.2.1 14 1 ((p8.1 13 31 (s0).toNatClampNeg)).toNatClampNeg) - (((p8.1 13 34 (s0).toNatClampNeg)).toInt64 * ((v2 - x9)).toInt64))
          (inb s0 60) ∧ (
          (inb (p10.1 13 32 (s0).toNatClampNeg) 9) ∧ (
          (inb s0 60) ∧ (
          (inb (p10.1 13 32 (s0).toNatClampNeg) 9) ∧ (
          let p11 : PM := pJ p10 14 1 ((p10.1 13 32 (s0).toNatClampNeg)).toNatClampNeg ((p10.2.1 14 1 ((p10.1 13 32 (s0).toNatClampNeg)).toNatClampNeg) + (((p10.1 13 34 (s0).toNatClampNeg)).toInt64 * ((v2 - x9)).toInt64))
          (inb s0 60) ∧ (
          let p12 : PM := pI p11 13 33 (s0).toNatClampNeg v2
          (inb s0 60) ∧ (
          (inb s0 60) ∧ (
          (G235 p12 (p12.1 13 30 (s0).toNatClampNeg)) ∧ (
          if (F235 p12 (p12.1 13 30 (s0).toNatClampNeg)) = v1 then (
            (inb (p12.1 13 30 (s0).toNatClampNeg) 6) ∧ (
            let p14 : PM := pI p12 13 10 ((p12.1 13 30 (s0).toNatClampNeg)).toNatClampNeg v2
            True))
          else (
            (inb s0 60) ∧ (
            (inb (p12.1 13 30 (s0).toNatClampNeg) 6) ∧ (
            (inb (p12.1 13 30 (s0).toNatClampNeg) 6) ∧ (
            let p13 : PM := pI p12 13 10 ((p12.1 13 30 (s0).toNatClampNeg)).toNatClampNeg (p12.1 13 10 ((p12.1 13 30 (s0).toNatClampNeg)).toNatClampNeg)
            True))))))))))))))))))
        else (
          True))))))))
noncomputable def g12_doAdjust_16 (p : PM) (v1 : Int32) (v2 : Int32) (s0 : Int32) : Prop := bg12_doAdjust_16 v12_isPrice g12_isPrice v12_isKept g12_isKept v12_latest g12_latest p v1 v2 s0
noncomputable def bv12_doAdjust (F234 : PM → Int32 → Int32) (kv16 : PM → Int32 → Int32 → Int32 → Int32 × PM) (p : PM) (v1 : Int32) (v2 : Int32) : Int32 × PM :=
  if (F234 p v1) = 0 then (
    kv16 p v1 v2 (cn 0))
  else (
    kv16 p v1 v2 (irm v1 (cn 60)))
noncomputable def v12_doAdjust (p : PM) (v1 : Int32) (v2 : Int32) : Int32 × PM := bv12_doAdjust v12_isKept v12_doAdjust_16 p v1 v2
noncomputable def bg12_doAdjust (F234 : PM → Int32 → Int32) (G234 : PM → Int32 → Prop) (kg16 : PM → Int32 → Int32 → Int32 → Prop) (p : PM) (v1 : Int32) (v2 : Int32) : Prop :=
  (G234 p v1) ∧ (
  if (F234 p v1) = 0 then (
    kg16 p v1 v2 (cn 0))
  else (
    kg16 p v1 v2 (irm v1 (cn 60))))
noncomputable def g12_doAdjust (p : PM) (v1 : Int32) (v2 : Int32) : Prop := bg12_doAdjust v12_isKept g12_isKept g12_doAdjust_16 p v1 v2
def R298 : List Row := [(0, .aload_n 0, 1, 0, (0, 0, 0, 0, 0, 0)), (1, .iload_n 1, 1, 0, (0, 0, 0, 0, 0, 0)), (2, .invokevirtual 240, 3, 0, (0, 2, 0, 0, 1, 0)), (5, .ifCond .eq 10, 3, 0, (0, 0, 0, 0, 0, 0)), (8, .iload_n 1, 1, 0, (0, 0, 0, 0, 0, 0)), (9, .bipush 60, 2, 0, (0, 0, 0, 0, 0, 60)), (11, .irem, 1, 0, (0, 0, 0, 0, 0, 0)), (12, .goto 4, 3, 0, (0, 0, 0, 0, 0, 0)), (15, .iconst 0, 1, 0, (0, 0, 0, 0, 0, 0)), (16, .istore_n 3, 1, 1, (0, 0, 0, 0, 0, 0)), (17, .aload_n 0, 1, 0, (0, 0, 0, 0, 0, 0)), (18, .aload_n 0, 1, 0, (0, 0, 0, 0, 0, 0)), (19, .iload_n 1, 1, 0, (0, 0, 0, 0, 0, 0)), (20, .invokevirtual 240, 3, 0, (0, 2, 0, 0, 1, 0)), (23, .ifCond .ne 7, 3, 0, (0, 0, 0, 0, 0, 0)), (26, .iconst 1, 1, 0, (0, 0, 0, 0, 0, 1)), (27, .goto 34, 3, 0, (0, 0, 0, 0, 0, 0)), (30, .aload_n 0, 1, 0, (0, 0, 0, 0, 0, 0)), (31, .getfield 120, 3, 0, (12, 41, 16, 2, 30, 0)), (34, .iload_n 3, 1, 0, (0, 0, 0, 0, 0, 0)), (35, .iaload, 1, 0, (13, 60, 0, 0, 0, 0)), (36, .iload_n 2, 1, 0, (0, 0, 0, 0, 0, 0)), (37, .invokestatic 334, 3, 0, (1, 2, 0, 0, 0, 0)), (40, .ifCond .ne 7, 3, 0, (0, 0, 0, 0, 0, 0)), (43, .iconst 2, 1, 0, (0, 0, 0, 0, 0, 2)), (44, .goto 17, 3, 0, (0, 0, 0, 0, 0, 0)), (47, .aload_n 0, 1, 0, (0, 0, 0, 0, 0, 0)), (48, .getfield 135, 3, 0, (12, 46, 18, 2, 7, 0)), (51, .iload_n 3, 1, 0, (0, 0, 0, 0, 0, 0)), (52, .baload, 1, 0, (15, 60, 0, 0, 0, 0)), (53, .ifCond .eq 7, 3, 0, (0, 0, 0, 0, 0, 0)), (56, .iconst 3, 1, 0, (0, 0, 0, 0, 0, 3)), (57, .goto 4, 3, 0, (0, 0, 0, 0, 0, 0)), (60, .iconst 0, 1, 0, (0, 0, 0, 0, 0, 0)), (61, .putfield 180, 3, 0, (12, 0, 0, 1, 0, 0)), (64, .aload_n 0, 1, 0, (0, 0, 0, 0, 0, 0)), (65, .getfield 180, 3, 0, (12, 0, 0, 1, 0, 0)), (68, .ifCond .eq 5, 3, 0, (0, 0, 0, 0, 0, 0)), (71, .iconst 0, 1, 0, (0, 0, 0, 0, 0, 0)), (72, .ireturn, 1, 0, (0, 0, 0, 0, 0, 0)), (73, .aload_n 0, 1, 0, (0, 0, 0, 0, 0, 0)), (74, .getfield 129, 3, 0, (12, 44, 16, 2, 33, 0)), (77, .iload_n 3, 1, 0, (0, 0, 0, 0, 0, 0)), (78, .iaload, 1, 0, (13, 60, 0, 0, 0, 0)), (79, .istore 4, 2, 0, (0, 0, 0, 0, 0, 0)), (81, .aload_n 0, 1, 0, (0, 0, 0, 0, 0, 0)), (82, .getfield 13, 3, 0, (12, 2, 17, 2, 1, 0)), (85, .aload_n 0, 1, 0, (0, 0, 0, 0, 0, 0)), (86, .getfield 123, 3, 0, (12, 42, 16, 2, 31, 0)), (89, .iload_n 3, 1, 0, (0, 0, 0, 0, 0, 0)), (90, .iaload, 1, 0, (13, 60, 0, 0, 0, 0)), (91, .dup2, 1, 0, (0, 0, 0, 0, 0, 0)), (92, .laload, 1, 0, (14, 9, 0, 0, 0, 0)), (93, .aload_n 0, 1, 0, (0, 0, 0, 0, 0, 0)), (94, .getfield 132, 3, 0, (12, 45, 16, 2, 34, 0)), (97, .iload_n 3, 1, 0, (0, 0, 0, 0, 0, 0)), (98, .iaload, 1, 0, (13, 60, 0, 0, 0, 0)), (99, .i2l, 1, 0, (0, 0, 0, 0, 0, 0)), (100, .iload_n 2, 1, 0, (0, 0, 0, 0, 0, 0)), (101, .iload 4, 2, 0, (0, 0, 0, 0, 0, 0)), (103, .isub, 1, 0, (0, 0, 0, 0, 0, 0)), (104, .i2l, 1, 0, (0, 0, 0, 0, 0, 0)), (105, .lmul, 1, 0, (0, 0, 0, 0, 0, 0)), (106, .lsub, 1, 0, (0, 0, 0, 0, 0, 0)), (107, .lastore, 1, 0, (14, 9, 0, 0, 0, 0)), (108, .aload_n 0, 1, 0, (0, 0, 0, 0, 0, 0)), (109, .getfield 13, 3, 0, (12, 2, 17, 2, 1, 0)), (112, .aload_n 0, 1, 0, (0, 0, 0, 0, 0, 0)), (113, .getfield 126, 3, 0, (12, 43, 16, 2, 32, 0)), (116, .iload_n 3, 1, 0, (0, 0, 0, 0, 0, 0)), (117, .iaload, 1, 0, (13, 60, 0, 0, 0, 0)), (118, .dup2, 1, 0, (0, 0, 0, 0, 0, 0)), (119, .laload, 1, 0, (14, 9, 0, 0, 0, 0)), (120, .aload_n 0, 1, 0, (0, 0, 0, 0, 0, 0)), (121, .getfield 132, 3, 0, (12, 45, 16, 2, 34, 0)), (124, .iload_n 3, 1, 0, (0, 0, 0, 0, 0, 0)), (125, .iaload, 1, 0, (13, 60, 0, 0, 0, 0)), (126, .i2l, 1, 0, (0, 0, 0, 0, 0, 0)), (127, .iload_n 2, 1, 0, (0, 0, 0, 0, 0, 0)), (128, .iload 4, 2, 0, (0, 0, 0, 0, 0, 0)), (130, .isub, 1, 0, (0, 0, 0, 0, 0, 0)), (131, .i2l, 1, 0, (0, 0, 0, 0, 0, 0)), (132, .lmul, 1, 0, (0, 0, 0, 0, 0, 0)), (133, .ladd, 1, 0, (0, 0, 0, 0, 0, 0)), (134, .lastore, 1, 0, (14, 9, 0, 0, 0, 0)), (135, .aload_n 0, 1, 0, (0, 0, 0, 0, 0, 0)), (136, .getfield 129, 3, 0, (12, 44, 16, 2, 33, 0)), (139, .iload_n 3, 1, 0, (0, 0, 0, 0, 0, 0)), (140, .iload_n 2, 1, 0, (0, 0, 0, 0, 0, 0)), (141, .iastore, 1, 0, (13, 60, 0, 0, 0, 0)), (142, .aload_n 0, 1, 0, (0, 0, 0, 0, 0, 0)), (143, .getfield 45, 3, 0, (12, 12, 16, 2, 10, 0)), (146, .aload_n 0, 1, 0, (0, 0, 0, 0, 0, 0)), (147, .getfield 120, 3, 0, (12, 41, 16, 2, 30, 0)), (150, .iload_n 3, 1, 0, (0, 0, 0, 0, 0, 0)), (151, .iaload, 1, 0, (13, 60, 0, 0, 0, 0)), (152, .aload_n 0, 1, 0, (0, 0, 0, 0, 0, 0)), (153, .aload_n 0, 1, 0, (0, 0, 0, 0, 0, 0)), (154, .getfield 120, 3, 0, (12, 41, 16, 2, 30, 0)), (157, .iload_n 3, 1, 0, (0, 0, 0, 0, 0, 0)), (158, .iaload, 1, 0, (13, 60, 0, 0, 0, 0)), (159, .invokevirtual 362, 3, 0, (2, 2, 0, 0, 1, 0)), (162, .iload_n 1, 1, 0, (0, 0, 0, 0, 0, 0)), (163, .if_icmp .ne 7, 3, 0, (0, 0, 0, 0, 0, 0)), (166, .iload_n 2, 1, 0, (0, 0, 0, 0, 0, 0)), (167, .goto 14, 3, 0, (0, 0, 0, 0, 0, 0)), (170, .aload_n 0, 1, 0, (0, 0, 0, 0, 0, 0)), (171, .getfield 45, 3, 0, (12, 12, 16, 2, 10, 0)), (174, .aload_n 0, 1, 0, (0, 0, 0, 0, 0, 0)), (175, .getfield 120, 3, 0, (12, 41, 16, 2, 30, 0)), (178, .iload_n 3, 1, 0, (0, 0, 0, 0, 0, 0)), (179, .iaload, 1, 0, (13, 60, 0, 0, 0, 0)), (180, .iaload, 1, 0, (13, 6, 0, 0, 0, 0)), (181, .iastore, 1, 0, (13, 6, 0, 0, 0, 0)), (182, .iload 4, 2, 0, (0, 0, 0, 0, 0, 0)), (184, .ireturn, 1, 0, (0, 0, 0, 0, 0, 0))]
set_option maxRecDepth 100000 in
theorem rk298 : R298.all (rok 2 298 1 [(234, [15, 0]), (219, [0, 0]), (235, [15, 0])]) = true := by decide +kernel
set_option maxRecDepth 100000 in
theorem tab298 {F234 : PM → Int32 → Int32} {G234 : PM → Int32 → Prop} {F219 : PM → Int32 → Int32 → Int32} {G219 : PM → Int32 → Int32 → Prop} {F235 : PM → Int32 → Int32} {G235 : PM → Int32 → Prop} : TabOK 2 298 1 [CC234 F234 G234, CC219 F219 G219, CC235 F235 G235] R298 := tab_ok (K := K298) rfl rfl (fun h => d298 h) rk298 (by decide +kernel)
set_option maxRecDepth 100000 in
theorem pc298 : cutpc [16] R298 = true := by decide +kernel
set_option maxRecDepth 100000 in
theorem r12_doAdjust_16 (F234 : PM → Int32 → Int32) (G234 : PM → Int32 → Prop) (o234 : CalOK 2 (CC234 F234 G234)) (F219 : PM → Int32 → Int32 → Int32) (G219 : PM → Int32 → Int32 → Prop) (o219 : CalOK 2 (CC219 F219 G219)) (F235 : PM → Int32 → Int32) (G235 : PM → Int32 → Prop) (o235 : CalOK 2 (CC235 F235 G235)) : ∀ (p : PM) (v1 : Int32) (v2 : Int32) (s0 : Int32) (d3 d4 : ZV), Gr 2 p → bg12_doAdjust_16 F219 G219 F234 G234 F235 G235 p v1 v2 s0 → ZJ 2 298 16 [zR 12 1, zI v1, zI v2, d3, d4] [zI s0] p (hwI (bv12_doAdjust_16 F219 F234 F235 p v1 v2 s0)) := by
  intro p v1 v2 s0 d3 d4 hg H
  exact rwI (n := 3000) (q := 16) (la := [zR 12 1, zI v1, zI v2, d3, d4]) (sa := [zI s0]) (ks := [fun _ _ s => (0, s)]) (gs := [fun _ _ _ => False]) (fcons o234 (fcons o219 (fcons o235 (fnil)))) tab298 pc298 ⟨fun _ _ _ _ H => H.elim, trivial⟩ hg H
theorem t12_doAdjust_16 : ∀ (p : PM) (v1 : Int32) (v2 : Int32) (s0 : Int32) (d3 d4 : ZV), Gr 2 p → g12_doAdjust_16 p v1 v2 s0 → ZJ 2 298 16 [zR 12 1, zI v1, zI v2, d3, d4] [zI s0] p (hwI (v12_doAdjust_16 p v1 v2 s0)) := r12_doAdjust_16 v12_isKept g12_isKept ok234 v12_isPrice g12_isPrice ok219 v12_latest g12_latest ok235
set_option maxRecDepth 100000 in
theorem r12_doAdjust (F234 : PM → Int32 → Int32) (G234 : PM → Int32 → Prop) (o234 : CalOK 2 (CC234 F234 G234)) (F219 : PM → Int32 → Int32 → Int32) (G219 : PM → Int32 → Int32 → Prop) (o219 : CalOK 2 (CC219 F219 G219)) (F235 : PM → Int32 → Int32) (G235 : PM → Int32 → Prop) (o235 : CalOK 2 (CC235 F235 G235)) (kv16 : PM → Int32 → Int32 → Int32 → Int32 × PM) (kg16 : PM → Int32 → Int32 → Int32 → Prop) (hk16 : ∀ (p : PM) (v1 : Int32) (v2 : Int32) (s0 : Int32) (d3 d4 : ZV), Gr 2 p → kg16 p v1 v2 s0 → ZJ 2 298 16 [zR 12 1, zI v1, zI v2, d3, d4] [zI s0] p (hwI (kv16 p v1 v2 s0))) : ∀ (p : PM) (v1 : Int32) (v2 : Int32), Gr 2 p → bg12_doAdjust F234 G234 kg16 p v1 v2 → ZJ 2 298 0 [zR 12 1, zI v1, zI v2, zJ, zJ] [] p (hwI (bv12_doAdjust F234 kv16 p v1 v2)) := by
  intro p v1 v2  hg H
  exact rwI (n := 3000) (q := 0) (la := [zR 12 1, zI v1, zI v2, zJ, zJ]) (sa := []) (ks := [fun la sa s => kv16 s (ai la 1) (ai la 2) (ai sa 0)]) (gs := [fun la sa s => zsw (tc2 la [(112, 1), (0, 0), (0, 0), (2, 0), (2, 0)] && tc2 sa [(0, 0)]) False (kg16 s (ai la 1) (ai la 2) (ai sa 0))]) (fcons o234 (fcons o219 (fcons o235 (fnil)))) tab298 pc298 ⟨fun la sa s hg H => zcut H fun H => hk16 s (ai la 1) (ai la 2) (ai sa 0) (zld la 3) (zld la 4) hg H, trivial⟩ hg H
theorem t12_doAdjust : ∀ (p : PM) (v1 : Int32) (v2 : Int32), Gr 2 p → g12_doAdjust p v1 v2 → ZJ 2 298 0 [zR 12 1, zI v1, zI v2, zJ, zJ] [] p (hwI (v12_doAdjust p v1 v2)) := r12_doAdjust v12_isKept g12_isKept ok234 v12_isPrice g12_isPrice ok219 v12_latest g12_latest ok235 (v12_doAdjust_16) (g12_doAdjust_16) (t12_doAdjust_16)
def CC298 (F : PM → Int32 → Int32 → Int32 × PM) (G : PM → Int32 → Int32 → Prop) : Cal := (298, [15, 0, 0], 1, false, fun as p => (zI (F p (ai as 1) (ai as 2)).1, (F p (ai as 1) (ai as 2)).2), fun as p => zsw (tc2 as [(112, 1), (0, 0), (0, 0)]) False (G p (ai as 1) (ai as 2)))
set_option maxRecDepth 100000 in
theorem okr298 (F : PM → Int32 → Int32 → Int32 × PM) (G : PM → Int32 → Int32 → Prop) (h : ∀ (p : PM) (v1 : Int32) (v2 : Int32), Gr 2 p → G p v1 v2 → ZJ 2 298 0 [zR 12 1, zI v1, zI v2, zJ, zJ] [] p (hwI (F p v1 v2))) : CalOK 2 (CC298 F G) := cal_ok (m := 5) (by unfold mL; rw [mX_298]) (fun as p hg H => h p (ai as 1) (ai as 2) hg H)
theorem ok298 : CalOK 2 (CC298 v12_doAdjust g12_doAdjust) := okr298 v12_doAdjust g12_doAdjust t12_doAdjust
noncomputable def bv12_doGiveUp_108 (F296 : PM → Int32 → Int32 → Int32 → PM) (p : PM) (v2 : Int32) (v3 : Int32) (v4 : Int32) (s0 : Int32) : Int32 × PM :=
  if v2 = 0 then (
    let x1 : Int32 := (-(p.1 13 34 (v4).toNatClampNeg))
    let p2 : PM := F296 p s0 v4 (-x1)
    let p3 : PM := F296 p2 v3 v4 x1
    if v2 = 0 then (
      let p4 : PM := pI p3 13 31 (v4).toNatClampNeg (p3.1 13 31 (v4).toNatClampNeg)
      if v2 = 0 then (
        let p5 : PM := pI p4 13 32 (v4).toNatClampNeg v3
        (s0, p5))
      else (
        let p6 : PM := pI p4 13 32 (v4).toNatClampNeg (p4.1 13 32 (v4).toNatClampNeg)
        (s0, p6)))
    else (
      let p7 : PM := pI p3 13 31 (v4).toNatClampNeg v3
      if v2 = 0 then (
        let p8 : PM := pI p7 13 32 (v4).toNatClampNeg v3
        (s0, p8))
      else (
        let p9 : PM := pI p7 13 32 (v4).toNatClampNeg (p7.1 13 32 (v4).toNatClampNeg)
        (s0, p9))))
  else (
    let x10 : Int32 := (p.1 13 34 (v4).toNatClampNeg)
    let p11 : PM := F296 p s0 v4 (-x10)
    let p12 : PM := F296 p11 v3 v4 x10
    if v2 = 0 then (
      let p13 : PM := pI p12 13 31 (v4).toNatClampNeg (p12.1 13 31 (v4).toNatClampNeg)
      if v2 = 0 then (
        let p14 : PM := pI p13 13 32 (v4).toNatClampNeg v3
        (s0, p14))
      else (
        let p15 : PM := pI p13 13 32 (v4).toNatClampNeg (p13.1 13 32 (v4).toNatClampNeg)
        (s0, p15)))
    else (
      let p16 : PM := pI p12 13 31 (v4).toNatClampNeg v3
      if v2 = 0 then (
        let p17 : PM := pI p16 13 32 (v4).toNatClampNeg v3
        (s0, p17))
      else (
        let p18 : PM := pI p16 13 32 (v4).toNatClampNeg (p16.1 13 32 (v4).toNatClampNeg)
        (s0, p18))))
noncomputable def v12_doGiveUp_108 (p : PM) (v2 : Int32) (v3 : Int32) (v4 : Int32) (s0 : Int32) : Int32 × PM := bv12_doGiveUp_108 v12_undoes p v2 v3 v4 s0
noncomputable def bg12_doGiveUp_108 (F296 : PM → Int32 → Int32 → Int32 → PM) (G296 : PM → Int32 → Int32 → Int32 → Prop) (p : PM) (v2 : Int32) (v3 : Int32) (v4 : Int32) (s0 : Int32) : Prop :=
  if v2 = 0 then (
    (inb v4 60) ∧ (
    let x1 : Int32 := (-(p.1 13 34 (v4).toNatClampNeg))
    (G296 p s0 v4 (-x1)) ∧ (
    let p2 : PM := F296 p s0 v4 (-x1)
    (G296 p2 v3 v4 x1) ∧ (
    let p3 : PM := F296 p2 v3 v4 x1
    if v2 = 0 then (
      (inb v4 60) ∧ (
      (inb v4 60) ∧ (
      let p4 : PM := pI p3 13 31 (v4).toNatClampNeg (p3.1 13 31 (v4).toNatClampNeg)
      if v2 = 0 then (
        (inb v4 60) ∧ (
        let p5 : PM := pI p4 13 32 (v4).toNatClampNeg v3
        True))
      else (
        (inb v4 60) ∧ (
        (inb v4 60) ∧ (
        let p6 : PM := pI p4 13 32 (v4).toNatClampNeg (p4.1 13 32 (v4).toNatClampNeg)
        True))))))
    else (
      (inb v4 60) ∧ (
      let p7 : PM := pI p3 13 31 (v4).toNatClampNeg v3
      if v2 = 0 then (
        (inb v4 60) ∧ (
        let p8 : PM := pI p7 13 32 (v4).toNatClampNeg v3
        True))
      else (
        (inb v4 60) ∧ (
        (inb v4 60) ∧ (
        let p9 : PM := pI p7 13 32 (v4).toNatClampNeg (p7.1 13 32 (v4).toNatClampNeg)
        True)))))))))
  else (
    (inb v4 60) ∧ (
    let x10 : Int32 := (p.1 13 34 (v4).toNatClampNeg)
    (G296 p s0 v4 (-x10)) ∧ (
    let p11 : PM := F296 p s0 v4 (-x10)
    (G296 p11 v3 v4 x10) ∧ (
    let p12 : PM := F296 p11 v3 v4 x10
    if v2 = 0 then (
      (inb v4 60) ∧ (
      (inb v4 60) ∧ (
      let p13 : PM := pI p12 13 31 (v4).toNatClampNeg (p12.1 13 31 (v4).toNatClampNeg)
      if v2 = 0 then (
        (inb v4 60) ∧ (
        let p14 : PM := pI p13 13 32 (v4).toNatClampNeg v3
        True))
      else (
        (inb v4 60) ∧ (
        (inb v4 60) ∧ (
        let p15 : PM := pI p13 13 32 (v4).toNatClampNeg (p13.1 13 32 (v4).toNatClampNeg)
        True))))))
    else (
      (inb v4 60) ∧ (
      let p16 : PM := pI p12 13 31 (v4).toNatClampNeg v3
      if v2 = 0 then (
        (inb v4 60) ∧ (
        let p17 : PM := pI p16 13 32 (v4).toNatClampNeg v3
        True))
      else (
        (inb v4 60) ∧ (
        (inb v4 60) ∧ (
        let p18 : PM := pI p16 13 32 (v4).toNatClampNeg (p16.1 13 32 (v4).toNatClampNeg)
        True)))))))))
noncomputable def g12_doGiveUp_108 (p : PM) (v2 : Int32) (v3 : Int32) (v4 : Int32) (s0 : Int32) : Prop := bg12_doGiveUp_108 v12_undoes g12_undoes p v2 v3 v4 s0
noncomputable def bv12_doGiveUp_70 (kv108 : PM → Int32 → Int32 → Int32 → Int32 → Int32 × PM) (p : PM) (v2 : Int32) (v3 : Int32) (v4 : Int32) : Int32 × PM :=
  let p1 : PM := pI p 12 1 0 (cn 2)
  if (p1.1 12 1 0) = 0 then (
    if v2 = 0 then (
      kv108 p1 v2 v3 v4 (p1.1 13 32 (v4).toNatClampNeg))
    else (
      kv108 p1 v2 v3 v4 (p1.1 13 31 (v4).toNatClampNeg)))
  else (
    ((cn 0), p1))
noncomputable def v12_doGiveUp_70 (p : PM) (v2 : Int32) (v3 : Int32) (v4 : Int32) : Int32 × PM := bv12_doGiveUp_70 v12_doGiveUp_108 p v2 v3 v4
noncomputable def bg12_doGiveUp_70 (kg108 : PM → Int32 → Int32 → Int32 → Int32 → Prop) (p : PM) (v2 : Int32) (v3 : Int32) (v4 : Int32) : Prop :=
  let p1 : PM := pI p 12 1 0 (cn 2)
  if (p1.1 12 1 0) = 0 then (
    if v2 = 0 then (
      (inb v4 60) ∧ (
      kg108 p1 v2 v3 v4 (p1.1 13 32 (v4).toNatClampNeg)))
    else (
      (inb v4 60) ∧ (
      kg108 p1 v2 v3 v4 (p1.1 13 31 (v4).toNatClampNeg))))
  else (
    True)
noncomputable def g12_doGiveUp_70 (p : PM) (v2 : Int32) (v3 : Int32) (v4 : Int32) : Prop := bg12_doGiveUp_70 g12_doGiveUp_108 p v2 v3 v4
noncomputable def bv12_doGiveUp_16 (F234 : PM → Int32 → Int32) (F280 : PM → Int32 → Int32) (kv70 : PM → Int32 → Int32 → Int32 → Int32 × PM) (kv108 : PM → Int32 → Int32 → Int32 → Int32 → Int32 × PM) (p : PM) (v1 : Int32) (v2 : Int32) (v3 : Int32) (s0 : Int32) : Int32 × PM :=
  if (F234 p v1) = 0 then (
    let p1 : PM := pI p 12 1 0 (cn 1)
    if (p1.1 12 1 0) = 0 then (
      if v2 = 0 then (
        kv108 p1 v2 v3 s0 (p1.1 13 32 (s0).toNatClampNeg))
      else (
        kv108 p1 v2 v3 s0 (p1.1 13 31 (s0).toNatClampNeg)))
    else (
      ((cn 0), p1)))
  else (
    if (F280 p v3) = 0 then (
      let p3 : PM := pI p 12 1 0 (cn 1)
      if (p3.1 12 1 0) = 0 then (
        if v2 = 0 then (
          kv108 p3 v2 v3 s0 (p3.1 13 32 (s0).toNatClampNeg))
        else (
          kv108 p3 v2 v3 s0 (p3.1 13 31 (s0).toNatClampNeg)))
      else (
        ((cn 0), p3)))
    else (
      if (p.1 15 7 (s0).toNatClampNeg) = 0 then (
        if (p.1 13 31 (s0).toNatClampNeg) = v3 then (
          kv70 p v2 v3 s0)
        else (
          if (p.1 13 32 (s0).toNatClampNeg) = v3 then (
            kv70 p v2 v3 s0)
          else (
            let p2 : PM := pI p 12 1 0 (cn 0)
            if (p2.1 12 1 0) = 0 then (
              if v2 = 0 then (
                kv108 p2 v2 v3 s0 (p2.1 13 32 (s0).toNatClampNeg))
              else (
                kv108 p2 v2 v3 s0 (p2.1 13 31 (s0).toNatClampNeg)))
            else (
              ((cn 0), p2)))))
      else (
        kv70 p v2 v3 s0)))
noncomputable def v12_doGiveUp_16 (p : PM) (v1 : Int32) (v2 : Int32) (v3 : Int32) (s0 : Int32) : Int32 × PM := bv12_doGiveUp_16 v12_isKept v12_isAccount v12_doGiveUp_70 v12_doGiveUp_108 p v1 v2 v3 s0
noncomputable def bg12_doGiveUp_16 (F234 : PM → Int32 → Int32) (G234 : PM → Int32 → Prop) (F280 : PM → Int32 → Int32) (G280 : PM → Int32 → Prop) (kg70 : PM → Int32 → Int32 → Int32 → Prop) (kg108 : PM → Int32 → Int32 → Int32 → Int32 → Prop) (p : PM) (v1 : Int32) (v2 : Int32) (v3 : Int32) (s0 : Int32) : Prop :=
  (G234 p v1) ∧ (
  if (F234 p v1) = 0 then (
    let p1 : PM := pI p 12 1 0 (cn 1)
    if (p1.1 12 1 0) = 0 then (
      if v2 = 0 then (
        (inb s0 60) ∧ (
        kg108 p1 v2 v3 s0 (p1.1 13 32 (s0).toNatClampNeg)))
      else (
        (inb s0 60) ∧ (
        kg108 p1 v2 v3 s0 (p1.1 13 31 (s0).toNatClampNeg))))
    else (
      True))
  else (
    (G280 p v3) ∧ (
    if (F280 p v3) = 0 then (
      let p3 : PM := pI p 12 1 0 (cn 1)
      if (p3.1 12 1 0) = 0 then (
        if v2 = 0 then (
          (inb s0 60) ∧ (
          kg108 p3 v2 v3 s0 (p3.1 13 32 (s0).toNatClampNeg)))
        else (
          (inb s0 60) ∧ (
          kg108 p3 v2 v3 s0 (p3.1 13 31 (s0).toNatClampNeg))))
      else (
        True))
    else (
      (inb s0 60) ∧ (
      if (p.1 15 7 (s0).toNatClampNeg) = 0 then (
        (inb s0 60) ∧ (
        if (p.1 13 31 (s0).toNatClampNeg) = v3 then (
          kg70 p v2 v3 s0)
        else (
          (inb s0 60) ∧ (
          if (p.1 13 32 (s0).toNatClampNeg) = v3 then (
            kg70 p v2 v3 s0)
          else (
            let p2 : PM := pI p 12 1 0 (cn 0)
            if (p2.1 12 1 0) = 0 then (
              if v2 = 0 then (
                (inb s0 60) ∧ (
                kg108 p2 v2 v3 s0 (p2.1 13 32 (s0).toNatClampNeg)))
              else (
                (inb s0 60) ∧ (
                kg108 p2 v2 v3 s0 (p2.1 13 31 (s0).toNatClampNeg))))
            else (
              True))))))
      else (
        kg70 p v2 v3 s0))))))
noncomputable def g12_doGiveUp_16 (p : PM) (v1 : Int32) (v2 : Int32) (v3 : Int32) (s0 : Int32) : Prop := bg12_doGiveUp_16 v12_isKept g12_isKept v12_isAccount g12_isAccount g12_doGiveUp_70 g12_doGiveUp_108 p v1 v2 v3 s0
noncomputable def bv12_doGiveUp (F234 : PM → Int32 → Int32) (kv16 : PM → Int32 → Int32 → Int32 → Int32 → Int32 × PM) (p : PM) (v1 : Int32) (v2 : Int32) (v3 : Int32) : Int32 × PM :=
  if (F234 p v1) = 0 then (
    kv16 p v1 v2 v3 (cn 0))
  else (
    kv16 p v1 v2 v3 (irm v1 (cn 60)))
noncomputable def v12_doGiveUp (p : PM) (v1 : Int32) (v2 : Int32) (v3 : Int32) : Int32 × PM := bv12_doGiveUp v12_isKept v12_doGiveUp_16 p v1 v2 v3
noncomputable def bg12_doGiveUp (F234 : PM → Int32 → Int32) (G234 : PM → Int32 → Prop) (kg16 : PM → Int32 → Int32 → Int32 → Int32 → Prop) (p : PM) (v1 : Int32) (v2 : Int32) (v3 : Int32) : Prop :=
  (G234 p v1) ∧ (
  if (F234 p v1) = 0 then (
    kg16 p v1 v2 v3 (cn 0))
  else (
    kg16 p v1 v2 v3 (irm v1 (cn 60))))
noncomputable def g12_doGiveUp (p : PM) (v1 : Int32) (v2 : Int32) (v3 : Int32) : Prop := bg12_doGiveUp v12_isKept g12_isKept g12_doGiveUp_16 p v1 v2 v3
def R299 : List Row := [(0, .aload_n 0, 1, 0, (0, 0, 0, 0, 0, 0)), (1, .iload_n 1, 1, 0, (0, 0, 0, 0, 0, 0)), (2, .invokevirtual 240, 3, 0, (0, 2, 0, 0, 1, 0)), (5, .ifCond .eq 10, 3, 0, (0, 0, 0, 0, 0, 0)), (8, .iload_n 1, 1, 0, (0, 0, 0, 0, 0, 0)), (9, .bipush 60, 2, 0, (0, 0, 0, 0, 0, 60)), (11, .irem, 1, 0, (0, 0, 0, 0, 0, 0)), (12, .goto 4, 3, 0, (0, 0, 0, 0, 0, 0)), (15, .iconst 0, 1, 0, (0, 0, 0, 0, 0, 0)), (16, .istore 4, 2, 1, (0, 0, 0, 0, 0, 0)), (18, .aload_n 0, 1, 0, (0, 0, 0, 0, 0, 0)), (19, .aload_n 0, 1, 0, (0, 0, 0, 0, 0, 0)), (20, .iload_n 1, 1, 0, (0, 0, 0, 0, 0, 0)), (21, .invokevirtual 240, 3, 0, (0, 2, 0, 0, 1, 0)), (24, .ifCond .eq 10, 3, 0, (0, 0, 0, 0, 0, 0)), (27, .iload_n 3, 1, 0, (0, 0, 0, 0, 0, 0)), (28, .invokestatic 429, 3, 0, (1, 1, 0, 0, 0, 0)), (31, .ifCond .ne 7, 3, 0, (0, 0, 0, 0, 0, 0)), (34, .iconst 1, 1, 0, (0, 0, 0, 0, 0, 1)), (35, .goto 40, 3, 0, (0, 0, 0, 0, 0, 0)), (38, .aload_n 0, 1, 0, (0, 0, 0, 0, 0, 0)), (39, .getfield 135, 3, 0, (12, 46, 18, 2, 7, 0)), (42, .iload 4, 2, 0, (0, 0, 0, 0, 0, 0)), (44, .baload, 1, 0, (15, 60, 0, 0, 0, 0)), (45, .ifCond .ne 25, 3, 0, (0, 0, 0, 0, 0, 0)), (48, .aload_n 0, 1, 0, (0, 0, 0, 0, 0, 0)), (49, .getfield 123, 3, 0, (12, 42, 16, 2, 31, 0)), (52, .iload 4, 2, 0, (0, 0, 0, 0, 0, 0)), (54, .iaload, 1, 0, (13, 60, 0, 0, 0, 0)), (55, .iload_n 3, 1, 0, (0, 0, 0, 0, 0, 0)), (56, .if_icmp .eq 14, 3, 0, (0, 0, 0, 0, 0, 0)), (59, .aload_n 0, 1, 0, (0, 0, 0, 0, 0, 0)), (60, .getfield 126, 3, 0, (12, 43, 16, 2, 32, 0)), (63, .iload 4, 2, 0, (0, 0, 0, 0, 0, 0)), (65, .iaload, 1, 0, (13, 60, 0, 0, 0, 0)), (66, .iload_n 3, 1, 0, (0, 0, 0, 0, 0, 0)), (67, .if_icmp .ne 7, 3, 0, (0, 0, 0, 0, 0, 0)), (70, .iconst 2, 1, 2, (0, 0, 0, 0, 0, 2)), (71, .goto 4, 3, 0, (0, 0, 0, 0, 0, 0)), (74, .iconst 0, 1, 0, (0, 0, 0, 0, 0, 0)), (75, .putfield 180, 3, 0, (12, 0, 0, 1, 0, 0)), (78, .aload_n 0, 1, 0, (0, 0, 0, 0, 0, 0)), (79, .getfield 180, 3, 0, (12, 0, 0, 1, 0, 0)), (82, .ifCond .eq 5, 3, 0, (0, 0, 0, 0, 0, 0)), (85, .iconst 0, 1, 0, (0, 0, 0, 0, 0, 0)), (86, .ireturn, 1, 0, (0, 0, 0, 0, 0, 0)), (87, .iload_n 2, 1, 0, (0, 0, 0, 0, 0, 0)), (88, .ifCond .eq 13, 3, 0, (0, 0, 0, 0, 0, 0)), (91, .aload_n 0, 1, 0, (0, 0, 0, 0, 0, 0)), (92, .getfield 123, 3, 0, (12, 42, 16, 2, 31, 0)), (95, .iload 4, 2, 0, (0, 0, 0, 0, 0, 0)), (97, .iaload, 1, 0, (13, 60, 0, 0, 0, 0)), (98, .goto 10, 3, 0, (0, 0, 0, 0, 0, 0)), (101, .aload_n 0, 1, 0, (0, 0, 0, 0, 0, 0)), (102, .getfield 126, 3, 0, (12, 43, 16, 2, 32, 0)), (105, .iload 4, 2, 0, (0, 0, 0, 0, 0, 0)), (107, .iaload, 1, 0, (13, 60, 0, 0, 0, 0)), (108, .istore 5, 2, 3, (0, 0, 0, 0, 0, 0)), (110, .iload_n 2, 1, 0, (0, 0, 0, 0, 0, 0)), (111, .ifCond .eq 13, 3, 0, (0, 0, 0, 0, 0, 0)), (114, .aload_n 0, 1, 0, (0, 0, 0, 0, 0, 0)), (115, .getfield 132, 3, 0, (12, 45, 16, 2, 34, 0)), (118, .iload 4, 2, 0, (0, 0, 0, 0, 0, 0)), (120, .iaload, 1, 0, (13, 60, 0, 0, 0, 0)), (121, .goto 11, 3, 0, (0, 0, 0, 0, 0, 0)), (124, .aload_n 0, 1, 0, (0, 0, 0, 0, 0, 0)), (125, .getfield 132, 3, 0, (12, 45, 16, 2, 34, 0)), (128, .iload 4, 2, 0, (0, 0, 0, 0, 0, 0)), (130, .iaload, 1, 0, (13, 60, 0, 0, 0, 0)), (131, .ineg, 1, 0, (0, 0, 0, 0, 0, 0)), (132, .istore 6, 2, 0, (0, 0, 0, 0, 0, 0)), (134, .aload_n 0, 1, 0, (0, 0, 0, 0, 0, 0)), (135, .iload 5, 2, 0, (0, 0, 0, 0, 0, 0)), (137, .iload 4, 2, 0, (0, 0, 0, 0, 0, 0)), (139, .iload 6, 2, 0, (0, 0, 0, 0, 0, 0)), (141, .ineg, 1, 0, (0, 0, 0, 0, 0, 0)), (142, .invokevirtual 455, 3, 0, (2, 4, 0, 0, 1, 0)), (145, .aload_n 0, 1, 0, (0, 0, 0, 0, 0, 0)), (146, .iload_n 3, 1, 0, (0, 0, 0, 0, 0, 0)), (147, .iload 4, 2, 0, (0, 0, 0, 0, 0, 0)), (149, .iload 6, 2, 0, (0, 0, 0, 0, 0, 0)), (151, .invokevirtual 455, 3, 0, (2, 4, 0, 0, 1, 0)), (154, .aload_n 0, 1, 0, (0, 0, 0, 0, 0, 0)), (155, .getfield 123, 3, 0, (12, 42, 16, 2, 31, 0)), (158, .iload 4, 2, 0, (0, 0, 0, 0, 0, 0)), (160, .iload_n 2, 1, 0, (0, 0, 0, 0, 0, 0)), (161, .ifCond .eq 7, 3, 0, (0, 0, 0, 0, 0, 0)), (164, .iload_n 3, 1, 0, (0, 0, 0, 0, 0, 0)), (165, .goto 10, 3, 0, (0, 0, 0, 0, 0, 0)), (168, .aload_n 0, 1, 0, (0, 0, 0, 0, 0, 0)), (169, .getfield 123, 3, 0, (12, 42, 16, 2, 31, 0)), (172, .iload 4, 2, 0, (0, 0, 0, 0, 0, 0)), (174, .iaload, 1, 0, (13, 60, 0, 0, 0, 0)), (175, .iastore, 1, 0, (13, 60, 0, 0, 0, 0)), (176, .aload_n 0, 1, 0, (0, 0, 0, 0, 0, 0)), (177, .getfield 126, 3, 0, (12, 43, 16, 2, 32, 0)), (180, .iload 4, 2, 0, (0, 0, 0, 0, 0, 0)), (182, .iload_n 2, 1, 0, (0, 0, 0, 0, 0, 0)), (183, .ifCond .eq 13, 3, 0, (0, 0, 0, 0, 0, 0)), (186, .aload_n 0, 1, 0, (0, 0, 0, 0, 0, 0)), (187, .getfield 126, 3, 0, (12, 43, 16, 2, 32, 0)), (190, .iload 4, 2, 0, (0, 0, 0, 0, 0, 0)), (192, .iaload, 1, 0, (13, 60, 0, 0, 0, 0)), (193, .goto 4, 3, 0, (0, 0, 0, 0, 0, 0)), (196, .iload_n 3, 1, 0, (0, 0, 0, 0, 0, 0)), (197, .iastore, 1, 0, (13, 60, 0, 0, 0, 0)), (198, .iload 5, 2, 0, (0, 0, 0, 0, 0, 0)), (200, .ireturn, 1, 0, (0, 0, 0, 0, 0, 0))]
set_option maxRecDepth 100000 in
theorem rk299 : R299.all (rok 2 299 1 [(234, [15, 0]), (280, [0]), (296, [15, 0, 0, 0])]) = true := by decide +kernel
set_option maxRecDepth 100000 in
theorem tab299 {F234 : PM → Int32 → Int32} {G234 : PM → Int32 → Prop} {F280 : PM → Int32 → Int32} {G280 : PM → Int32 → Prop} {F296 : PM → Int32 → Int32 → Int32 → PM} {G296 : PM → Int32 → Int32 → Int32 → Prop} : TabOK 2 299 1 [CC234 F234 G234, CC280 F280 G280, CC296 F296 G296] R299 := tab_ok (K := K299) rfl rfl (fun h => d299 h) rk299 (by decide +kernel)
set_option maxRecDepth 100000 in
theorem pc299 : cutpc [16, 70, 108] R299 = true := by decide +kernel
set_option maxRecDepth 100000 in
theorem r12_doGiveUp_108 (F234 : PM → Int32 → Int32) (G234 : PM → Int32 → Prop) (o234 : CalOK 2 (CC234 F234 G234)) (F280 : PM → Int32 → Int32) (G280 : PM → Int32 → Prop) (o280 : CalOK 2 (CC280 F280 G280)) (F296 : PM → Int32 → Int32 → Int32 → PM) (G296 : PM → Int32 → Int32 → Int32 → Prop) (o296 : CalOK 2 (CC296 F296 G296)) : ∀ (p : PM) (v2 : Int32) (v3 : Int32) (v4 : Int32) (s0 : Int32) (d1 d5 d6 : ZV), Gr 2 p → bg12_doGiveUp_108 F296 G296 p v2 v3 v4 s0 → ZJ 2 299 108 [zR 12 1, d1, zI v2, zI v3, zI v4, d5, d6] [zI s0] p (hwI (bv12_doGiveUp_108 F296 p v2 v3 v4 s0)) := by
  intro p v2 v3 v4 s0 d1 d5 d6 hg H
  exact rwI (n := 3000) (q := 108) (la := [zR 12 1, d1, zI v2, zI v3, zI v4, d5, d6]) (sa := [zI s0]) (ks := [fun _ _ s => (0, s), fun _ _ s => (0, s), fun _ _ s => (0, s)]) (gs := [fun _ _ _ => False, fun _ _ _ => False, fun _ _ _ => False]) (fcons o234 (fcons o280 (fcons o296 (fnil)))) tab299 pc299 ⟨fun _ _ _ _ H => H.elim, fun _ _ _ _ H => H.elim, fun _ _ _ _ H => H.elim, trivial⟩ hg H
theorem t12_doGiveUp_108 : ∀ (p : PM) (v2 : Int32) (v3 : Int32) (v4 : Int32) (s0 : Int32) (d1 d5 d6 : ZV), Gr 2 p → g12_doGiveUp_108 p v2 v3 v4 s0 → ZJ 2 299 108 [zR 12 1, d1, zI v2, zI v3, zI v4, d5, d6] [zI s0] p (hwI (v12_doGiveUp_108 p v2 v3 v4 s0)) := r12_doGiveUp_108 v12_isKept g12_isKept ok234 v12_isAccount g12_isAccount ok280 v12_undoes g12_undoes ok296
set_option maxRecDepth 100000 in
theorem r12_doGiveUp_70 (F234 : PM → Int32 → Int32) (G234 : PM → Int32 → Prop) (o234 : CalOK 2 (CC234 F234 G234)) (F280 : PM → Int32 → Int32) (G280 : PM → Int32 → Prop) (o280 : CalOK 2 (CC280 F280 G280)) (F296 : PM → Int32 → Int32 → Int32 → PM) (G296 : PM → Int32 → Int32 → Int32 → Prop) (o296 : CalOK 2 (CC296 F296 G296)) (kv108 : PM → Int32 → Int32 → Int32 → Int32 → Int32 × PM) (kg108 : PM → Int32 → Int32 → Int32 → Int32 → Prop) (hk108 : ∀ (p : PM) (v2 : Int32) (v3 : Int32) (v4 : Int32) (s0 : Int32) (d1 d5 d6 : ZV), Gr 2 p → kg108 p v2 v3 v4 s0 → ZJ 2 299 108 [zR 12 1, d1, zI v2, zI v3, zI v4, d5, d6] [zI s0] p (hwI (kv108 p v2 v3 v4 s0))) : ∀ (p : PM) (v2 : Int32) (v3 : Int32) (v4 : Int32) (d1 d5 d6 : ZV), Gr 2 p → bg12_doGiveUp_70 kg108 p v2 v3 v4 → ZJ 2 299 70 [zR 12 1, d1, zI v2, zI v3, zI v4, d5, d6] [zR 12 1] p (hwI (bv12_doGiveUp_70 kv108 p v2 v3 v4)) := by
  intro p v2 v3 v4 d1 d5 d6 hg H
  exact rwI (n := 3000) (q := 70) (la := [zR 12 1, d1, zI v2, zI v3, zI v4, d5, d6]) (sa := [zR 12 1]) (ks := [fun _ _ s => (0, s), fun _ _ s => (0, s), fun la sa s => kv108 s (ai la 2) (ai la 3) (ai la 4) (ai sa 0)]) (gs := [fun _ _ _ => False, fun _ _ _ => False, fun la sa s => zsw (tc2 la [(112, 1), (2, 0), (0, 0), (0, 0), (0, 0), (2, 0), (2, 0)] && tc2 sa [(0, 0)]) False (kg108 s (ai la 2) (ai la 3) (ai la 4) (ai sa 0))]) (fcons o234 (fcons o280 (fcons o296 (fnil)))) tab299 pc299 ⟨fun _ _ _ _ H => H.elim, fun _ _ _ _ H => H.elim, fun la sa s hg H => zcut H fun H => hk108 s (ai la 2) (ai la 3) (ai la 4) (ai sa 0) (zld la 1) (zld la 5) (zld la 6) hg H, trivial⟩ hg H
theorem t12_doGiveUp_70 : ∀ (p : PM) (v2 : Int32) (v3 : Int32) (v4 : Int32) (d1 d5 d6 : ZV), Gr 2 p → g12_doGiveUp_70 p v2 v3 v4 → ZJ 2 299 70 [zR 12 1, d1, zI v2, zI v3, zI v4, d5, d6] [zR 12 1] p (hwI (v12_doGiveUp_70 p v2 v3 v4)) := r12_doGiveUp_70 v12_isKept g12_isKept ok234 v12_isAccount g12_isAccount ok280 v12_undoes g12_undoes ok296 (v12_doGiveUp_108) (g12_doGiveUp_108) (t12_doGiveUp_108)
set_option maxRecDepth 100000 in
theorem r12_doGiveUp_16 (F234 : PM → Int32 → Int32) (G234 : PM → Int32 → Prop) (o234 : CalOK 2 (CC234 F234 G234)) (F280 : PM → Int32 → Int32) (G280 : PM → Int32 → Prop) (o280 : CalOK 2 (CC280 F280 G280)) (F296 : PM → Int32 → Int32 → Int32 → PM) (G296 : PM → Int32 → Int32 → Int32 → Prop) (o296 : CalOK 2 (CC296 F296 G296)) (kv70 : PM → Int32 → Int32 → Int32 → Int32 × PM) (kg70 : PM → Int32 → Int32 → Int32 → Prop) (hk70 : ∀ (p : PM) (v2 : Int32) (v3 : Int32) (v4 : Int32) (d1 d5 d6 : ZV), Gr 2 p → kg70 p v2 v3 v4 → ZJ 2 299 70 [zR 12 1, d1, zI v2, zI v3, zI v4, d5, d6] [zR 12 1] p (hwI (kv70 p v2 v3 v4))) (kv108 : PM → Int32 → Int32 → Int32 → Int32 → Int32 × PM) (kg108 : PM → Int32 → Int32 → Int32 → Int32 → Prop) (hk108 : ∀ (p : PM) (v2 : Int32) (v3 : Int32) (v4 : Int32) (s0 : Int32) (d1 d5 d6 : ZV), Gr 2 p → kg108 p v2 v3 v4 s0 → ZJ 2 299 108 [zR 12 1, d1, zI v2, zI v3, zI v4, d5, d6] [zI s0] p (hwI (kv108 p v2 v3 v4 s0))) : ∀ (p : PM) (v1 : Int32) (v2 : Int32) (v3 : Int32) (s0 : Int32) (d4 d5 d6 : ZV), Gr 2 p → bg12_doGiveUp_16 F234 G234 F280 G280 kg70 kg108 p v1 v2 v3 s0 → ZJ 2 299 16 [zR 12 1, zI v1, zI v2, zI v3, d4, d5, d6] [zI s0] p (hwI (bv12_doGiveUp_16 F234 F280 kv70 kv108 p v1 v2 v3 s0)) := by
  intro p v1 v2 v3 s0 d4 d5 d6 hg H
  exact rwI (n := 3000) (q := 16) (la := [zR 12 1, zI v1, zI v2, zI v3, d4, d5, d6]) (sa := [zI s0]) (ks := [fun _ _ s => (0, s), fun la sa s => kv70 s (ai la 2) (ai la 3) (ai la 4), fun la sa s => kv108 s (ai la 2) (ai la 3) (ai la 4) (ai sa 0)]) (gs := [fun _ _ _ => False, fun la sa s => zsw (tc2 la [(112, 1), (2, 0), (0, 0), (0, 0), (0, 0), (2, 0), (2, 0)] && tc2 sa [(112, 1)]) False (kg70 s (ai la 2) (ai la 3) (ai la 4)), fun la sa s => zsw (tc2 la [(112, 1), (2, 0), (0, 0), (0, 0), (0, 0), (2, 0), (2, 0)] && tc2 sa [(0, 0)]) False (kg108 s (ai la 2) (ai la 3) (ai la 4) (ai sa 0))]) (fcons o234 (fcons o280 (fcons o296 (fnil)))) tab299 pc299 ⟨fun _ _ _ _ H => H.elim, fun la sa s hg H => zcut H fun H => hk70 s (ai la 2) (ai la 3) (ai la 4) (zld la 1) (zld la 5) (zld la 6) hg H, fun la sa s hg H => zcut H fun H => hk108 s (ai la 2) (ai la 3) (ai la 4) (ai sa 0) (zld la 1) (zld la 5) (zld la 6) hg H, trivial⟩ hg H
theorem t12_doGiveUp_16 : ∀ (p : PM) (v1 : Int32) (v2 : Int32) (v3 : Int32) (s0 : Int32) (d4 d5 d6 : ZV), Gr 2 p → g12_doGiveUp_16 p v1 v2 v3 s0 → ZJ 2 299 16 [zR 12 1, zI v1, zI v2, zI v3, d4, d5, d6] [zI s0] p (hwI (v12_doGiveUp_16 p v1 v2 v3 s0)) := r12_doGiveUp_16 v12_isKept g12_isKept ok234 v12_isAccount g12_isAccount ok280 v12_undoes g12_undoes ok296 (v12_doGiveUp_70) (g12_doGiveUp_70) (t12_doGiveUp_70) (v12_doGiveUp_108) (g12_doGiveUp_108) (t12_doGiveUp_108)
set_option maxRecDepth 100000 in
theorem r12_doGiveUp (F234 : PM → Int32 → Int32) (G234 : PM → Int32 → Prop) (o234 : CalOK 2 (CC234 F234 G234)) (F280 : PM → Int32 → Int32) (G280 : PM → Int32 → Prop) (o280 : CalOK 2 (CC280 F280 G280)) (F296 : PM → Int32 → Int32 → Int32 → PM) (G296 : PM → Int32 → Int32 → Int32 → Prop) (o296 : CalOK 2 (CC296 F296 G296)) (kv16 : PM → Int32 → Int32 → Int32 → Int32 → Int32 × PM) (kg16 : PM → Int32 → Int32 → Int32 → Int32 → Prop) (hk16 : ∀ (p : PM) (v1 : Int32) (v2 : Int32) (v3 : Int32) (s0 : Int32) (d4 d5 d6 : ZV), Gr 2 p → kg16 p v1 v2 v3 s0 → ZJ 2 299 16 [zR 12 1, zI v1, zI v2, zI v3, d4, d5, d6] [zI s0] p (hwI (kv16 p v1 v2 v3 s0))) : ∀ (p : PM) (v1 : Int32) (v2 : Int32) (v3 : Int32), Gr 2 p → bg12_doGiveUp F234 G234 kg16 p v1 v2 v3 → ZJ 2 299 0 [zR 12 1, zI v1, zI v2, zI v3, zJ, zJ, zJ] [] p (hwI (bv12_doGiveUp F234 kv16 p v1 v2 v3)) := by
  intro p v1 v2 v3  hg H
  exact rwI (n := 3000) (q := 0) (la := [zR 12 1, zI v1, zI v2, zI v3, zJ, zJ, zJ]) (sa := []) (ks := [fun la sa s => kv16 s (ai la 1) (ai la 2) (ai la 3) (ai sa 0), fun _ _ s => (0, s), fun _ _ s => (0, s)]) (gs := [fun la sa s => zsw (tc2 la [(112, 1), (0, 0), (0, 0), (0, 0), (2, 0), (2, 0), (2, 0)] && tc2 sa [(0, 0)]) False (kg16 s (ai la 1) (ai la 2) (ai la 3) (ai sa 0)), fun _ _ _ => False, fun _ _ _ => False]) (fcons o234 (fcons o280 (fcons o296 (fnil)))) tab299 pc299 ⟨fun la sa s hg H => zcut H fun H => hk16 s (ai la 1) (ai la 2) (ai la 3) (ai sa 0) (zld la 4) (zld la 5) (zld la 6) hg H, fun _ _ _ _ H => H.elim, fun _ _ _ _ H => H.elim, trivial⟩ hg H
theorem t12_doGiveUp : ∀ (p : PM) (v1 : Int32) (v2 : Int32) (v3 : Int32), Gr 2 p → g12_doGiveUp p v1 v2 v3 → ZJ 2 299 0 [zR 12 1, zI v1, zI v2, zI v3, zJ, zJ, zJ] [] p (hwI (v12_doGiveUp p v1 v2 v3)) := r12_doGiveUp v12_isKept g12_isKept ok234 v12_isAccount g12_isAccount ok280 v12_undoes g12_undoes ok296 (v12_doGiveUp_16) (g12_doGiveUp_16) (t12_doGiveUp_16)
def CC299 (F : PM → Int32 → Int32 → Int32 → Int32 × PM) (G : PM → Int32 → Int32 → Int32 → Prop) : Cal := (299, [15, 0, 0, 0], 1, false, fun as p => (zI (F p (ai as 1) (ai as 2) (ai as 3)).1, (F p (ai as 1) (ai as 2) (ai as 3)).2), fun as p => zsw (tc2 as [(112, 1), (0, 0), (0, 0), (0, 0)]) False (G p (ai as 1) (ai as 2) (ai as 3)))
set_option maxRecDepth 100000 in
theorem okr299 (F : PM → Int32 → Int32 → Int32 → Int32 × PM) (G : PM → Int32 → Int32 → Int32 → Prop) (h : ∀ (p : PM) (v1 : Int32) (v2 : Int32) (v3 : Int32), Gr 2 p → G p v1 v2 v3 → ZJ 2 299 0 [zR 12 1, zI v1, zI v2, zI v3, zJ, zJ, zJ] [] p (hwI (F p v1 v2 v3))) : CalOK 2 (CC299 F G) := cal_ok (m := 7) (by unfold mL; rw [mX_299]) (fun as p hg H => h p (ai as 1) (ai as 2) (ai as 3) hg H)
theorem ok299 : CalOK 2 (CC299 v12_doGiveUp g12_doGiveUp) := okr299 v12_doGiveUp g12_doGiveUp t12_doGiveUp
