/-! methods as functions over one part, by program (wip/p50/lift.py) -/
noncomputable def bv3_makeChain_78 (p : PM) : Int32 × PM :=
  ((cn 0), p)
noncomputable def v3_makeChain_78 (p : PM) : Int32 × PM := bv3_makeChain_78 p
noncomputable def bg3_makeChain_78 (p : PM) : Prop :=
  True
noncomputable def g3_makeChain_78 (p : PM) : Prop := bg3_makeChain_78 p
noncomputable def bv3_makeChain_167 (p : PM) : Int32 × PM :=
  ((cn 0), p)
noncomputable def v3_makeChain_167 (p : PM) : Int32 × PM := bv3_makeChain_167 p
noncomputable def bg3_makeChain_167 (p : PM) : Prop :=
  True
noncomputable def g3_makeChain_167 (p : PM) : Prop := bg3_makeChain_167 p
noncomputable def bv3_makeChain_218 (F48 : PM → Nat → Int32 → Nat → Nat → Int32) (F49 : PM → Nat → Int32 → Nat → Nat → Int32 → Int32 → PM) (F50 : PM → Nat → Nat → Nat → Nat → Int32 → PM) (F209 : PM → Int32 → Int32 → Int32) (p : PM) (v1 : Int32) (v2 : Nat) (v3 : Nat) (v4 : Nat) (v5 : Nat) (v6 : Nat) (v7 : Nat) (v8 : Nat) : Int32 × PM :=
  let x1 : Int32 := ((p.1 10 v6 7) + (p.1 10 v8 7))
  if (F48 p v2 (p.1 10 v7 7) v5 v7) = 0 then (
    if (F48 p v3 x1 v5 v6) = 0 then (
      if (F48 p v4 (p.1 10 v8 7) v6 v8) = 0 then (
        let x2 : Int32 := (F209 p (F209 p (p.1 10 v5 11) (p.1 10 v6 11)) (F209 p (p.1 10 v7 11) (p.1 10 v8 11)))
        let p3 : PM := F49 p v2 v1 v5 v7 (p.1 10 v7 7) x2
        let p4 : PM := F49 p3 v3 v1 v6 v5 x1 x2
        if v1 = 0 then (
          let p7 : PM := F49 p4 v4 (cn 1) v6 v8 (p4.1 10 v8 7) x2
          let p8 : PM := F50 p7 v5 v6 v7 v8 x2
          ((cn 1), p8))
        else (
          let p5 : PM := F49 p4 v4 (cn 0) v6 v8 (p4.1 10 v8 7) x2
          let p6 : PM := F50 p5 v5 v6 v7 v8 x2
          ((cn 1), p6)))
      else (
        ((cn 0), p)))
    else (
      ((cn 0), p)))
  else (
    ((cn 0), p))
noncomputable def v3_makeChain_218 (p : PM) (v1 : Int32) (v2 : Nat) (v3 : Nat) (v4 : Nat) (v5 : Nat) (v6 : Nat) (v7 : Nat) (v8 : Nat) : Int32 × PM := bv3_makeChain_218 v3_isBarred v3_record v3_fallTogether v14_min_7cf53 p v1 v2 v3 v4 v5 v6 v7 v8
noncomputable def bg3_makeChain_218 (F48 : PM → Nat → Int32 → Nat → Nat → Int32) (G48 : PM → Nat → Int32 → Nat → Nat → Prop) (F49 : PM → Nat → Int32 → Nat → Nat → Int32 → Int32 → PM) (G49 : PM → Nat → Int32 → Nat → Nat → Int32 → Int32 → Prop) (F50 : PM → Nat → Nat → Nat → Nat → Int32 → PM) (G50 : PM → Nat → Nat → Nat → Nat → Int32 → Prop) (F209 : PM → Int32 → Int32 → Int32) (G209 : PM → Int32 → Int32 → Prop) (p : PM) (v1 : Int32) (v2 : Nat) (v3 : Nat) (v4 : Nat) (v5 : Nat) (v6 : Nat) (v7 : Nat) (v8 : Nat) : Prop :=
  (¬ v6 = 0) ∧ (
  (¬ v8 = 0) ∧ (
  let x1 : Int32 := ((p.1 10 v6 7) + (p.1 10 v8 7))
  (¬ v7 = 0) ∧ (
  (G48 p v2 (p.1 10 v7 7) v5 v7) ∧ (
  if (F48 p v2 (p.1 10 v7 7) v5 v7) = 0 then (
    (G48 p v3 x1 v5 v6) ∧ (
    if (F48 p v3 x1 v5 v6) = 0 then (
      (¬ v8 = 0) ∧ (
      (G48 p v4 (p.1 10 v8 7) v6 v8) ∧ (
      if (F48 p v4 (p.1 10 v8 7) v6 v8) = 0 then (
        (¬ v5 = 0) ∧ (
        (¬ v6 = 0) ∧ (
        (G209 p (p.1 10 v5 11) (p.1 10 v6 11)) ∧ (
        (¬ v7 = 0) ∧ (
        (¬ v8 = 0) ∧ (
        (G209 p (p.1 10 v7 11) (p.1 10 v8 11)) ∧ (
        (G209 p (F209 p (p.1 10 v5 11) (p.1 10 v6 11)) (F209 p (p.1 10 v7 11) (p.1 10 v8 11))) ∧ (
        let x2 : Int32 := (F209 p (F209 p (p.1 10 v5 11) (p.1 10 v6 11)) (F209 p (p.1 10 v7 11) (p.1 10 v8 11)))
        (¬ v7 = 0) ∧ (
        (G49 p v2 v1 v5 v7 (p.1 10 v7 7) x2) ∧ (
        let p3 : PM := F49 p v2 v1 v5 v7 (p.1 10 v7 7) x2
        (G49 p3 v3 v1 v6 v5 x1 x2) ∧ (
        let p4 : PM := F49 p3 v3 v1 v6 v5 x1 x2
        if v1 = 0 then (
          (¬ v8 = 0) ∧ (
          (G49 p4 v4 (cn 1) v6 v8 (p4.1 10 v8 7) x2) ∧ (
          let p7 : PM := F49 p4 v4 (cn 1) v6 v8 (p4.1 10 v8 7) x2
          (G50 p7 v5 v6 v7 v8 x2) ∧ (
          let p8 : PM := F50 p7 v5 v6 v7 v8 x2
          True))))
        else (
          (¬ v8 = 0) ∧ (
          (G49 p4 v4 (cn 0) v6 v8 (p4.1 10 v8 7) x2) ∧ (
          let p5 : PM := F49 p4 v4 (cn 0) v6 v8 (p4.1 10 v8 7) x2
          (G50 p5 v5 v6 v7 v8 x2) ∧ (
          let p6 : PM := F50 p5 v5 v6 v7 v8 x2
          True)))))))))))))))
      else (
        True))))
    else (
      True)))
  else (
    True)))))
noncomputable def g3_makeChain_218 (p : PM) (v1 : Int32) (v2 : Nat) (v3 : Nat) (v4 : Nat) (v5 : Nat) (v6 : Nat) (v7 : Nat) (v8 : Nat) : Prop := bg3_makeChain_218 v3_isBarred g3_isBarred v3_record g3_record v3_fallTogether g3_fallTogether v14_min_7cf53 g14_min_7cf53 p v1 v2 v3 v4 v5 v6 v7 v8
noncomputable def bv3_makeChain_130 (F81 : PM → Nat → Int32 → Nat) (kv167 : PM → Int32 × PM) (kv218 : PM → Int32 → Nat → Nat → Nat → Nat → Nat → Nat → Nat → Int32 × PM) (p : PM) (v1 : Int32) (v2 : Nat) (v3 : Nat) (v4 : Nat) (v5 : Nat) (v6 : Nat) (s0 : Int32) (s1 : Nat) : Int32 × PM :=
  if v5 = 0 then (
    kv167 p)
  else (
    if v6 = 0 then (
      kv167 p)
    else (
      if (F81 p s1 s0) = 0 then (
        kv167 p)
      else (
        if (F81 p v4 v1) = 0 then (
          kv167 p)
        else (
          let x1 : Int32 := ((p.1 10 v5 7) + (p.1 10 v6 7))
          let x2 : Int32 := ((p.1 10 (F81 p s1 s0) 7) - (p.1 10 (F81 p v4 v1) 7))
          if v1 = 0 then (
            if x2 < x1 then (
              ((cn 0), p))
            else (
              kv218 p v1 v2 v3 v4 v5 v6 (F81 p s1 s0) (F81 p v4 v1)))
          else (
            if x1 < x2 then (
              ((cn 0), p))
            else (
              kv218 p v1 v2 v3 v4 v5 v6 (F81 p s1 s0) (F81 p v4 v1)))))))
noncomputable def v3_makeChain_130 (p : PM) (v1 : Int32) (v2 : Nat) (v3 : Nat) (v4 : Nat) (v5 : Nat) (v6 : Nat) (s0 : Int32) (s1 : Nat) : Int32 × PM := bv3_makeChain_130 v6_firstOf v3_makeChain_167 v3_makeChain_218 p v1 v2 v3 v4 v5 v6 s0 s1
noncomputable def bg3_makeChain_130 (F81 : PM → Nat → Int32 → Nat) (G81 : PM → Nat → Int32 → Prop) (kg167 : PM → Prop) (kg218 : PM → Int32 → Nat → Nat → Nat → Nat → Nat → Nat → Nat → Prop) (p : PM) (v1 : Int32) (v2 : Nat) (v3 : Nat) (v4 : Nat) (v5 : Nat) (v6 : Nat) (s0 : Int32) (s1 : Nat) : Prop :=
  (G81 p s1 s0) ∧ (
  (G81 p v4 v1) ∧ (
  if v5 = 0 then (
    kg167 p)
  else (
    if v6 = 0 then (
      kg167 p)
    else (
      if (F81 p s1 s0) = 0 then (
        kg167 p)
      else (
        if (F81 p v4 v1) = 0 then (
          kg167 p)
        else (
          (¬ v5 = 0) ∧ (
          (¬ v6 = 0) ∧ (
          let x1 : Int32 := ((p.1 10 v5 7) + (p.1 10 v6 7))
          (¬ (F81 p s1 s0) = 0) ∧ (
          (¬ (F81 p v4 v1) = 0) ∧ (
          let x2 : Int32 := ((p.1 10 (F81 p s1 s0) 7) - (p.1 10 (F81 p v4 v1) 7))
          if v1 = 0 then (
            if x2 < x1 then (
              True)
            else (
              kg218 p v1 v2 v3 v4 v5 v6 (F81 p s1 s0) (F81 p v4 v1)))
          else (
            if x1 < x2 then (
              True)
            else (
              kg218 p v1 v2 v3 v4 v5 v6 (F81 p s1 s0) (F81 p v4 v1)))))))))))))
noncomputable def g3_makeChain_130 (p : PM) (v1 : Int32) (v2 : Nat) (v3 : Nat) (v4 : Nat) (v5 : Nat) (v6 : Nat) (s0 : Int32) (s1 : Nat) : Prop := bg3_makeChain_130 v6_firstOf g6_firstOf g3_makeChain_167 g3_makeChain_218 p v1 v2 v3 v4 v5 v6 s0 s1
noncomputable def bv3_makeChain (F73 : PM → Int32 → Nat) (F81 : PM → Nat → Int32 → Nat) (kv78 : PM → Int32 × PM) (kv130 : PM → Int32 → Nat → Nat → Nat → Nat → Nat → Int32 → Nat → Int32 × PM) (p : PM) (v1 : Int32) : Int32 × PM :=
  if (p.1 1 (F73 p (cn 4)) 5) = 0 then (
    if (p.1 1 (F73 p (cn 5)) 5) = 0 then (
      if (p.1 1 (F73 p (cn 0)) 5) = 0 then (
        if (p.1 1 (F73 p (cn 1)) 5) = 0 then (
          if (p.1 1 (F73 p (cn 2)) 5) = 0 then (
            let x1 : Nat := (F81 p (F73 p (cn 4)) v1)
            let x2 : Nat := (F81 p (F73 p (cn 5)) v1)
            if v1 = 0 then (
              kv130 p v1 (F73 p (cn 0)) (F73 p (cn 1)) (F73 p (cn 2)) x1 x2 (cn 1) (F73 p (cn 0)))
            else (
              kv130 p v1 (F73 p (cn 0)) (F73 p (cn 1)) (F73 p (cn 2)) x1 x2 (cn 0) (F73 p (cn 0))))
          else (
            kv78 p))
        else (
          kv78 p))
      else (
        kv78 p))
    else (
      kv78 p))
  else (
    kv78 p)
noncomputable def v3_makeChain (p : PM) (v1 : Int32) : Int32 × PM := bv3_makeChain v6_bookAt v6_firstOf v3_makeChain_78 v3_makeChain_130 p v1
noncomputable def bg3_makeChain (F73 : PM → Int32 → Nat) (G73 : PM → Int32 → Prop) (F81 : PM → Nat → Int32 → Nat) (G81 : PM → Nat → Int32 → Prop) (kg78 : PM → Prop) (kg130 : PM → Int32 → Nat → Nat → Nat → Nat → Nat → Int32 → Nat → Prop) (p : PM) (v1 : Int32) : Prop :=
  (G73 p (cn 0)) ∧ (
  (G73 p (cn 1)) ∧ (
  (G73 p (cn 2)) ∧ (
  (G73 p (cn 4)) ∧ (
  (¬ (F73 p (cn 4)) = 0) ∧ (
  if (p.1 1 (F73 p (cn 4)) 5) = 0 then (
    (G73 p (cn 5)) ∧ (
    (¬ (F73 p (cn 5)) = 0) ∧ (
    if (p.1 1 (F73 p (cn 5)) 5) = 0 then (
      (¬ (F73 p (cn 0)) = 0) ∧ (
      if (p.1 1 (F73 p (cn 0)) 5) = 0 then (
        (¬ (F73 p (cn 1)) = 0) ∧ (
        if (p.1 1 (F73 p (cn 1)) 5) = 0 then (
          (¬ (F73 p (cn 2)) = 0) ∧ (
          if (p.1 1 (F73 p (cn 2)) 5) = 0 then (
            (G73 p (cn 4)) ∧ (
            (G81 p (F73 p (cn 4)) v1) ∧ (
            let x1 : Nat := (F81 p (F73 p (cn 4)) v1)
            (G73 p (cn 5)) ∧ (
            (G81 p (F73 p (cn 5)) v1) ∧ (
            let x2 : Nat := (F81 p (F73 p (cn 5)) v1)
            if v1 = 0 then (
              kg130 p v1 (F73 p (cn 0)) (F73 p (cn 1)) (F73 p (cn 2)) x1 x2 (cn 1) (F73 p (cn 0)))
            else (
              kg130 p v1 (F73 p (cn 0)) (F73 p (cn 1)) (F73 p (cn 2)) x1 x2 (cn 0) (F73 p (cn 0))))))))
          else (
            kg78 p)))
        else (
          kg78 p)))
      else (
        kg78 p)))
    else (
      kg78 p))))
  else (
    kg78 p))))))
noncomputable def g3_makeChain (p : PM) (v1 : Int32) : Prop := bg3_makeChain v6_bookAt g6_bookAt v6_firstOf g6_firstOf g3_makeChain_78 g3_makeChain_130 p v1
def R47 : List Row := [(0, .aload_n 0, 1, 0, (0, 0, 0, 0, 0, 0)), (1, .getfield 7, 3, 0, (3, 0, 9, 2, 1, 0)), (4, .iconst 0, 1, 0, (0, 0, 0, 0, 0, 0)), (5, .invokevirtual 17, 3, 0, (0, 2, 0, 0, 1, 0)), (8, .astore_n 2, 1, 0, (0, 0, 0, 0, 0, 0)), (9, .aload_n 0, 1, 0, (0, 0, 0, 0, 0, 0)), (10, .getfield 7, 3, 0, (3, 0, 9, 2, 1, 0)), (13, .iconst 1, 1, 0, (0, 0, 0, 0, 0, 1)), (14, .invokevirtual 17, 3, 0, (0, 2, 0, 0, 1, 0)), (17, .astore_n 3, 1, 0, (0, 0, 0, 0, 0, 0)), (18, .aload_n 0, 1, 0, (0, 0, 0, 0, 0, 0)), (19, .getfield 7, 3, 0, (3, 0, 9, 2, 1, 0)), (22, .iconst 2, 1, 0, (0, 0, 0, 0, 0, 2)), (23, .invokevirtual 17, 3, 0, (0, 2, 0, 0, 1, 0)), (26, .astore 4, 2, 0, (0, 0, 0, 0, 0, 0)), (28, .aload_n 0, 1, 0, (0, 0, 0, 0, 0, 0)), (29, .getfield 7, 3, 0, (3, 0, 9, 2, 1, 0)), (32, .iconst 4, 1, 0, (0, 0, 0, 0, 0, 4)), (33, .invokevirtual 17, 3, 0, (0, 2, 0, 0, 1, 0)), (36, .getfield 32, 3, 0, (1, 5, 1, 0, 0, 0)), (39, .ifCond .ne 39, 3, 0, (0, 0, 0, 0, 0, 0)), (42, .aload_n 0, 1, 0, (0, 0, 0, 0, 0, 0)), (43, .getfield 7, 3, 0, (3, 0, 9, 2, 1, 0)), (46, .iconst 5, 1, 0, (0, 0, 0, 0, 0, 5)), (47, .invokevirtual 17, 3, 0, (0, 2, 0, 0, 1, 0)), (50, .getfield 32, 3, 0, (1, 5, 1, 0, 0, 0)), (53, .ifCond .ne 25, 3, 0, (0, 0, 0, 0, 0, 0)), (56, .aload_n 2, 1, 0, (0, 0, 0, 0, 0, 0)), (57, .getfield 32, 3, 0, (1, 5, 1, 0, 0, 0)), (60, .ifCond .ne 18, 3, 0, (0, 0, 0, 0, 0, 0)), (63, .aload_n 3, 1, 0, (0, 0, 0, 0, 0, 0)), (64, .getfield 32, 3, 0, (1, 5, 1, 0, 0, 0)), (67, .ifCond .ne 11, 3, 0, (0, 0, 0, 0, 0, 0)), (70, .aload 4, 2, 0, (0, 0, 0, 0, 0, 0)), (72, .getfield 32, 3, 0, (1, 5, 1, 0, 0, 0)), (75, .ifCond .eq 5, 3, 0, (0, 0, 0, 0, 0, 0)), (78, .iconst 0, 1, 1, (0, 0, 0, 0, 0, 0)), (79, .ireturn, 1, 0, (1, 0, 0, 0, 0, 0)), (80, .aload_n 0, 1, 0, (0, 0, 0, 0, 0, 0)), (81, .getfield 7, 3, 0, (3, 0, 9, 2, 1, 0)), (84, .aload_n 0, 1, 0, (0, 0, 0, 0, 0, 0)), (85, .getfield 7, 3, 0, (3, 0, 9, 2, 1, 0)), (88, .iconst 4, 1, 0, (0, 0, 0, 0, 0, 4)), (89, .invokevirtual 17, 3, 0, (0, 2, 0, 0, 1, 0)), (92, .iload_n 1, 1, 0, (0, 0, 0, 0, 0, 0)), (93, .invokevirtual 36, 3, 0, (1, 3, 0, 0, 1, 0)), (96, .astore 5, 2, 0, (0, 0, 0, 0, 0, 0)), (98, .aload_n 0, 1, 0, (0, 0, 0, 0, 0, 0)), (99, .getfield 7, 3, 0, (3, 0, 9, 2, 1, 0)), (102, .aload_n 0, 1, 0, (0, 0, 0, 0, 0, 0)), (103, .getfield 7, 3, 0, (3, 0, 9, 2, 1, 0)), (106, .iconst 5, 1, 0, (0, 0, 0, 0, 0, 5)), (107, .invokevirtual 17, 3, 0, (0, 2, 0, 0, 1, 0)), (110, .iload_n 1, 1, 0, (0, 0, 0, 0, 0, 0)), (111, .invokevirtual 36, 3, 0, (1, 3, 0, 0, 1, 0)), (114, .astore 6, 2, 0, (0, 0, 0, 0, 0, 0)), (116, .aload_n 0, 1, 0, (0, 0, 0, 0, 0, 0)), (117, .getfield 7, 3, 0, (3, 0, 9, 2, 1, 0)), (120, .aload_n 2, 1, 0, (0, 0, 0, 0, 0, 0)), (121, .iload_n 1, 1, 0, (0, 0, 0, 0, 0, 0)), (122, .ifCond .ne 7, 3, 0, (0, 0, 0, 0, 0, 0)), (125, .iconst 1, 1, 0, (0, 0, 0, 0, 0, 1)), (126, .goto 4, 3, 0, (0, 0, 0, 0, 0, 0)), (129, .iconst 0, 1, 0, (0, 0, 0, 0, 0, 0)), (130, .invokevirtual 36, 3, 2, (1, 3, 0, 0, 1, 0)), (133, .astore 7, 2, 0, (0, 0, 0, 0, 0, 0)), (135, .aload_n 0, 1, 0, (0, 0, 0, 0, 0, 0)), (136, .getfield 7, 3, 0, (3, 0, 9, 2, 1, 0)), (139, .aload 4, 2, 0, (0, 0, 0, 0, 0, 0)), (141, .iload_n 1, 1, 0, (0, 0, 0, 0, 0, 0)), (142, .invokevirtual 36, 3, 0, (1, 3, 0, 0, 1, 0)), (145, .astore 8, 2, 0, (0, 0, 0, 0, 0, 0)), (147, .aload 5, 2, 0, (0, 0, 0, 0, 0, 0)), (149, .ifnull 18, 3, 0, (0, 0, 0, 0, 0, 0)), (152, .aload 6, 2, 0, (0, 0, 0, 0, 0, 0)), (154, .ifnull 13, 3, 0, (0, 0, 0, 0, 0, 0)), (157, .aload 7, 2, 0, (0, 0, 0, 0, 0, 0)), (159, .ifnull 8, 3, 0, (0, 0, 0, 0, 0, 0)), (162, .aload 8, 2, 0, (0, 0, 0, 0, 0, 0)), (164, .ifnonnull 5, 3, 0, (0, 0, 0, 0, 0, 0)), (167, .iconst 0, 1, 3, (0, 0, 0, 0, 0, 0)), (168, .ireturn, 1, 0, (1, 0, 0, 0, 0, 0)), (169, .aload 5, 2, 0, (0, 0, 0, 0, 0, 0)), (171, .getfield 40, 3, 0, (10, 7, 0, 0, 0, 0)), (174, .aload 6, 2, 0, (0, 0, 0, 0, 0, 0)), (176, .getfield 40, 3, 0, (10, 7, 0, 0, 0, 0)), (179, .iadd, 1, 0, (0, 0, 0, 0, 0, 0)), (180, .istore 9, 2, 0, (0, 0, 0, 0, 0, 0)), (182, .aload 7, 2, 0, (0, 0, 0, 0, 0, 0)), (184, .getfield 40, 3, 0, (10, 7, 0, 0, 0, 0)), (187, .aload 8, 2, 0, (0, 0, 0, 0, 0, 0)), (189, .getfield 40, 3, 0, (10, 7, 0, 0, 0, 0)), (192, .isub, 1, 0, (0, 0, 0, 0, 0, 0)), (193, .istore 10, 2, 0, (0, 0, 0, 0, 0, 0)), (195, .iload_n 1, 1, 0, (0, 0, 0, 0, 0, 0)), (196, .ifCond .eq 13, 3, 0, (0, 0, 0, 0, 0, 0)), (199, .iload 9, 2, 0, (0, 0, 0, 0, 0, 0)), (201, .iload 10, 2, 0, (0, 0, 0, 0, 0, 0)), (203, .if_icmp .ge 15, 3, 0, (0, 0, 0, 0, 0, 0)), (206, .goto 10, 3, 0, (0, 0, 0, 0, 0, 0)), (209, .iload 9, 2, 0, (0, 0, 0, 0, 0, 0)), (211, .iload 10, 2, 0, (0, 0, 0, 0, 0, 0)), (213, .if_icmp .le 5, 3, 0, (0, 0, 0, 0, 0, 0)), (216, .iconst 0, 1, 0, (0, 0, 0, 0, 0, 0)), (217, .ireturn, 1, 0, (1, 0, 0, 0, 0, 0)), (218, .aload 6, 2, 4, (0, 0, 0, 0, 0, 0)), (220, .getfield 40, 3, 0, (10, 7, 0, 0, 0, 0)), (223, .aload 8, 2, 0, (0, 0, 0, 0, 0, 0)), (225, .getfield 40, 3, 0, (10, 7, 0, 0, 0, 0)), (228, .iadd, 1, 0, (0, 0, 0, 0, 0, 0)), (229, .istore 11, 2, 0, (0, 0, 0, 0, 0, 0)), (231, .aload_n 2, 1, 0, (0, 0, 0, 0, 0, 0)), (232, .aload 7, 2, 0, (0, 0, 0, 0, 0, 0)), (234, .getfield 40, 3, 0, (10, 7, 0, 0, 0, 0)), (237, .aload 5, 2, 0, (0, 0, 0, 0, 0, 0)), (239, .aload 7, 2, 0, (0, 0, 0, 0, 0, 0)), (241, .invokestatic 45, 3, 0, (2, 4, 0, 0, 0, 0)), (244, .ifCond .ne 33, 3, 0, (0, 0, 0, 0, 0, 0)), (247, .aload_n 3, 1, 0, (0, 0, 0, 0, 0, 0)), (248, .iload 11, 2, 0, (0, 0, 0, 0, 0, 0)), (250, .aload 5, 2, 0, (0, 0, 0, 0, 0, 0)), (252, .aload 6, 2, 0, (0, 0, 0, 0, 0, 0)), (254, .invokestatic 45, 3, 0, (2, 4, 0, 0, 0, 0)), (257, .ifCond .ne 20, 3, 0, (0, 0, 0, 0, 0, 0)), (260, .aload 4, 2, 0, (0, 0, 0, 0, 0, 0)), (262, .aload 8, 2, 0, (0, 0, 0, 0, 0, 0)), (264, .getfield 40, 3, 0, (10, 7, 0, 0, 0, 0)), (267, .aload 6, 2, 0, (0, 0, 0, 0, 0, 0)), (269, .aload 8, 2, 0, (0, 0, 0, 0, 0, 0)), (271, .invokestatic 45, 3, 0, (2, 4, 0, 0, 0, 0)), (274, .ifCond .eq 5, 3, 0, (0, 0, 0, 0, 0, 0)), (277, .iconst 0, 1, 0, (0, 0, 0, 0, 0, 0)), (278, .ireturn, 1, 0, (1, 0, 0, 0, 0, 0)), (279, .aload 5, 2, 0, (0, 0, 0, 0, 0, 0)), (281, .getfield 49, 3, 0, (10, 11, 0, 0, 0, 0)), (284, .aload 6, 2, 0, (0, 0, 0, 0, 0, 0)), (286, .getfield 49, 3, 0, (10, 11, 0, 0, 0, 0)), (289, .invokestatic 52, 3, 0, (3, 2, 0, 0, 0, 0)), (292, .aload 7, 2, 0, (0, 0, 0, 0, 0, 0)), (294, .getfield 49, 3, 0, (10, 11, 0, 0, 0, 0)), (297, .aload 8, 2, 0, (0, 0, 0, 0, 0, 0)), (299, .getfield 49, 3, 0, (10, 11, 0, 0, 0, 0)), (302, .invokestatic 52, 3, 0, (3, 2, 0, 0, 0, 0)), (305, .invokestatic 52, 3, 0, (3, 2, 0, 0, 0, 0)), (308, .istore 12, 2, 0, (0, 0, 0, 0, 0, 0)), (310, .aload_n 0, 1, 0, (0, 0, 0, 0, 0, 0)), (311, .aload_n 2, 1, 0, (0, 0, 0, 0, 0, 0)), (312, .iload_n 1, 1, 0, (0, 0, 0, 0, 0, 0)), (313, .aload 5, 2, 0, (0, 0, 0, 0, 0, 0)), (315, .aload 7, 2, 0, (0, 0, 0, 0, 0, 0)), (317, .aload 7, 2, 0, (0, 0, 0, 0, 0, 0)), (319, .getfield 40, 3, 0, (10, 7, 0, 0, 0, 0)), (322, .iload 12, 2, 0, (0, 0, 0, 0, 0, 0)), (324, .invokevirtual 58, 3, 0, (4, 7, 0, 0, 1, 0)), (327, .aload_n 0, 1, 0, (0, 0, 0, 0, 0, 0)), (328, .aload_n 3, 1, 0, (0, 0, 0, 0, 0, 0)), (329, .iload_n 1, 1, 0, (0, 0, 0, 0, 0, 0)), (330, .aload 6, 2, 0, (0, 0, 0, 0, 0, 0)), (332, .aload 5, 2, 0, (0, 0, 0, 0, 0, 0)), (334, .iload 11, 2, 0, (0, 0, 0, 0, 0, 0)), (336, .iload 12, 2, 0, (0, 0, 0, 0, 0, 0)), (338, .invokevirtual 58, 3, 0, (4, 7, 0, 0, 1, 0)), (341, .aload_n 0, 1, 0, (0, 0, 0, 0, 0, 0)), (342, .aload 4, 2, 0, (0, 0, 0, 0, 0, 0)), (344, .iload_n 1, 1, 0, (0, 0, 0, 0, 0, 0)), (345, .ifCond .ne 7, 3, 0, (0, 0, 0, 0, 0, 0)), (348, .iconst 1, 1, 0, (0, 0, 0, 0, 0, 1)), (349, .goto 4, 3, 0, (0, 0, 0, 0, 0, 0)), (352, .iconst 0, 1, 0, (0, 0, 0, 0, 0, 0)), (353, .aload 6, 2, 0, (0, 0, 0, 0, 0, 0)), (355, .aload 8, 2, 0, (0, 0, 0, 0, 0, 0)), (357, .aload 8, 2, 0, (0, 0, 0, 0, 0, 0)), (359, .getfield 40, 3, 0, (10, 7, 0, 0, 0, 0)), (362, .iload 12, 2, 0, (0, 0, 0, 0, 0, 0)), (364, .invokevirtual 58, 3, 0, (4, 7, 0, 0, 1, 0)), (367, .aload_n 0, 1, 0, (0, 0, 0, 0, 0, 0)), (368, .aload 5, 2, 0, (0, 0, 0, 0, 0, 0)), (370, .aload 6, 2, 0, (0, 0, 0, 0, 0, 0)), (372, .aload 7, 2, 0, (0, 0, 0, 0, 0, 0)), (374, .aload 8, 2, 0, (0, 0, 0, 0, 0, 0)), (376, .iload 12, 2, 0, (0, 0, 0, 0, 0, 0)), (378, .invokevirtual 62, 3, 0, (5, 6, 0, 0, 1, 0)), (381, .iconst 1, 1, 0, (0, 0, 0, 0, 0, 1)), (382, .ireturn, 1, 0, (1, 0, 0, 0, 0, 0))]
set_option maxRecDepth 100000 in
theorem rk47 : R47.all (rok 0 47 1 [(73, [9, 0]), (81, [9, 4, 0]), (48, [4, 0, 13, 13]), (209, [0, 0]), (49, [6, 4, 0, 13, 13, 0, 0]), (50, [6, 13, 13, 13, 13, 0])]) = true := by decide +kernel
set_option maxRecDepth 100000 in
theorem tab47 {F73 : PM → Int32 → Nat} {G73 : PM → Int32 → Prop} {F81 : PM → Nat → Int32 → Nat} {G81 : PM → Nat → Int32 → Prop} {F48 : PM → Nat → Int32 → Nat → Nat → Int32} {G48 : PM → Nat → Int32 → Nat → Nat → Prop} {F209 : PM → Int32 → Int32 → Int32} {G209 : PM → Int32 → Int32 → Prop} {F49 : PM → Nat → Int32 → Nat → Nat → Int32 → Int32 → PM} {G49 : PM → Nat → Int32 → Nat → Nat → Int32 → Int32 → Prop} {F50 : PM → Nat → Nat → Nat → Nat → Int32 → PM} {G50 : PM → Nat → Nat → Nat → Nat → Int32 → Prop} : TabOK 0 47 1 [CC73 F73 G73, CC81 F81 G81, CC48 F48 G48, CC209 F209 G209, CC49 F49 G49, CC50 F50 G50] R47 := tab_ok (K := K47) rfl rfl (fun h => d47 h) rk47 (by decide +kernel)
set_option maxRecDepth 100000 in
theorem pc47 : cutpc [78, 130, 167, 218] R47 = true := by decide +kernel
set_option maxRecDepth 100000 in
theorem r3_makeChain_78 (F73 : PM → Int32 → Nat) (G73 : PM → Int32 → Prop) (o73 : CalOK 0 (CC73 F73 G73)) (F81 : PM → Nat → Int32 → Nat) (G81 : PM → Nat → Int32 → Prop) (o81 : CalOK 0 (CC81 F81 G81)) (F48 : PM → Nat → Int32 → Nat → Nat → Int32) (G48 : PM → Nat → Int32 → Nat → Nat → Prop) (o48 : CalOK 0 (CC48 F48 G48)) (F209 : PM → Int32 → Int32 → Int32) (G209 : PM → Int32 → Int32 → Prop) (o209 : CalOK 0 (CC209 F209 G209)) (F49 : PM → Nat → Int32 → Nat → Nat → Int32 → Int32 → PM) (G49 : PM → Nat → Int32 → Nat → Nat → Int32 → Int32 → Prop) (o49 : CalOK 0 (CC49 F49 G49)) (F50 : PM → Nat → Nat → Nat → Nat → Int32 → PM) (G50 : PM → Nat → Nat → Nat → Nat → Int32 → Prop) (o50 : CalOK 0 (CC50 F50 G50)) : ∀ (p : PM) (d0 d1 d2 d3 d4 d5 d6 d7 d8 d9 d10 d11 d12 : ZV), Gr 0 p → bg3_makeChain_78 p → ZJ 0 47 78 [d0, d1, d2, d3, d4, d5, d6, d7, d8, d9, d10, d11, d12] [] p (hwI (bv3_makeChain_78 p)) := by
  intro p  d0 d1 d2 d3 d4 d5 d6 d7 d8 d9 d10 d11 d12 hg H
  exact rwI (n := 3000) (q := 78) (la := [d0, d1, d2, d3, d4, d5, d6, d7, d8, d9, d10, d11, d12]) (sa := []) (ks := [fun _ _ s => (0, s), fun _ _ s => (0, s), fun _ _ s => (0, s), fun _ _ s => (0, s)]) (gs := [fun _ _ _ => False, fun _ _ _ => False, fun _ _ _ => False, fun _ _ _ => False]) (fcons o73 (fcons o81 (fcons o48 (fcons o209 (fcons o49 (fcons o50 (fnil))))))) tab47 pc47 ⟨fun _ _ _ _ H => H.elim, fun _ _ _ _ H => H.elim, fun _ _ _ _ H => H.elim, fun _ _ _ _ H => H.elim, trivial⟩ hg H
theorem t3_makeChain_78 : ∀ (p : PM) (d0 d1 d2 d3 d4 d5 d6 d7 d8 d9 d10 d11 d12 : ZV), Gr 0 p → g3_makeChain_78 p → ZJ 0 47 78 [d0, d1, d2, d3, d4, d5, d6, d7, d8, d9, d10, d11, d12] [] p (hwI (v3_makeChain_78 p)) := r3_makeChain_78 v6_bookAt g6_bookAt ok73 v6_firstOf g6_firstOf ok81 v3_isBarred g3_isBarred ok48 v14_min_7cf53 g14_min_7cf53 ok209 v3_record g3_record ok49 v3_fallTogether g3_fallTogether ok50
set_option maxRecDepth 100000 in
theorem r3_makeChain_167 (F73 : PM → Int32 → Nat) (G73 : PM → Int32 → Prop) (o73 : CalOK 0 (CC73 F73 G73)) (F81 : PM → Nat → Int32 → Nat) (G81 : PM → Nat → Int32 → Prop) (o81 : CalOK 0 (CC81 F81 G81)) (F48 : PM → Nat → Int32 → Nat → Nat → Int32) (G48 : PM → Nat → Int32 → Nat → Nat → Prop) (o48 : CalOK 0 (CC48 F48 G48)) (F209 : PM → Int32 → Int32 → Int32) (G209 : PM → Int32 → Int32 → Prop) (o209 : CalOK 0 (CC209 F209 G209)) (F49 : PM → Nat → Int32 → Nat → Nat → Int32 → Int32 → PM) (G49 : PM → Nat → Int32 → Nat → Nat → Int32 → Int32 → Prop) (o49 : CalOK 0 (CC49 F49 G49)) (F50 : PM → Nat → Nat → Nat → Nat → Int32 → PM) (G50 : PM → Nat → Nat → Nat → Nat → Int32 → Prop) (o50 : CalOK 0 (CC50 F50 G50)) : ∀ (p : PM) (d0 d1 d2 d3 d4 d5 d6 d7 d8 d9 d10 d11 d12 : ZV), Gr 0 p → bg3_makeChain_167 p → ZJ 0 47 167 [d0, d1, d2, d3, d4, d5, d6, d7, d8, d9, d10, d11, d12] [] p (hwI (bv3_makeChain_167 p)) := by
  intro p  d0 d1 d2 d3 d4 d5 d6 d7 d8 d9 d10 d11 d12 hg H
  exact rwI (n := 3000) (q := 167) (la := [d0, d1, d2, d3, d4, d5, d6, d7, d8, d9, d10, d11, d12]) (sa := []) (ks := [fun _ _ s => (0, s), fun _ _ s => (0, s), fun _ _ s => (0, s), fun _ _ s => (0, s)]) (gs := [fun _ _ _ => False, fun _ _ _ => False, fun _ _ _ => False, fun _ _ _ => False]) (fcons o73 (fcons o81 (fcons o48 (fcons o209 (fcons o49 (fcons o50 (fnil))))))) tab47 pc47 ⟨fun _ _ _ _ H => H.elim, fun _ _ _ _ H => H.elim, fun _ _ _ _ H => H.elim, fun _ _ _ _ H => H.elim, trivial⟩ hg H
theorem t3_makeChain_167 : ∀ (p : PM) (d0 d1 d2 d3 d4 d5 d6 d7 d8 d9 d10 d11 d12 : ZV), Gr 0 p → g3_makeChain_167 p → ZJ 0 47 167 [d0, d1, d2, d3, d4, d5, d6, d7, d8, d9, d10, d11, d12] [] p (hwI (v3_makeChain_167 p)) := r3_makeChain_167 v6_bookAt g6_bookAt ok73 v6_firstOf g6_firstOf ok81 v3_isBarred g3_isBarred ok48 v14_min_7cf53 g14_min_7cf53 ok209 v3_record g3_record ok49 v3_fallTogether g3_fallTogether ok50
set_option maxRecDepth 100000 in
theorem r3_makeChain_218 (F73 : PM → Int32 → Nat) (G73 : PM → Int32 → Prop) (o73 : CalOK 0 (CC73 F73 G73)) (F81 : PM → Nat → Int32 → Nat) (G81 : PM → Nat → Int32 → Prop) (o81 : CalOK 0 (CC81 F81 G81)) (F48 : PM → Nat → Int32 → Nat → Nat → Int32) (G48 : PM → Nat → Int32 → Nat → Nat → Prop) (o48 : CalOK 0 (CC48 F48 G48)) (F209 : PM → Int32 → Int32 → Int32) (G209 : PM → Int32 → Int32 → Prop) (o209 : CalOK 0 (CC209 F209 G209)) (F49 : PM → Nat → Int32 → Nat → Nat → Int32 → Int32 → PM) (G49 : PM → Nat → Int32 → Nat → Nat → Int32 → Int32 → Prop) (o49 : CalOK 0 (CC49 F49 G49)) (F50 : PM → Nat → Nat → Nat → Nat → Int32 → PM) (G50 : PM → Nat → Nat → Nat → Nat → Int32 → Prop) (o50 : CalOK 0 (CC50 F50 G50)) : ∀ (p : PM) (v1 : Int32) (v2 : Nat) (v3 : Nat) (v4 : Nat) (v5 : Nat) (v6 : Nat) (v7 : Nat) (v8 : Nat) (d9 d10 d11 d12 : ZV), Gr 0 p → bg3_makeChain_218 F48 G48 F49 G49 F50 G50 F209 G209 p v1 v2 v3 v4 v5 v6 v7 v8 → ZJ 0 47 218 [zR 3 1, zI v1, zR 1 v2, zR 1 v3, zR 1 v4, zR 10 v5, zR 10 v6, zR 10 v7, zR 10 v8, d9, d10, d11, d12] [] p (hwI (bv3_makeChain_218 F48 F49 F50 F209 p v1 v2 v3 v4 v5 v6 v7 v8)) := by
  intro p v1 v2 v3 v4 v5 v6 v7 v8 d9 d10 d11 d12 hg H
  exact rwI (n := 3000) (q := 218) (la := [zR 3 1, zI v1, zR 1 v2, zR 1 v3, zR 1 v4, zR 10 v5, zR 10 v6, zR 10 v7, zR 10 v8, d9, d10, d11, d12]) (sa := []) (ks := [fun _ _ s => (0, s), fun _ _ s => (0, s), fun _ _ s => (0, s), fun _ _ s => (0, s)]) (gs := [fun _ _ _ => False, fun _ _ _ => False, fun _ _ _ => False, fun _ _ _ => False]) (fcons o73 (fcons o81 (fcons o48 (fcons o209 (fcons o49 (fcons o50 (fnil))))))) tab47 pc47 ⟨fun _ _ _ _ H => H.elim, fun _ _ _ _ H => H.elim, fun _ _ _ _ H => H.elim, fun _ _ _ _ H => H.elim, trivial⟩ hg H
theorem t3_makeChain_218 : ∀ (p : PM) (v1 : Int32) (v2 : Nat) (v3 : Nat) (v4 : Nat) (v5 : Nat) (v6 : Nat) (v7 : Nat) (v8 : Nat) (d9 d10 d11 d12 : ZV), Gr 0 p → g3_makeChain_218 p v1 v2 v3 v4 v5 v6 v7 v8 → ZJ 0 47 218 [zR 3 1, zI v1, zR 1 v2, zR 1 v3, zR 1 v4, zR 10 v5, zR 10 v6, zR 10 v7, zR 10 v8, d9, d10, d11, d12] [] p (hwI (v3_makeChain_218 p v1 v2 v3 v4 v5 v6 v7 v8)) := r3_makeChain_218 v6_bookAt g6_bookAt ok73 v6_firstOf g6_firstOf ok81 v3_isBarred g3_isBarred ok48 v14_min_7cf53 g14_min_7cf53 ok209 v3_record g3_record ok49 v3_fallTogether g3_fallTogether ok50
set_option maxRecDepth 100000 in
theorem r3_makeChain_130 (F73 : PM → Int32 → Nat) (G73 : PM → Int32 → Prop) (o73 : CalOK 0 (CC73 F73 G73)) (F81 : PM → Nat → Int32 → Nat) (G81 : PM → Nat → Int32 → Prop) (o81 : CalOK 0 (CC81 F81 G81)) (F48 : PM → Nat → Int32 → Nat → Nat → Int32) (G48 : PM → Nat → Int32 → Nat → Nat → Prop) (o48 : CalOK 0 (CC48 F48 G48)) (F209 : PM → Int32 → Int32 → Int32) (G209 : PM → Int32 → Int32 → Prop) (o209 : CalOK 0 (CC209 F209 G209)) (F49 : PM → Nat → Int32 → Nat → Nat → Int32 → Int32 → PM) (G49 : PM → Nat → Int32 → Nat → Nat → Int32 → Int32 → Prop) (o49 : CalOK 0 (CC49 F49 G49)) (F50 : PM → Nat → Nat → Nat → Nat → Int32 → PM) (G50 : PM → Nat → Nat → Nat → Nat → Int32 → Prop) (o50 : CalOK 0 (CC50 F50 G50)) (kv167 : PM → Int32 × PM) (kg167 : PM → Prop) (hk167 : ∀ (p : PM) (d0 d1 d2 d3 d4 d5 d6 d7 d8 d9 d10 d11 d12 : ZV), Gr 0 p → kg167 p  → ZJ 0 47 167 [d0, d1, d2, d3, d4, d5, d6, d7, d8, d9, d10, d11, d12] [] p (hwI (kv167 p ))) (kv218 : PM → Int32 → Nat → Nat → Nat → Nat → Nat → Nat → Nat → Int32 × PM) (kg218 : PM → Int32 → Nat → Nat → Nat → Nat → Nat → Nat → Nat → Prop) (hk218 : ∀ (p : PM) (v1 : Int32) (v2 : Nat) (v3 : Nat) (v4 : Nat) (v5 : Nat) (v6 : Nat) (v7 : Nat) (v8 : Nat) (d9 d10 d11 d12 : ZV), Gr 0 p → kg218 p v1 v2 v3 v4 v5 v6 v7 v8 → ZJ 0 47 218 [zR 3 1, zI v1, zR 1 v2, zR 1 v3, zR 1 v4, zR 10 v5, zR 10 v6, zR 10 v7, zR 10 v8, d9, d10, d11, d12] [] p (hwI (kv218 p v1 v2 v3 v4 v5 v6 v7 v8))) : ∀ (p : PM) (v1 : Int32) (v2 : Nat) (v3 : Nat) (v4 : Nat) (v5 : Nat) (v6 : Nat) (s0 : Int32) (s1 : Nat) (d7 d8 d9 d10 d11 d12 : ZV), Gr 0 p → bg3_makeChain_130 F81 G81 kg167 kg218 p v1 v2 v3 v4 v5 v6 s0 s1 → ZJ 0 47 130 [zR 3 1, zI v1, zR 1 v2, zR 1 v3, zR 1 v4, zR 10 v5, zR 10 v6, d7, d8, d9, d10, d11, d12] [zI s0, zR 1 s1, zR 6 1] p (hwI (bv3_makeChain_130 F81 kv167 kv218 p v1 v2 v3 v4 v5 v6 s0 s1)) := by
  intro p v1 v2 v3 v4 v5 v6 s0 s1 d7 d8 d9 d10 d11 d12 hg H
  exact rwI (n := 3000) (q := 130) (la := [zR 3 1, zI v1, zR 1 v2, zR 1 v3, zR 1 v4, zR 10 v5, zR 10 v6, d7, d8, d9, d10, d11, d12]) (sa := [zI s0, zR 1 s1, zR 6 1]) (ks := [fun _ _ s => (0, s), fun _ _ s => (0, s), fun la sa s => kv167 s, fun la sa s => kv218 s (ai la 1) (ar la 2) (ar la 3) (ar la 4) (ar la 5) (ar la 6) (ar la 7) (ar la 8)]) (gs := [fun _ _ _ => False, fun _ _ _ => False, fun la sa s => zsw (tc2 la [(2, 0), (2, 0), (2, 0), (2, 0), (2, 0), (2, 0), (2, 0), (2, 0), (2, 0), (2, 0), (2, 0), (2, 0), (2, 0)] && tc2 sa []) False (kg167 s ), fun la sa s => zsw (tc2 la [(103, 1), (0, 0), (5, 0), (5, 0), (5, 0), (14, 0), (14, 0), (14, 0), (14, 0), (2, 0), (2, 0), (2, 0), (2, 0)] && tc2 sa []) False (kg218 s (ai la 1) (ar la 2) (ar la 3) (ar la 4) (ar la 5) (ar la 6) (ar la 7) (ar la 8))]) (fcons o73 (fcons o81 (fcons o48 (fcons o209 (fcons o49 (fcons o50 (fnil))))))) tab47 pc47 ⟨fun _ _ _ _ H => H.elim, fun _ _ _ _ H => H.elim, fun la sa s hg H => zcut H fun H => hk167 s (zld la 0) (zld la 1) (zld la 2) (zld la 3) (zld la 4) (zld la 5) (zld la 6) (zld la 7) (zld la 8) (zld la 9) (zld la 10) (zld la 11) (zld la 12) hg H, fun la sa s hg H => zcut H fun H => hk218 s (ai la 1) (ar la 2) (ar la 3) (ar la 4) (ar la 5) (ar la 6) (ar la 7) (ar la 8) (zld la 9) (zld la 10) (zld la 11) (zld la 12) hg H, trivial⟩ hg H
theorem t3_makeChain_130 : ∀ (p : PM) (v1 : Int32) (v2 : Nat) (v3 : Nat) (v4 : Nat) (v5 : Nat) (v6 : Nat) (s0 : Int32) (s1 : Nat) (d7 d8 d9 d10 d11 d12 : ZV), Gr 0 p → g3_makeChain_130 p v1 v2 v3 v4 v5 v6 s0 s1 → ZJ 0 47 130 [zR 3 1, zI v1, zR 1 v2, zR 1 v3, zR 1 v4, zR 10 v5, zR 10 v6, d7, d8, d9, d10, d11, d12] [zI s0, zR 1 s1, zR 6 1] p (hwI (v3_makeChain_130 p v1 v2 v3 v4 v5 v6 s0 s1)) := r3_makeChain_130 v6_bookAt g6_bookAt ok73 v6_firstOf g6_firstOf ok81 v3_isBarred g3_isBarred ok48 v14_min_7cf53 g14_min_7cf53 ok209 v3_record g3_record ok49 v3_fallTogether g3_fallTogether ok50 (v3_makeChain_167) (g3_makeChain_167) (t3_makeChain_167) (v3_makeChain_218) (g3_makeChain_218) (t3_makeChain_218)
set_option maxRecDepth 100000 in
theorem r3_makeChain (F73 : PM → Int32 → Nat) (G73 : PM → Int32 → Prop) (o73 : CalOK 0 (CC73 F73 G73)) (F81 : PM → Nat → Int32 → Nat) (G81 : PM → Nat → Int32 → Prop) (o81 : CalOK 0 (CC81 F81 G81)) (F48 : PM → Nat → Int32 → Nat → Nat → Int32) (G48 : PM → Nat → Int32 → Nat → Nat → Prop) (o48 : CalOK 0 (CC48 F48 G48)) (F209 : PM → Int32 → Int32 → Int32) (G209 : PM → Int32 → Int32 → Prop) (o209 : CalOK 0 (CC209 F209 G209)) (F49 : PM → Nat → Int32 → Nat → Nat → Int32 → Int32 → PM) (G49 : PM → Nat → Int32 → Nat → Nat → Int32 → Int32 → Prop) (o49 : CalOK 0 (CC49 F49 G49)) (F50 : PM → Nat → Nat → Nat → Nat → Int32 → PM) (G50 : PM → Nat → Nat → Nat → Nat → Int32 → Prop) (o50 : CalOK 0 (CC50 F50 G50)) (kv78 : PM → Int32 × PM) (kg78 : PM → Prop) (hk78 : ∀ (p : PM) (d0 d1 d2 d3 d4 d5 d6 d7 d8 d9 d10 d11 d12 : ZV), Gr 0 p → kg78 p  → ZJ 0 47 78 [d0, d1, d2, d3, d4, d5, d6, d7, d8, d9, d10, d11, d12] [] p (hwI (kv78 p ))) (kv130 : PM → Int32 → Nat → Nat → Nat → Nat → Nat → Int32 → Nat → Int32 × PM) (kg130 : PM → Int32 → Nat → Nat → Nat → Nat → Nat → Int32 → Nat → Prop) (hk130 : ∀ (p : PM) (v1 : Int32) (v2 : Nat) (v3 : Nat) (v4 : Nat) (v5 : Nat) (v6 : Nat) (s0 : Int32) (s1 : Nat) (d7 d8 d9 d10 d11 d12 : ZV), Gr 0 p → kg130 p v1 v2 v3 v4 v5 v6 s0 s1 → ZJ 0 47 130 [zR 3 1, zI v1, zR 1 v2, zR 1 v3, zR 1 v4, zR 10 v5, zR 10 v6, d7, d8, d9, d10, d11, d12] [zI s0, zR 1 s1, zR 6 1] p (hwI (kv130 p v1 v2 v3 v4 v5 v6 s0 s1))) : ∀ (p : PM) (v1 : Int32), Gr 0 p → bg3_makeChain F73 G73 F81 G81 kg78 kg130 p v1 → ZJ 0 47 0 [zR 3 1, zI v1, zJ, zJ, zJ, zJ, zJ, zJ, zJ, zJ, zJ, zJ, zJ] [] p (hwI (bv3_makeChain F73 F81 kv78 kv130 p v1)) := by
  intro p v1  hg H
  exact rwI (n := 3000) (q := 0) (la := [zR 3 1, zI v1, zJ, zJ, zJ, zJ, zJ, zJ, zJ, zJ, zJ, zJ, zJ]) (sa := []) (ks := [fun la sa s => kv78 s, fun la sa s => kv130 s (ai la 1) (ar la 2) (ar la 3) (ar la 4) (ar la 5) (ar la 6) (ai sa 0) (ar sa 1), fun _ _ s => (0, s), fun _ _ s => (0, s)]) (gs := [fun la sa s => zsw (tc2 la [(2, 0), (2, 0), (2, 0), (2, 0), (2, 0), (2, 0), (2, 0), (2, 0), (2, 0), (2, 0), (2, 0), (2, 0), (2, 0)] && tc2 sa []) False (kg78 s ), fun la sa s => zsw (tc2 la [(103, 1), (0, 0), (5, 0), (5, 0), (5, 0), (14, 0), (14, 0), (2, 0), (2, 0), (2, 0), (2, 0), (2, 0), (2, 0)] && tc2 sa [(0, 0), (5, 0), (106, 1)]) False (kg130 s (ai la 1) (ar la 2) (ar la 3) (ar la 4) (ar la 5) (ar la 6) (ai sa 0) (ar sa 1)), fun _ _ _ => False, fun _ _ _ => False]) (fcons o73 (fcons o81 (fcons o48 (fcons o209 (fcons o49 (fcons o50 (fnil))))))) tab47 pc47 ⟨fun la sa s hg H => zcut H fun H => hk78 s (zld la 0) (zld la 1) (zld la 2) (zld la 3) (zld la 4) (zld la 5) (zld la 6) (zld la 7) (zld la 8) (zld la 9) (zld la 10) (zld la 11) (zld la 12) hg H, fun la sa s hg H => zcut H fun H => hk130 s (ai la 1) (ar la 2) (ar la 3) (ar la 4) (ar la 5) (ar la 6) (ai sa 0) (ar sa 1) (zld la 7) (zld la 8) (zld la 9) (zld la 10) (zld la 11) (zld la 12) hg H, fun _ _ _ _ H => H.elim, fun _ _ _ _ H => H.elim, trivial⟩ hg H
theorem t3_makeChain : ∀ (p : PM) (v1 : Int32), Gr 0 p → g3_makeChain p v1 → ZJ 0 47 0 [zR 3 1, zI v1, zJ, zJ, zJ, zJ, zJ, zJ, zJ, zJ, zJ, zJ, zJ] [] p (hwI (v3_makeChain p v1)) := r3_makeChain v6_bookAt g6_bookAt ok73 v6_firstOf g6_firstOf ok81 v3_isBarred g3_isBarred ok48 v14_min_7cf53 g14_min_7cf53 ok209 v3_record g3_record ok49 v3_fallTogether g3_fallTogether ok50 (v3_makeChain_78) (g3_makeChain_78) (t3_makeChain_78) (v3_makeChain_130) (g3_makeChain_130) (t3_makeChain_130)
def CC47 (F : PM → Int32 → Int32 × PM) (G : PM → Int32 → Prop) : Cal := (47, [6, 0], 1, false, fun as p => (zI (F p (ai as 1)).1, (F p (ai as 1)).2), fun as p => zsw (tc2 as [(103, 1), (0, 0)]) False (G p (ai as 1)))
set_option maxRecDepth 100000 in
theorem okr47 (F : PM → Int32 → Int32 × PM) (G : PM → Int32 → Prop) (h : ∀ (p : PM) (v1 : Int32), Gr 0 p → G p v1 → ZJ 0 47 0 [zR 3 1, zI v1, zJ, zJ, zJ, zJ, zJ, zJ, zJ, zJ, zJ, zJ, zJ] [] p (hwI (F p v1))) : CalOK 0 (CC47 F G) := cal_ok (m := 13) (by unfold mL; rw [mX_47]) (fun as p hg H => h p (ai as 1) hg H)
theorem ok47 : CalOK 0 (CC47 v3_makeChain g3_makeChain) := okr47 v3_makeChain g3_makeChain t3_makeChain
noncomputable def bv4_counts (p : PM) (v0 : Nat) : Int32 :=
  if (p.1 4 v0 6) = 0 then (
    (cn 0))
  else (
    if (p.1 4 v0 5) = 0 then (
      (cn 1))
    else (
      (cn 0)))
noncomputable def v4_counts (p : PM) (v0 : Nat) : Int32 := bv4_counts p v0
noncomputable def bg4_counts (p : PM) (v0 : Nat) : Prop :=
  (¬ v0 = 0) ∧ (
  if (p.1 4 v0 6) = 0 then (
    True)
  else (
    (¬ v0 = 0) ∧ (
    if (p.1 4 v0 5) = 0 then (
      True)
    else (
      True))))
noncomputable def g4_counts (p : PM) (v0 : Nat) : Prop := bg4_counts p v0
def R53 : List Row := [(0, .aload_n 0, 1, 0, (0, 0, 0, 0, 0, 0)), (1, .getfield 31, 3, 0, (4, 6, 1, 0, 0, 0)), (4, .ifCond .eq 14, 3, 0, (0, 0, 0, 0, 0, 0)), (7, .aload_n 0, 1, 0, (0, 0, 0, 0, 0, 0)), (8, .getfield 27, 3, 0, (4, 5, 1, 0, 0, 0)), (11, .ifCond .ne 7, 3, 0, (0, 0, 0, 0, 0, 0)), (14, .iconst 1, 1, 0, (0, 0, 0, 0, 0, 1)), (15, .goto 4, 3, 0, (0, 0, 0, 0, 0, 0)), (18, .iconst 0, 1, 0, (0, 0, 0, 0, 0, 0)), (19, .ireturn, 1, 0, (1, 0, 0, 0, 0, 0))]
set_option maxRecDepth 100000 in
theorem rk53 : R53.all (rok 0 53 1 []) = true := by decide +kernel
set_option maxRecDepth 100000 in
theorem tab53 : TabOK 0 53 1 [] R53 := tab_ok (K := K53) rfl rfl (fun h => d53 h) rk53 (by decide +kernel)
set_option maxRecDepth 100000 in
theorem pc53 : cutpc [] R53 = true := by decide +kernel
set_option maxRecDepth 100000 in
theorem r4_counts (p : PM) (hg : Gr 0 p) : ∀ (v0 : Nat), bg4_counts p v0 → ZJ 0 53 0 [zR 4 v0] [] p (hoI p (bv4_counts p v0)) := by
  intro v0  H
  exact roI (n := 3000) (q := 0) (la := [zR 4 v0]) (sa := []) (ks := []) (gs := []) (fnil) tab53 pc53 trivial hg H
theorem t4_counts (p : PM) (hg : Gr 0 p) : ∀ (v0 : Nat), g4_counts p v0 → ZJ 0 53 0 [zR 4 v0] [] p (hoI p (v4_counts p v0)) := r4_counts p hg
def CC53 (F : PM → Nat → Int32) (G : PM → Nat → Prop) : Cal := (53, [7], 1, true, fun as p => (zI (F p (ar as 0)), p), fun as p => zsw (tc2 as [(8, 0)]) False (G p (ar as 0)))
set_option maxRecDepth 100000 in
theorem okr53 (F : PM → Nat → Int32) (G : PM → Nat → Prop) (h : ∀ (p : PM) (v0 : Nat), Gr 0 p → G p v0 → ZJ 0 53 0 [zR 4 v0] [] p (hoI p (F p v0))) : CalOK 0 (CC53 F G) := cal_ok (m := 1) (by unfold mL; rw [mX_53]) (fun as p hg H => h p (ar as 0) hg H)
theorem ok53 : CalOK 0 (CC53 v4_counts g4_counts) := okr53 v4_counts g4_counts (fun p v0 hg H => t4_counts p hg v0 H)
noncomputable def bv4_tell (p : PM) (v0 : Nat) (v1 : Int32) : Int32 :=
  if v1 = (cn 0) then (
    (p.1 1 (p.2.2 4 v0 0) 0))
  else (
    if v1 = (cn 1) then (
      (p.1 0 (p.2.2 4 v0 1) 0))
    else (
      if v1 = (cn 2) then (
        (p.1 0 (p.2.2 4 v0 2) 0))
      else (
        if v1 = (cn 3) then (
          (p.1 4 v0 3))
        else (
          if v1 = (cn 4) then (
            (p.1 4 v0 4))
          else (
            if (p.1 4 v0 5) = 0 then (
              (cn 0))
            else (
              (cn 1)))))))
noncomputable def v4_tell (p : PM) (v0 : Nat) (v1 : Int32) : Int32 := bv4_tell p v0 v1
noncomputable def bg4_tell (p : PM) (v0 : Nat) (v1 : Int32) : Prop :=
  if v1 = (cn 0) then (
    (¬ v0 = 0) ∧ (
    (¬ (p.2.2 4 v0 0) = 0) ∧ (
    True)))
  else (
    if v1 = (cn 1) then (
      (¬ v0 = 0) ∧ (
      (¬ (p.2.2 4 v0 1) = 0) ∧ (
      True)))
    else (
      if v1 = (cn 2) then (
        (¬ v0 = 0) ∧ (
        (¬ (p.2.2 4 v0 2) = 0) ∧ (
        True)))
      else (
        if v1 = (cn 3) then (
          (¬ v0 = 0) ∧ (
          True))
        else (
          if v1 = (cn 4) then (
            (¬ v0 = 0) ∧ (
            True))
          else (
            (¬ v0 = 0) ∧ (
            if (p.1 4 v0 5) = 0 then (
              True)
            else (
              True)))))))
noncomputable def g4_tell (p : PM) (v0 : Nat) (v1 : Int32) : Prop := bg4_tell p v0 v1
def R54 : List Row := [(0, .iload_n 1, 1, 0, (0, 0, 0, 0, 0, 0)), (1, .tableswitch 69 0 4 #[35, 43, 51, 59, 64], 35, 0, (0, 0, 0, 0, 0, 0)), (36, .aload_n 0, 1, 0, (0, 0, 0, 0, 0, 0)), (37, .getfield 7, 3, 0, (4, 0, 4, 0, 0, 0)), (40, .getfield 34, 3, 0, (1, 0, 0, 0, 0, 0)), (43, .ireturn, 1, 0, (0, 0, 0, 0, 0, 0)), (44, .aload_n 0, 1, 0, (0, 0, 0, 0, 0, 0)), (45, .getfield 13, 3, 0, (4, 1, 3, 0, 0, 0)), (48, .getfield 39, 3, 0, (0, 0, 0, 0, 0, 0)), (51, .ireturn, 1, 0, (0, 0, 0, 0, 0, 0)), (52, .aload_n 0, 1, 0, (0, 0, 0, 0, 0, 0)), (53, .getfield 17, 3, 0, (4, 2, 3, 0, 0, 0)), (56, .getfield 39, 3, 0, (0, 0, 0, 0, 0, 0)), (59, .ireturn, 1, 0, (0, 0, 0, 0, 0, 0)), (60, .aload_n 0, 1, 0, (0, 0, 0, 0, 0, 0)), (61, .getfield 20, 3, 0, (4, 3, 0, 0, 0, 0)), (64, .ireturn, 1, 0, (0, 0, 0, 0, 0, 0)), (65, .aload_n 0, 1, 0, (0, 0, 0, 0, 0, 0)), (66, .getfield 24, 3, 0, (4, 4, 0, 0, 0, 0)), (69, .ireturn, 1, 0, (0, 0, 0, 0, 0, 0)), (70, .aload_n 0, 1, 0, (0, 0, 0, 0, 0, 0)), (71, .getfield 27, 3, 0, (4, 5, 1, 0, 0, 0)), (74, .ifCond .eq 7, 3, 0, (0, 0, 0, 0, 0, 0)), (77, .iconst 1, 1, 0, (0, 0, 0, 0, 0, 1)), (78, .goto 4, 3, 0, (0, 0, 0, 0, 0, 0)), (81, .iconst 0, 1, 0, (0, 0, 0, 0, 0, 0)), (82, .ireturn, 1, 0, (0, 0, 0, 0, 0, 0))]
set_option maxRecDepth 100000 in
theorem rk54 : R54.all (rok 0 54 1 []) = true := by decide +kernel
set_option maxRecDepth 100000 in
theorem tab54 : TabOK 0 54 1 [] R54 := tab_ok (K := K54) rfl rfl (fun h => d54 h) rk54 (by decide +kernel)
set_option maxRecDepth 100000 in
theorem pc54 : cutpc [] R54 = true := by decide +kernel
set_option maxRecDepth 100000 in
theorem r4_tell (p : PM) (hg : Gr 0 p) : ∀ (v0 : Nat) (v1 : Int32), bg4_tell p v0 v1 → ZJ 0 54 0 [zR 4 v0, zI v1] [] p (hoI p (bv4_tell p v0 v1)) := by
  intro v0 v1  H
  exact roI (n := 3000) (q := 0) (la := [zR 4 v0, zI v1]) (sa := []) (ks := []) (gs := []) (fnil) tab54 pc54 trivial hg H
theorem t4_tell (p : PM) (hg : Gr 0 p) : ∀ (v0 : Nat) (v1 : Int32), g4_tell p v0 v1 → ZJ 0 54 0 [zR 4 v0, zI v1] [] p (hoI p (v4_tell p v0 v1)) := r4_tell p hg
def CC54 (F : PM → Nat → Int32 → Int32) (G : PM → Nat → Int32 → Prop) : Cal := (54, [7, 0], 1, true, fun as p => (zI (F p (ar as 0) (ai as 1)), p), fun as p => zsw (tc2 as [(8, 0), (0, 0)]) False (G p (ar as 0) (ai as 1)))
set_option maxRecDepth 100000 in
theorem okr54 (F : PM → Nat → Int32 → Int32) (G : PM → Nat → Int32 → Prop) (h : ∀ (p : PM) (v0 : Nat) (v1 : Int32), Gr 0 p → G p v0 v1 → ZJ 0 54 0 [zR 4 v0, zI v1] [] p (hoI p (F p v0 v1))) : CalOK 0 (CC54 F G) := cal_ok (m := 2) (by unfold mL; rw [mX_54]) (fun as p hg H => h p (ar as 0) (ai as 1) hg H)
theorem ok54 : CalOK 0 (CC54 v4_tell g4_tell) := okr54 v4_tell g4_tell (fun p v0 v1 hg H => t4_tell p hg v0 v1 H)
noncomputable def bv6_restore_41 (kv41 : PM → Int32 → PM) (p : PM) (v3 : Int32) : PM :=
  if v3 < (cn 40) then (
    let p5 : PM := pI p 10 ((v3).toNatClampNeg + 1) 2 (cn 0)
    kv41 p5 (v3 + (cn 1)))
  else (
    let p1 : PM := pI p 6 1 2 (cn 0)
    let p2 : PM := pI p1 6 1 3 (cn 0)
    let p3 : PM := pI p2 6 1 4 (cn 0)
    let p4 : PM := pI p3 6 1 5 (cn 0)
    p4)
noncomputable def v6_restore_41 (n : Nat) : PM → Int32 → PM := Nat.rec (motive := fun _ => PM → Int32 → PM) (fun p _ => p) (fun _ ih => bv6_restore_41 ih) n
theorem ev6_restore_41 (n : Nat) (p : PM) (v3 : Int32) : v6_restore_41 (n + 1) p v3 = bv6_restore_41 (v6_restore_41 n) p v3 := rfl
noncomputable def bg6_restore_41 (kg41 : PM → Int32 → Prop) (p : PM) (v3 : Int32) : Prop :=
  if v3 < (cn 40) then (
    (inb v3 40) ∧ (
    let p5 : PM := pI p 10 ((v3).toNatClampNeg + 1) 2 (cn 0)
    kg41 p5 (v3 + (cn 1))))
  else (
    let p1 : PM := pI p 6 1 2 (cn 0)
    let p2 : PM := pI p1 6 1 3 (cn 0)
    let p3 : PM := pI p2 6 1 4 (cn 0)
    let p4 : PM := pI p3 6 1 5 (cn 0)
    True)
noncomputable def g6_restore_41 (n : Nat) : PM → Int32 → Prop := Nat.rec (motive := fun _ => PM → Int32 → Prop) (fun _ _ => False) (fun _ ih => bg6_restore_41 ih) n
theorem eg6_restore_41 (n : Nat) (p : PM) (v3 : Int32) : g6_restore_41 (n + 1) p v3 = bg6_restore_41 (g6_restore_41 n) p v3 := rfl
noncomputable def bv6_restore_10 (F9 : PM → Nat → PM) (kv10 : PM → Int32 → PM) (kv41 : PM → Int32 → PM) (p : PM) (v3 : Int32) : PM :=
  if v3 < (cn 6) then (
    let p1 : PM := F9 p ((v3).toNatClampNeg + 1)
    kv10 p1 (v3 + (cn 1)))
  else (
    kv41 p (cn 0))
noncomputable def v6_restore_10 (n : Nat) : PM → Int32 → PM := Nat.rec (motive := fun _ => PM → Int32 → PM) (fun p _ => p) (fun _ ih => bv6_restore_10 v1_restore ih (v6_restore_41 FU)) n
theorem ev6_restore_10 (n : Nat) (p : PM) (v3 : Int32) : v6_restore_10 (n + 1) p v3 = bv6_restore_10 v1_restore (v6_restore_10 n) (v6_restore_41 FU) p v3 := rfl
noncomputable def bg6_restore_10 (F9 : PM → Nat → PM) (G9 : PM → Nat → Prop) (kg10 : PM → Int32 → Prop) (kg41 : PM → Int32 → Prop) (p : PM) (v3 : Int32) : Prop :=
  if v3 < (cn 6) then (
    (inb v3 6) ∧ (
    (G9 p ((v3).toNatClampNeg + 1)) ∧ (
    let p1 : PM := F9 p ((v3).toNatClampNeg + 1)
    kg10 p1 (v3 + (cn 1)))))
  else (
    kg41 p (cn 0))
noncomputable def g6_restore_10 (n : Nat) : PM → Int32 → Prop := Nat.rec (motive := fun _ => PM → Int32 → Prop) (fun _ _ => False) (fun _ ih => bg6_restore_10 v1_restore g1_restore ih (g6_restore_41 FU)) n
theorem eg6_restore_10 (n : Nat) (p : PM) (v3 : Int32) : g6_restore_10 (n + 1) p v3 = bg6_restore_10 v1_restore g1_restore (g6_restore_10 n) (g6_restore_41 FU) p v3 := rfl
noncomputable def bv6_restore (kv10 : PM → Int32 → PM) (p : PM) : PM :=
  kv10 p (cn 0)
noncomputable def v6_restore (p : PM) : PM := bv6_restore (v6_restore_10 FU) p
noncomputable def bg6_restore (kg10 : PM → Int32 → Prop) (p : PM) : Prop :=
  kg10 p (cn 0)
noncomputable def g6_restore (p : PM) : Prop := bg6_restore (g6_restore_10 FU) p
def R72 : List Row := [(0, .aload_n 0, 1, 0, (0, 0, 0, 0, 0, 0)), (1, .getfield 17, 3, 0, (6, 0, 20, 2, 1, 0)), (4, .astore_n 1, 1, 0, (0, 0, 0, 0, 0, 0)), (5, .aload_n 1, 1, 0, (0, 0, 0, 0, 0, 0)), (6, .arraylength, 1, 0, (17, 6, 0, 0, 0, 6)), (7, .istore_n 2, 1, 0, (0, 0, 0, 0, 0, 0)), (8, .iconst 0, 1, 0, (0, 0, 0, 0, 0, 0)), (9, .istore_n 3, 1, 0, (0, 0, 0, 0, 0, 0)), (10, .iload_n 3, 1, 1, (0, 0, 0, 0, 0, 0)), (11, .iload_n 2, 1, 0, (0, 0, 0, 0, 0, 0)), (12, .if_icmp .ge 19, 3, 0, (0, 0, 0, 0, 0, 0)), (15, .aload_n 1, 1, 0, (0, 0, 0, 0, 0, 0)), (16, .iload_n 3, 1, 0, (0, 0, 0, 0, 0, 0)), (17, .aaload, 1, 0, (17, 6, 0, 1, 1, 0)), (18, .astore 4, 2, 0, (0, 0, 0, 0, 0, 0)), (20, .aload 4, 2, 0, (0, 0, 0, 0, 0, 0)), (22, .invokevirtual 24, 3, 0, (0, 1, 0, 0, 1, 0)), (25, .iinc 3 1, 3, 0, (0, 0, 0, 0, 0, 1)), (28, .goto (-18), 3, 0, (0, 0, 0, 0, 0, 0)), (31, .aload_n 0, 1, 0, (0, 0, 0, 0, 0, 0)), (32, .getfield 11, 3, 0, (6, 1, 23, 2, 1, 0)), (35, .astore_n 1, 1, 0, (0, 0, 0, 0, 0, 0)), (36, .aload_n 1, 1, 0, (0, 0, 0, 0, 0, 0)), (37, .arraylength, 1, 0, (20, 40, 0, 0, 0, 40)), (38, .istore_n 2, 1, 0, (0, 0, 0, 0, 0, 0)), (39, .iconst 0, 1, 0, (0, 0, 0, 0, 0, 0)), (40, .istore_n 3, 1, 0, (0, 0, 0, 0, 0, 0)), (41, .iload_n 3, 1, 2, (0, 0, 0, 0, 0, 0)), (42, .iload_n 2, 1, 0, (0, 0, 0, 0, 0, 0)), (43, .if_icmp .ge 20, 3, 0, (0, 0, 0, 0, 0, 0)), (46, .aload_n 1, 1, 0, (0, 0, 0, 0, 0, 0)), (47, .iload_n 3, 1, 0, (0, 0, 0, 0, 0, 0)), (48, .aaload, 1, 0, (20, 40, 0, 1, 1, 0)), (49, .astore 4, 2, 0, (0, 0, 0, 0, 0, 0)), (51, .aload 4, 2, 0, (0, 0, 0, 0, 0, 0)), (53, .iconst 0, 1, 0, (0, 0, 0, 0, 0, 0)), (54, .putfield 29, 3, 0, (10, 2, 0, 1, 0, 0)), (57, .iinc 3 1, 3, 0, (0, 0, 0, 0, 0, 1)), (60, .goto (-19), 3, 0, (0, 0, 0, 0, 0, 0)), (63, .aload_n 0, 1, 0, (0, 0, 0, 0, 0, 0)), (64, .iconst 0, 1, 0, (0, 0, 0, 0, 0, 0)), (65, .putfield 33, 3, 0, (6, 2, 0, 1, 0, 0)), (68, .aload_n 0, 1, 0, (0, 0, 0, 0, 0, 0)), (69, .iconst 0, 1, 0, (0, 0, 0, 0, 0, 0)), (70, .putfield 36, 3, 0, (6, 3, 0, 1, 0, 0)), (73, .aload_n 0, 1, 0, (0, 0, 0, 0, 0, 0)), (74, .iconst 0, 1, 0, (0, 0, 0, 0, 0, 0)), (75, .putfield 39, 3, 0, (6, 4, 0, 1, 0, 0)), (78, .aload_n 0, 1, 0, (0, 0, 0, 0, 0, 0)), (79, .iconst 0, 1, 0, (0, 0, 0, 0, 0, 0)), (80, .putfield 42, 3, 0, (6, 5, 0, 1, 0, 0)), (83, .return_, 1, 0, (0, 0, 0, 0, 0, 0))]
set_option maxRecDepth 100000 in
theorem rk72 : R72.all (rok 0 72 0 [(9, [4])]) = true := by decide +kernel
set_option maxRecDepth 100000 in
theorem tab72 {F9 : PM → Nat → PM} {G9 : PM → Nat → Prop} : TabOK 0 72 0 [CC9 F9 G9] R72 := tab_ok (K := K72) rfl rfl (fun h => d72 h) rk72 (by decide +kernel)
set_option maxRecDepth 100000 in
theorem pc72 : cutpc [10, 41] R72 = true := by decide +kernel
set_option maxRecDepth 100000 in
theorem r6_restore_41 (F9 : PM → Nat → PM) (G9 : PM → Nat → Prop) (o9 : CalOK 0 (CC9 F9 G9)) (kv41 : PM → Int32 → PM) (kg41 : PM → Int32 → Prop) (hk41 : ∀ (p : PM) (v3 : Int32) (d4 : ZV), Gr 0 p → kg41 p v3 → ZJ 0 72 41 [zR 6 1, zR 20 1, zC 40, zI v3, d4] [] p (hwV (kv41 p v3))) : ∀ (p : PM) (v3 : Int32) (d4 : ZV), Gr 0 p → bg6_restore_41 kg41 p v3 → ZJ 0 72 41 [zR 6 1, zR 20 1, zC 40, zI v3, d4] [] p (hwV (bv6_restore_41 kv41 p v3)) := by
  intro p v3 d4 hg H
  exact rwV (n := 3000) (q := 41) (la := [zR 6 1, zR 20 1, zC 40, zI v3, d4]) (sa := []) (ks := [fun _ _ s => s, fun la sa s => kv41 s (ai la 3)]) (gs := [fun _ _ _ => False, fun la sa s => zsw (tc2 la [(106, 1), (120, 1), (3, 40), (0, 0), (2, 0)] && tc2 sa []) False (kg41 s (ai la 3))]) (fcons o9 (fnil)) tab72 pc72 ⟨fun _ _ _ _ H => H.elim, fun la sa s hg H => zcut H fun H => hk41 s (ai la 3) (zld la 4) hg H, trivial⟩ hg H
theorem t6_restore_41 : ∀ (n : Nat), ∀ (p : PM) (v3 : Int32) (d4 : ZV), Gr 0 p → g6_restore_41 n p v3 → ZJ 0 72 41 [zR 6 1, zR 20 1, zC 40, zI v3, d4] [] p (hwV (v6_restore_41 n p v3)) := by
  intro n
  induction n with
  | zero =>
    intro p v3 d4 hg H
    exact H.elim
  | succ n ih => exact r6_restore_41 v1_restore g1_restore ok9 (v6_restore_41 n) (g6_restore_41 n) ih
set_option maxRecDepth 100000 in
theorem r6_restore_10 (F9 : PM → Nat → PM) (G9 : PM → Nat → Prop) (o9 : CalOK 0 (CC9 F9 G9)) (kv10 : PM → Int32 → PM) (kg10 : PM → Int32 → Prop) (hk10 : ∀ (p : PM) (v3 : Int32) (d4 : ZV), Gr 0 p → kg10 p v3 → ZJ 0 72 10 [zR 6 1, zR 17 1, zC 6, zI v3, d4] [] p (hwV (kv10 p v3))) (kv41 : PM → Int32 → PM) (kg41 : PM → Int32 → Prop) (hk41 : ∀ (p : PM) (v3 : Int32) (d4 : ZV), Gr 0 p → kg41 p v3 → ZJ 0 72 41 [zR 6 1, zR 20 1, zC 40, zI v3, d4] [] p (hwV (kv41 p v3))) : ∀ (p : PM) (v3 : Int32) (d4 : ZV), Gr 0 p → bg6_restore_10 F9 G9 kg10 kg41 p v3 → ZJ 0 72 10 [zR 6 1, zR 17 1, zC 6, zI v3, d4] [] p (hwV (bv6_restore_10 F9 kv10 kv41 p v3)) := by
  intro p v3 d4 hg H
  exact rwV (n := 3000) (q := 10) (la := [zR 6 1, zR 17 1, zC 6, zI v3, d4]) (sa := []) (ks := [fun la sa s => kv10 s (ai la 3), fun la sa s => kv41 s (ai la 3)]) (gs := [fun la sa s => zsw (tc2 la [(106, 1), (117, 1), (3, 6), (0, 0), (2, 0)] && tc2 sa []) False (kg10 s (ai la 3)), fun la sa s => zsw (tc2 la [(106, 1), (120, 1), (3, 40), (0, 0), (2, 0)] && tc2 sa []) False (kg41 s (ai la 3))]) (fcons o9 (fnil)) tab72 pc72 ⟨fun la sa s hg H => zcut H fun H => hk10 s (ai la 3) (zld la 4) hg H, fun la sa s hg H => zcut H fun H => hk41 s (ai la 3) (zld la 4) hg H, trivial⟩ hg H
theorem t6_restore_10 : ∀ (n : Nat), ∀ (p : PM) (v3 : Int32) (d4 : ZV), Gr 0 p → g6_restore_10 n p v3 → ZJ 0 72 10 [zR 6 1, zR 17 1, zC 6, zI v3, d4] [] p (hwV (v6_restore_10 n p v3)) := by
  intro n
  induction n with
  | zero =>
    intro p v3 d4 hg H
    exact H.elim
  | succ n ih => exact r6_restore_10 v1_restore g1_restore ok9 (v6_restore_10 n) (g6_restore_10 n) ih (v6_restore_41 FU) (g6_restore_41 FU) (t6_restore_41 FU)
set_option maxRecDepth 100000 in
theorem r6_restore (F9 : PM → Nat → PM) (G9 : PM → Nat → Prop) (o9 : CalOK 0 (CC9 F9 G9)) (kv10 : PM → Int32 → PM) (kg10 : PM → Int32 → Prop) (hk10 : ∀ (p : PM) (v3 : Int32) (d4 : ZV), Gr 0 p → kg10 p v3 → ZJ 0 72 10 [zR 6 1, zR 17 1, zC 6, zI v3, d4] [] p (hwV (kv10 p v3))) : ∀ (p : PM), Gr 0 p → bg6_restore kg10 p → ZJ 0 72 0 [zR 6 1, zJ, zJ, zJ, zJ] [] p (hwV (bv6_restore kv10 p)) := by
  intro p   hg H
  exact rwV (n := 3000) (q := 0) (la := [zR 6 1, zJ, zJ, zJ, zJ]) (sa := []) (ks := [fun la sa s => kv10 s (ai la 3), fun _ _ s => s]) (gs := [fun la sa s => zsw (tc2 la [(106, 1), (117, 1), (3, 6), (0, 0), (2, 0)] && tc2 sa []) False (kg10 s (ai la 3)), fun _ _ _ => False]) (fcons o9 (fnil)) tab72 pc72 ⟨fun la sa s hg H => zcut H fun H => hk10 s (ai la 3) (zld la 4) hg H, fun _ _ _ _ H => H.elim, trivial⟩ hg H
theorem t6_restore : ∀ (p : PM), Gr 0 p → g6_restore p → ZJ 0 72 0 [zR 6 1, zJ, zJ, zJ, zJ] [] p (hwV (v6_restore p)) := r6_restore v1_restore g1_restore ok9 (v6_restore_10 FU) (g6_restore_10 FU) (t6_restore_10 FU)
def CC72 (F : PM → PM) (G : PM → Prop) : Cal := (72, [9], 0, false, fun as p => (zJ, (F p )), fun as p => zsw (tc2 as [(106, 1)]) False (G p ))
set_option maxRecDepth 100000 in
theorem okr72 (F : PM → PM) (G : PM → Prop) (h : ∀ (p : PM), Gr 0 p → G p  → ZJ 0 72 0 [zR 6 1, zJ, zJ, zJ, zJ] [] p (hwV (F p ))) : CalOK 0 (CC72 F G) := cal_ok (m := 5) (by unfold mL; rw [mX_72]) (fun as p hg H => h p  hg H)
theorem ok72 : CalOK 0 (CC72 v6_restore g6_restore) := okr72 v6_restore g6_restore t6_restore
noncomputable def bv7_restore_41 (kv41 : PM → Int32 → PM) (p : PM) (v3 : Int32) : PM :=
  if v3 < (cn 60) then (
    let p2 : PM := pI p 4 ((v3).toNatClampNeg + 1) 6 (cn 0)
    kv41 p2 (v3 + (cn 1)))
  else (
    let p1 : PM := pI p 7 1 2 (cn 0)
    p1)
noncomputable def v7_restore_41 (n : Nat) : PM → Int32 → PM := Nat.rec (motive := fun _ => PM → Int32 → PM) (fun p _ => p) (fun _ ih => bv7_restore_41 ih) n
theorem ev7_restore_41 (n : Nat) (p : PM) (v3 : Int32) : v7_restore_41 (n + 1) p v3 = bv7_restore_41 (v7_restore_41 n) p v3 := rfl
noncomputable def bg7_restore_41 (kg41 : PM → Int32 → Prop) (p : PM) (v3 : Int32) : Prop :=
  if v3 < (cn 60) then (
    (inb v3 60) ∧ (
    let p2 : PM := pI p 4 ((v3).toNatClampNeg + 1) 6 (cn 0)
    kg41 p2 (v3 + (cn 1))))
  else (
    let p1 : PM := pI p 7 1 2 (cn 0)
    True)
noncomputable def g7_restore_41 (n : Nat) : PM → Int32 → Prop := Nat.rec (motive := fun _ => PM → Int32 → Prop) (fun _ _ => False) (fun _ ih => bg7_restore_41 ih) n
theorem eg7_restore_41 (n : Nat) (p : PM) (v3 : Int32) : g7_restore_41 (n + 1) p v3 = bg7_restore_41 (g7_restore_41 n) p v3 := rfl
noncomputable def bv7_restore_10 (F1 : PM → Nat → PM) (kv10 : PM → Int32 → PM) (kv41 : PM → Int32 → PM) (p : PM) (v3 : Int32) : PM :=
  if v3 < (cn 9) then (
    let p1 : PM := F1 p ((v3).toNatClampNeg + 1)
    kv10 p1 (v3 + (cn 1)))
  else (
    kv41 p (cn 0))
noncomputable def v7_restore_10 (n : Nat) : PM → Int32 → PM := Nat.rec (motive := fun _ => PM → Int32 → PM) (fun p _ => p) (fun _ ih => bv7_restore_10 v0_restore ih (v7_restore_41 FU)) n
theorem ev7_restore_10 (n : Nat) (p : PM) (v3 : Int32) : v7_restore_10 (n + 1) p v3 = bv7_restore_10 v0_restore (v7_restore_10 n) (v7_restore_41 FU) p v3 := rfl
noncomputable def bg7_restore_10 (F1 : PM → Nat → PM) (G1 : PM → Nat → Prop) (kg10 : PM → Int32 → Prop) (kg41 : PM → Int32 → Prop) (p : PM) (v3 : Int32) : Prop :=
  if v3 < (cn 9) then (
    (inb v3 9) ∧ (
    (G1 p ((v3).toNatClampNeg + 1)) ∧ (
    let p1 : PM := F1 p ((v3).toNatClampNeg + 1)
    kg10 p1 (v3 + (cn 1)))))
  else (
    kg41 p (cn 0))
noncomputable def g7_restore_10 (n : Nat) : PM → Int32 → Prop := Nat.rec (motive := fun _ => PM → Int32 → Prop) (fun _ _ => False) (fun _ ih => bg7_restore_10 v0_restore g0_restore ih (g7_restore_41 FU)) n
theorem eg7_restore_10 (n : Nat) (p : PM) (v3 : Int32) : g7_restore_10 (n + 1) p v3 = bg7_restore_10 v0_restore g0_restore (g7_restore_10 n) (g7_restore_41 FU) p v3 := rfl
noncomputable def bv7_restore (kv10 : PM → Int32 → PM) (p : PM) : PM :=
  kv10 p (cn 0)
noncomputable def v7_restore (p : PM) : PM := bv7_restore (v7_restore_10 FU) p
noncomputable def bg7_restore (kg10 : PM → Int32 → Prop) (p : PM) : Prop :=
  kg10 p (cn 0)
noncomputable def g7_restore (p : PM) : Prop := bg7_restore (g7_restore_10 FU) p
def R103 : List Row := [(0, .aload_n 0, 1, 0, (0, 0, 0, 0, 0, 0)), (1, .getfield 11, 3, 0, (7, 0, 19, 2, 1, 0)), (4, .astore_n 1, 1, 0, (0, 0, 0, 0, 0, 0)), (5, .aload_n 1, 1, 0, (0, 0, 0, 0, 0, 0)), (6, .arraylength, 1, 0, (16, 9, 0, 0, 0, 9)), (7, .istore_n 2, 1, 0, (0, 0, 0, 0, 0, 0)), (8, .iconst 0, 1, 0, (0, 0, 0, 0, 0, 0)), (9, .istore_n 3, 1, 0, (0, 0, 0, 0, 0, 0)), (10, .iload_n 3, 1, 1, (0, 0, 0, 0, 0, 0)), (11, .iload_n 2, 1, 0, (0, 0, 0, 0, 0, 0)), (12, .if_icmp .ge 19, 3, 0, (0, 0, 0, 0, 0, 0)), (15, .aload_n 1, 1, 0, (0, 0, 0, 0, 0, 0)), (16, .iload_n 3, 1, 0, (0, 0, 0, 0, 0, 0)), (17, .aaload, 1, 0, (16, 9, 0, 1, 1, 0)), (18, .astore 4, 2, 0, (0, 0, 0, 0, 0, 0)), (20, .aload 4, 2, 0, (0, 0, 0, 0, 0, 0)), (22, .invokevirtual 29, 3, 0, (0, 1, 0, 0, 1, 0)), (25, .iinc 3 1, 3, 0, (0, 0, 0, 0, 0, 1)), (28, .goto (-18), 3, 0, (0, 0, 0, 0, 0, 0)), (31, .aload_n 0, 1, 0, (0, 0, 0, 0, 0, 0)), (32, .getfield 19, 3, 0, (7, 1, 21, 2, 1, 0)), (35, .astore_n 1, 1, 0, (0, 0, 0, 0, 0, 0)), (36, .aload_n 1, 1, 0, (0, 0, 0, 0, 0, 0)), (37, .arraylength, 1, 0, (18, 60, 0, 0, 0, 60)), (38, .istore_n 2, 1, 0, (0, 0, 0, 0, 0, 0)), (39, .iconst 0, 1, 0, (0, 0, 0, 0, 0, 0)), (40, .istore_n 3, 1, 0, (0, 0, 0, 0, 0, 0)), (41, .iload_n 3, 1, 2, (0, 0, 0, 0, 0, 0)), (42, .iload_n 2, 1, 0, (0, 0, 0, 0, 0, 0)), (43, .if_icmp .ge 20, 3, 0, (0, 0, 0, 0, 0, 0)), (46, .aload_n 1, 1, 0, (0, 0, 0, 0, 0, 0)), (47, .iload_n 3, 1, 0, (0, 0, 0, 0, 0, 0)), (48, .aaload, 1, 0, (18, 60, 0, 1, 1, 0)), (49, .astore 4, 2, 0, (0, 0, 0, 0, 0, 0)), (51, .aload 4, 2, 0, (0, 0, 0, 0, 0, 0)), (53, .iconst 0, 1, 0, (0, 0, 0, 0, 0, 0)), (54, .putfield 32, 3, 0, (4, 6, 1, 1, 0, 0)), (57, .iinc 3 1, 3, 0, (0, 0, 0, 0, 0, 1)), (60, .goto (-19), 3, 0, (0, 0, 0, 0, 0, 0)), (63, .aload_n 0, 1, 0, (0, 0, 0, 0, 0, 0)), (64, .iconst 0, 1, 0, (0, 0, 0, 0, 0, 0)), (65, .putfield 36, 3, 0, (7, 2, 0, 1, 0, 0)), (68, .return_, 1, 0, (0, 0, 0, 0, 0, 0))]
set_option maxRecDepth 100000 in
theorem rk103 : R103.all (rok 0 103 0 [(1, [3])]) = true := by decide +kernel
set_option maxRecDepth 100000 in
theorem tab103 {F1 : PM → Nat → PM} {G1 : PM → Nat → Prop} : TabOK 0 103 0 [CC1 F1 G1] R103 := tab_ok (K := K103) rfl rfl (fun h => d103 h) rk103 (by decide +kernel)
set_option maxRecDepth 100000 in
theorem pc103 : cutpc [10, 41] R103 = true := by decide +kernel
set_option maxRecDepth 100000 in
theorem r7_restore_41 (F1 : PM → Nat → PM) (G1 : PM → Nat → Prop) (o1 : CalOK 0 (CC1 F1 G1)) (kv41 : PM → Int32 → PM) (kg41 : PM → Int32 → Prop) (hk41 : ∀ (p : PM) (v3 : Int32) (d4 : ZV), Gr 0 p → kg41 p v3 → ZJ 0 103 41 [zR 7 1, zR 18 1, zC 60, zI v3, d4] [] p (hwV (kv41 p v3))) : ∀ (p : PM) (v3 : Int32) (d4 : ZV), Gr 0 p → bg7_restore_41 kg41 p v3 → ZJ 0 103 41 [zR 7 1, zR 18 1, zC 60, zI v3, d4] [] p (hwV (bv7_restore_41 kv41 p v3)) := by
  intro p v3 d4 hg H
  exact rwV (n := 3000) (q := 41) (la := [zR 7 1, zR 18 1, zC 60, zI v3, d4]) (sa := []) (ks := [fun _ _ s => s, fun la sa s => kv41 s (ai la 3)]) (gs := [fun _ _ _ => False, fun la sa s => zsw (tc2 la [(107, 1), (118, 1), (3, 60), (0, 0), (2, 0)] && tc2 sa []) False (kg41 s (ai la 3))]) (fcons o1 (fnil)) tab103 pc103 ⟨fun _ _ _ _ H => H.elim, fun la sa s hg H => zcut H fun H => hk41 s (ai la 3) (zld la 4) hg H, trivial⟩ hg H
theorem t7_restore_41 : ∀ (n : Nat), ∀ (p : PM) (v3 : Int32) (d4 : ZV), Gr 0 p → g7_restore_41 n p v3 → ZJ 0 103 41 [zR 7 1, zR 18 1, zC 60, zI v3, d4] [] p (hwV (v7_restore_41 n p v3)) := by
  intro n
  induction n with
  | zero =>
    intro p v3 d4 hg H
    exact H.elim
  | succ n ih => exact r7_restore_41 v0_restore g0_restore ok1 (v7_restore_41 n) (g7_restore_41 n) ih
set_option maxRecDepth 100000 in
theorem r7_restore_10 (F1 : PM → Nat → PM) (G1 : PM → Nat → Prop) (o1 : CalOK 0 (CC1 F1 G1)) (kv10 : PM → Int32 → PM) (kg10 : PM → Int32 → Prop) (hk10 : ∀ (p : PM) (v3 : Int32) (d4 : ZV), Gr 0 p → kg10 p v3 → ZJ 0 103 10 [zR 7 1, zR 16 1, zC 9, zI v3, d4] [] p (hwV (kv10 p v3))) (kv41 : PM → Int32 → PM) (kg41 : PM → Int32 → Prop) (hk41 : ∀ (p : PM) (v3 : Int32) (d4 : ZV), Gr 0 p → kg41 p v3 → ZJ 0 103 41 [zR 7 1, zR 18 1, zC 60, zI v3, d4] [] p (hwV (kv41 p v3))) : ∀ (p : PM) (v3 : Int32) (d4 : ZV), Gr 0 p → bg7_restore_10 F1 G1 kg10 kg41 p v3 → ZJ 0 103 10 [zR 7 1, zR 16 1, zC 9, zI v3, d4] [] p (hwV (bv7_restore_10 F1 kv10 kv41 p v3)) := by
  intro p v3 d4 hg H
  exact rwV (n := 3000) (q := 10) (la := [zR 7 1, zR 16 1, zC 9, zI v3, d4]) (sa := []) (ks := [fun la sa s => kv10 s (ai la 3), fun la sa s => kv41 s (ai la 3)]) (gs := [fun la sa s => zsw (tc2 la [(107, 1), (116, 1), (3, 9), (0, 0), (2, 0)] && tc2 sa []) False (kg10 s (ai la 3)), fun la sa s => zsw (tc2 la [(107, 1), (118, 1), (3, 60), (0, 0), (2, 0)] && tc2 sa []) False (kg41 s (ai la 3))]) (fcons o1 (fnil)) tab103 pc103 ⟨fun la sa s hg H => zcut H fun H => hk10 s (ai la 3) (zld la 4) hg H, fun la sa s hg H => zcut H fun H => hk41 s (ai la 3) (zld la 4) hg H, trivial⟩ hg H
theorem t7_restore_10 : ∀ (n : Nat), ∀ (p : PM) (v3 : Int32) (d4 : ZV), Gr 0 p → g7_restore_10 n p v3 → ZJ 0 103 10 [zR 7 1, zR 16 1, zC 9, zI v3, d4] [] p (hwV (v7_restore_10 n p v3)) := by
  intro n
  induction n with
  | zero =>
    intro p v3 d4 hg H
    exact H.elim
  | succ n ih => exact r7_restore_10 v0_restore g0_restore ok1 (v7_restore_10 n) (g7_restore_10 n) ih (v7_restore_41 FU) (g7_restore_41 FU) (t7_restore_41 FU)
set_option maxRecDepth 100000 in
theorem r7_restore (F1 : PM → Nat → PM) (G1 : PM → Nat → Prop) (o1 : CalOK 0 (CC1 F1 G1)) (kv10 : PM → Int32 → PM) (kg10 : PM → Int32 → Prop) (hk10 : ∀ (p : PM) (v3 : Int32) (d4 : ZV), Gr 0 p → kg10 p v3 → ZJ 0 103 10 [zR 7 1, zR 16 1, zC 9, zI v3, d4] [] p (hwV (kv10 p v3))) : ∀ (p : PM), Gr 0 p → bg7_restore kg10 p → ZJ 0 103 0 [zR 7 1, zJ, zJ, zJ, zJ] [] p (hwV (bv7_restore kv10 p)) := by
  intro p   hg H
  exact rwV (n := 3000) (q := 0) (la := [zR 7 1, zJ, zJ, zJ, zJ]) (sa := []) (ks := [fun la sa s => kv10 s (ai la 3), fun _ _ s => s]) (gs := [fun la sa s => zsw (tc2 la [(107, 1), (116, 1), (3, 9), (0, 0), (2, 0)] && tc2 sa []) False (kg10 s (ai la 3)), fun _ _ _ => False]) (fcons o1 (fnil)) tab103 pc103 ⟨fun la sa s hg H => zcut H fun H => hk10 s (ai la 3) (zld la 4) hg H, fun _ _ _ _ H => H.elim, trivial⟩ hg H
theorem t7_restore : ∀ (p : PM), Gr 0 p → g7_restore p → ZJ 0 103 0 [zR 7 1, zJ, zJ, zJ, zJ] [] p (hwV (v7_restore p)) := r7_restore v0_restore g0_restore ok1 (v7_restore_10 FU) (g7_restore_10 FU) (t7_restore_10 FU)
def CC103 (F : PM → PM) (G : PM → Prop) : Cal := (103, [10], 0, false, fun as p => (zJ, (F p )), fun as p => zsw (tc2 as [(107, 1)]) False (G p ))
set_option maxRecDepth 100000 in
theorem okr103 (F : PM → PM) (G : PM → Prop) (h : ∀ (p : PM), Gr 0 p → G p  → ZJ 0 103 0 [zR 7 1, zJ, zJ, zJ, zJ] [] p (hwV (F p ))) : CalOK 0 (CC103 F G) := cal_ok (m := 5) (by unfold mL; rw [mX_103]) (fun as p hg H => h p  hg H)
theorem ok103 : CalOK 0 (CC103 v7_restore g7_restore) := okr103 v7_restore g7_restore t7_restore
noncomputable def bv5_restore (F17 : PM → PM) (F72 : PM → PM) (F103 : PM → PM) (p : PM) : PM :=
  let p1 : PM := F72 p
  let p2 : PM := F103 p1
  let p3 : PM := F17 p2
  p3
noncomputable def v5_restore (p : PM) : PM := bv5_restore v2_restore v6_restore v7_restore p
noncomputable def bg5_restore (F17 : PM → PM) (G17 : PM → Prop) (F72 : PM → PM) (G72 : PM → Prop) (F103 : PM → PM) (G103 : PM → Prop) (p : PM) : Prop :=
  (G72 p) ∧ (
  let p1 : PM := F72 p
  (G103 p1) ∧ (
  let p2 : PM := F103 p1
  (G17 p2) ∧ (
  let p3 : PM := F17 p2
  True)))
noncomputable def g5_restore (p : PM) : Prop := bg5_restore v2_restore g2_restore v6_restore g6_restore v7_restore g7_restore p
def R56 : List Row := [(0, .aload_n 0, 1, 0, (0, 0, 0, 0, 0, 0)), (1, .getfield 34, 3, 0, (5, 0, 9, 2, 1, 0)), (4, .invokevirtual 64, 3, 0, (0, 1, 0, 0, 1, 0)), (7, .aload_n 0, 1, 0, (0, 0, 0, 0, 0, 0)), (8, .getfield 19, 3, 0, (5, 1, 10, 2, 1, 0)), (11, .invokevirtual 65, 3, 0, (1, 1, 0, 0, 1, 0)), (14, .aload_n 0, 1, 0, (0, 0, 0, 0, 0, 0)), (15, .getfield 57, 3, 0, (5, 4, 5, 2, 1, 0)), (18, .invokevirtual 66, 3, 0, (2, 1, 0, 0, 1, 0)), (21, .return_, 1, 0, (0, 0, 0, 0, 0, 0))]
set_option maxRecDepth 100000 in
theorem rk56 : R56.all (rok 0 56 0 [(72, [9]), (103, [10]), (17, [5])]) = true := by decide +kernel
set_option maxRecDepth 100000 in
theorem tab56 {F72 : PM → PM} {G72 : PM → Prop} {F103 : PM → PM} {G103 : PM → Prop} {F17 : PM → PM} {G17 : PM → Prop} : TabOK 0 56 0 [CC72 F72 G72, CC103 F103 G103, CC17 F17 G17] R56 := tab_ok (K := K56) rfl rfl (fun h => d56 h) rk56 (by decide +kernel)
set_option maxRecDepth 100000 in
theorem pc56 : cutpc [] R56 = true := by decide +kernel
set_option maxRecDepth 100000 in
theorem r5_restore (F72 : PM → PM) (G72 : PM → Prop) (o72 : CalOK 0 (CC72 F72 G72)) (F103 : PM → PM) (G103 : PM → Prop) (o103 : CalOK 0 (CC103 F103 G103)) (F17 : PM → PM) (G17 : PM → Prop) (o17 : CalOK 0 (CC17 F17 G17)) : ∀ (p : PM), Gr 0 p → bg5_restore F17 G17 F72 G72 F103 G103 p → ZJ 0 56 0 [zR 5 1] [] p (hwV (bv5_restore F17 F72 F103 p)) := by
  intro p   hg H
  exact rwV (n := 3000) (q := 0) (la := [zR 5 1]) (sa := []) (ks := []) (gs := []) (fcons o72 (fcons o103 (fcons o17 (fnil)))) tab56 pc56 trivial hg H
theorem t5_restore : ∀ (p : PM), Gr 0 p → g5_restore p → ZJ 0 56 0 [zR 5 1] [] p (hwV (v5_restore p)) := r5_restore v6_restore g6_restore ok72 v7_restore g7_restore ok103 v2_restore g2_restore ok17
def CC56 (F : PM → PM) (G : PM → Prop) : Cal := (56, [8], 0, false, fun as p => (zJ, (F p )), fun as p => zsw (tc2 as [(105, 1)]) False (G p ))
set_option maxRecDepth 100000 in
theorem okr56 (F : PM → PM) (G : PM → Prop) (h : ∀ (p : PM), Gr 0 p → G p  → ZJ 0 56 0 [zR 5 1] [] p (hwV (F p ))) : CalOK 0 (CC56 F G) := cal_ok (m := 1) (by unfold mL; rw [mX_56]) (fun as p hg H => h p  hg H)
theorem ok56 : CalOK 0 (CC56 v5_restore g5_restore) := okr56 v5_restore g5_restore t5_restore
noncomputable def bv6_countLive_13 (p : PM) (kv13 : Int32 → Int32 → Int32) (v1 : Int32) (v4 : Int32) : Int32 :=
  if v4 < (cn 40) then (
    if (p.1 10 ((v4).toNatClampNeg + 1) 2) = 0 then (
      kv13 v1 (v4 + (cn 1)))
    else (
      kv13 (v1 + (cn 1)) (v4 + (cn 1))))
  else (
    v1)
noncomputable def v6_countLive_13 (p : PM) (n : Nat) : Int32 → Int32 → Int32 := Nat.rec (motive := fun _ => Int32 → Int32 → Int32) (fun _ _ => 0) (fun _ ih => bv6_countLive_13 p ih) n
theorem ev6_countLive_13 (p : PM) (n : Nat) (v1 : Int32) (v4 : Int32) : v6_countLive_13 p (n + 1) v1 v4 = bv6_countLive_13 p (v6_countLive_13 p n) v1 v4 := rfl
noncomputable def bg6_countLive_13 (p : PM) (kg13 : Int32 → Int32 → Prop) (v1 : Int32) (v4 : Int32) : Prop :=
  if v4 < (cn 40) then (
    (inb v4 40) ∧ (
    if (p.1 10 ((v4).toNatClampNeg + 1) 2) = 0 then (
      kg13 v1 (v4 + (cn 1)))
    else (
      kg13 (v1 + (cn 1)) (v4 + (cn 1)))))
  else (
    True)
noncomputable def g6_countLive_13 (p : PM) (n : Nat) : Int32 → Int32 → Prop := Nat.rec (motive := fun _ => Int32 → Int32 → Prop) (fun _ _ => False) (fun _ ih => bg6_countLive_13 p ih) n
theorem eg6_countLive_13 (p : PM) (n : Nat) (v1 : Int32) (v4 : Int32) : g6_countLive_13 p (n + 1) v1 v4 = bg6_countLive_13 p (g6_countLive_13 p n) v1 v4 := rfl
noncomputable def bv6_countLive (p : PM) (kv13 : Int32 → Int32 → Int32) : Int32 :=
  kv13 (cn 0) (cn 0)
noncomputable def v6_countLive (p : PM) : Int32 := bv6_countLive p (v6_countLive_13 p FU)
noncomputable def bg6_countLive (p : PM) (kg13 : Int32 → Int32 → Prop) : Prop :=
  kg13 (cn 0) (cn 0)
noncomputable def g6_countLive (p : PM) : Prop := bg6_countLive p (g6_countLive_13 p FU)
def R75 : List Row := [(0, .iconst 0, 1, 0, (0, 0, 0, 0, 0, 0)), (1, .istore_n 1, 1, 0, (0, 0, 0, 0, 0, 0)), (2, .aload_n 0, 1, 0, (0, 0, 0, 0, 0, 0)), (3, .getfield 11, 3, 0, (6, 1, 23, 2, 1, 0)), (6, .astore_n 2, 1, 0, (0, 0, 0, 0, 0, 0)), (7, .aload_n 2, 1, 0, (0, 0, 0, 0, 0, 0)), (8, .arraylength, 1, 0, (20, 40, 0, 0, 0, 40)), (9, .istore_n 3, 1, 0, (0, 0, 0, 0, 0, 0)), (10, .iconst 0, 1, 0, (0, 0, 0, 0, 0, 0)), (11, .istore 4, 2, 0, (0, 0, 0, 0, 0, 0)), (13, .iload 4, 2, 1, (0, 0, 0, 0, 0, 0)), (15, .iload_n 3, 1, 0, (0, 0, 0, 0, 0, 0)), (16, .if_icmp .ge 26, 3, 0, (0, 0, 0, 0, 0, 0)), (19, .aload_n 2, 1, 0, (0, 0, 0, 0, 0, 0)), (20, .iload 4, 2, 0, (0, 0, 0, 0, 0, 0)), (22, .aaload, 1, 0, (20, 40, 0, 1, 1, 0)), (23, .astore 5, 2, 0, (0, 0, 0, 0, 0, 0)), (25, .aload 5, 2, 0, (0, 0, 0, 0, 0, 0)), (27, .getfield 29, 3, 0, (10, 2, 0, 1, 0, 0)), (30, .ifCond .eq 6, 3, 0, (0, 0, 0, 0, 0, 0)), (33, .iinc 1 1, 3, 0, (0, 0, 0, 0, 0, 1)), (36, .iinc 4 1, 3, 0, (0, 0, 0, 0, 0, 1)), (39, .goto (-26), 3, 0, (0, 0, 0, 0, 0, 0)), (42, .iload_n 1, 1, 0, (0, 0, 0, 0, 0, 0)), (43, .ireturn, 1, 0, (0, 0, 0, 0, 0, 0))]
set_option maxRecDepth 100000 in
theorem rk75 : R75.all (rok 0 75 1 []) = true := by decide +kernel
set_option maxRecDepth 100000 in
theorem tab75 : TabOK 0 75 1 [] R75 := tab_ok (K := K75) rfl rfl (fun h => d75 h) rk75 (by decide +kernel)
set_option maxRecDepth 100000 in
theorem pc75 : cutpc [13] R75 = true := by decide +kernel
set_option maxRecDepth 100000 in
theorem r6_countLive_13 (p : PM) (hg : Gr 0 p) (kv13 : Int32 → Int32 → Int32) (kg13 : Int32 → Int32 → Prop) (hk13 : ∀ (v1 : Int32) (v4 : Int32) (d0 d5 : ZV), kg13 v1 v4 → ZJ 0 75 13 [d0, zI v1, zR 20 1, zC 40, zI v4, d5] [] p (hoI p (kv13 v1 v4))) : ∀ (v1 : Int32) (v4 : Int32) (d0 d5 : ZV), bg6_countLive_13 p kg13 v1 v4 → ZJ 0 75 13 [d0, zI v1, zR 20 1, zC 40, zI v4, d5] [] p (hoI p (bv6_countLive_13 p kv13 v1 v4)) := by
  intro v1 v4 d0 d5 H
  exact roI (n := 3000) (q := 13) (la := [d0, zI v1, zR 20 1, zC 40, zI v4, d5]) (sa := []) (ks := [fun la sa _ => kv13 (ai la 1) (ai la 4)]) (gs := [fun la sa _ => zsw (tc2 la [(2, 0), (0, 0), (120, 1), (3, 40), (0, 0), (2, 0)] && tc2 sa []) False (kg13 (ai la 1) (ai la 4))]) (fnil) tab75 pc75 ⟨fun la sa s hg H => zcut H fun H => hk13 (ai la 1) (ai la 4) (zld la 0) (zld la 5) H, trivial⟩ hg H
theorem t6_countLive_13 (p : PM) (hg : Gr 0 p) : ∀ (n : Nat), ∀ (v1 : Int32) (v4 : Int32) (d0 d5 : ZV), g6_countLive_13 p n v1 v4 → ZJ 0 75 13 [d0, zI v1, zR 20 1, zC 40, zI v4, d5] [] p (hoI p (v6_countLive_13 p n v1 v4)) := by
  intro n
  induction n with
  | zero =>
    intro v1 v4 d0 d5 H
    exact H.elim
  | succ n ih => exact r6_countLive_13 p hg (v6_countLive_13 p n) (g6_countLive_13 p n) ih
set_option maxRecDepth 100000 in
theorem r6_countLive (p : PM) (hg : Gr 0 p) (kv13 : Int32 → Int32 → Int32) (kg13 : Int32 → Int32 → Prop) (hk13 : ∀ (v1 : Int32) (v4 : Int32) (d0 d5 : ZV), kg13 v1 v4 → ZJ 0 75 13 [d0, zI v1, zR 20 1, zC 40, zI v4, d5] [] p (hoI p (kv13 v1 v4))) : bg6_countLive p kg13 → ZJ 0 75 0 [zR 6 1, zJ, zJ, zJ, zJ, zJ] [] p (hoI p (bv6_countLive p kv13)) := by
  intro   H
  exact roI (n := 3000) (q := 0) (la := [zR 6 1, zJ, zJ, zJ, zJ, zJ]) (sa := []) (ks := [fun la sa _ => kv13 (ai la 1) (ai la 4)]) (gs := [fun la sa _ => zsw (tc2 la [(2, 0), (0, 0), (120, 1), (3, 40), (0, 0), (2, 0)] && tc2 sa []) False (kg13 (ai la 1) (ai la 4))]) (fnil) tab75 pc75 ⟨fun la sa s hg H => zcut H fun H => hk13 (ai la 1) (ai la 4) (zld la 0) (zld la 5) H, trivial⟩ hg H
theorem t6_countLive (p : PM) (hg : Gr 0 p) : g6_countLive p → ZJ 0 75 0 [zR 6 1, zJ, zJ, zJ, zJ, zJ] [] p (hoI p (v6_countLive p)) := r6_countLive p hg (v6_countLive_13 p FU) (g6_countLive_13 p FU) (t6_countLive_13 p hg FU)
def CC75 (F : PM → Int32) (G : PM → Prop) : Cal := (75, [9], 1, true, fun as p => (zI (F p ), p), fun as p => zsw (tc2 as [(106, 1)]) False (G p ))
set_option maxRecDepth 100000 in
theorem okr75 (F : PM → Int32) (G : PM → Prop) (h : ∀ (p : PM), Gr 0 p → G p  → ZJ 0 75 0 [zR 6 1, zJ, zJ, zJ, zJ, zJ] [] p (hoI p (F p ))) : CalOK 0 (CC75 F G) := cal_ok (m := 6) (by unfold mL; rw [mX_75]) (fun as p hg H => h p  hg H)
theorem ok75 : CalOK 0 (CC75 v6_countLive g6_countLive) := okr75 v6_countLive g6_countLive (fun p  hg H => t6_countLive p hg  H)
noncomputable def bv10_addsTo (p : PM) (v0 : Nat) (v1 : Int32) (v2 : Int32) : Int32 :=
  if (p.1 1 (p.2.2 10 v0 4) 1) = v1 then (
    if (p.1 10 v0 5) = v2 then (
      (cn 1))
    else (
      if (p.1 1 (p.2.2 10 v0 4) 2) = v1 then (
        if (p.1 10 v0 5) = v2 then (
          (cn 0))
        else (
          (cn 1)))
      else (
        (cn 0))))
  else (
    if (p.1 1 (p.2.2 10 v0 4) 2) = v1 then (
      if (p.1 10 v0 5) = v2 then (
        (cn 0))
      else (
        (cn 1)))
    else (
      (cn 0)))
noncomputable def v10_addsTo (p : PM) (v0 : Nat) (v1 : Int32) (v2 : Int32) : Int32 := bv10_addsTo p v0 v1 v2
noncomputable def bg10_addsTo (p : PM) (v0 : Nat) (v1 : Int32) (v2 : Int32) : Prop :=
  (¬ v0 = 0) ∧ (
  (¬ (p.2.2 10 v0 4) = 0) ∧ (
  if (p.1 1 (p.2.2 10 v0 4) 1) = v1 then (
    (¬ v0 = 0) ∧ (
    if (p.1 10 v0 5) = v2 then (
      True)
    else (
      (¬ v0 = 0) ∧ (
      (¬ (p.2.2 10 v0 4) = 0) ∧ (
      if (p.1 1 (p.2.2 10 v0 4) 2) = v1 then (
        (¬ v0 = 0) ∧ (
        if (p.1 10 v0 5) = v2 then (
          True)
        else (
          True)))
      else (
        True))))))
  else (
    (¬ v0 = 0) ∧ (
    (¬ (p.2.2 10 v0 4) = 0) ∧ (
    if (p.1 1 (p.2.2 10 v0 4) 2) = v1 then (
      (¬ v0 = 0) ∧ (
      if (p.1 10 v0 5) = v2 then (
        True)
      else (
        True)))
    else (
      True))))))
noncomputable def g10_addsTo (p : PM) (v0 : Nat) (v1 : Int32) (v2 : Int32) : Prop := bg10_addsTo p v0 v1 v2
def R145 : List Row := [(0, .aload_n 0, 1, 0, (0, 0, 0, 0, 0, 0)), (1, .getfield 15, 3, 0, (10, 4, 4, 0, 0, 0)), (4, .getfield 73, 3, 0, (1, 1, 0, 0, 0, 0)), (7, .iload_n 1, 1, 0, (0, 0, 0, 0, 0, 0)), (8, .if_icmp .ne 11, 3, 0, (0, 0, 0, 0, 0, 0)), (11, .aload_n 0, 1, 0, (0, 0, 0, 0, 0, 0)), (12, .getfield 29, 3, 0, (10, 5, 1, 0, 0, 0)), (15, .iload_n 2, 1, 0, (0, 0, 0, 0, 0, 0)), (16, .if_icmp .eq 22, 3, 0, (0, 0, 0, 0, 0, 0)), (19, .aload_n 0, 1, 0, (0, 0, 0, 0, 0, 0)), (20, .getfield 15, 3, 0, (10, 4, 4, 0, 0, 0)), (23, .getfield 78, 3, 0, (1, 2, 0, 0, 0, 0)), (26, .iload_n 1, 1, 0, (0, 0, 0, 0, 0, 0)), (27, .if_icmp .ne 15, 3, 0, (0, 0, 0, 0, 0, 0)), (30, .aload_n 0, 1, 0, (0, 0, 0, 0, 0, 0)), (31, .getfield 29, 3, 0, (10, 5, 1, 0, 0, 0)), (34, .iload_n 2, 1, 0, (0, 0, 0, 0, 0, 0)), (35, .if_icmp .eq 7, 3, 0, (0, 0, 0, 0, 0, 0)), (38, .iconst 1, 1, 0, (0, 0, 0, 0, 0, 1)), (39, .goto 4, 3, 0, (0, 0, 0, 0, 0, 0)), (42, .iconst 0, 1, 0, (0, 0, 0, 0, 0, 0)), (43, .ireturn, 1, 0, (1, 0, 0, 0, 0, 0))]
set_option maxRecDepth 100000 in
theorem rk145 : R145.all (rok 0 145 1 []) = true := by decide +kernel
set_option maxRecDepth 100000 in
theorem tab145 : TabOK 0 145 1 [] R145 := tab_ok (K := K145) rfl rfl (fun h => d145 h) rk145 (by decide +kernel)
set_option maxRecDepth 100000 in
theorem pc145 : cutpc [] R145 = true := by decide +kernel
set_option maxRecDepth 100000 in
theorem r10_addsTo (p : PM) (hg : Gr 0 p) : ∀ (v0 : Nat) (v1 : Int32) (v2 : Int32), bg10_addsTo p v0 v1 v2 → ZJ 0 145 0 [zR 10 v0, zI v1, zI v2] [] p (hoI p (bv10_addsTo p v0 v1 v2)) := by
  intro v0 v1 v2  H
  exact roI (n := 3000) (q := 0) (la := [zR 10 v0, zI v1, zI v2]) (sa := []) (ks := []) (gs := []) (fnil) tab145 pc145 trivial hg H
theorem t10_addsTo (p : PM) (hg : Gr 0 p) : ∀ (v0 : Nat) (v1 : Int32) (v2 : Int32), g10_addsTo p v0 v1 v2 → ZJ 0 145 0 [zR 10 v0, zI v1, zI v2] [] p (hoI p (v10_addsTo p v0 v1 v2)) := r10_addsTo p hg
def CC145 (F : PM → Nat → Int32 → Int32 → Int32) (G : PM → Nat → Int32 → Int32 → Prop) : Cal := (145, [13, 0, 0], 1, true, fun as p => (zI (F p (ar as 0) (ai as 1) (ai as 2)), p), fun as p => zsw (tc2 as [(14, 0), (0, 0), (0, 0)]) False (G p (ar as 0) (ai as 1) (ai as 2)))
set_option maxRecDepth 100000 in
theorem okr145 (F : PM → Nat → Int32 → Int32 → Int32) (G : PM → Nat → Int32 → Int32 → Prop) (h : ∀ (p : PM) (v0 : Nat) (v1 : Int32) (v2 : Int32), Gr 0 p → G p v0 v1 v2 → ZJ 0 145 0 [zR 10 v0, zI v1, zI v2] [] p (hoI p (F p v0 v1 v2))) : CalOK 0 (CC145 F G) := cal_ok (m := 3) (by unfold mL; rw [mX_145]) (fun as p hg H => h p (ar as 0) (ai as 1) (ai as 2) hg H)
theorem ok145 : CalOK 0 (CC145 v10_addsTo g10_addsTo) := okr145 v10_addsTo g10_addsTo (fun p v0 v1 v2 hg H => t10_addsTo p hg v0 v1 v2 H)
noncomputable def bv6_reach_36 (p : PM) (F145 : PM → Nat → Int32 → Int32 → Int32) (kv36 : Nat → Int32 → Int32 → Int64 → Int32 → Int64) (v1 : Nat) (v2 : Int32) (v3 : Int32) (v4 : Int64) (v8 : Int32) : Int64 :=
  if v8 < (cn 40) then (
    if (p.1 10 ((v8).toNatClampNeg + 1) 2) = 0 then (
      kv36 v1 v2 v3 v4 (v8 + (cn 1)))
    else (
      if (p.2.2 10 ((v8).toNatClampNeg + 1) 3) = v1 then (
        if (F145 p ((v8).toNatClampNeg + 1) v2 v3) = 0 then (
          kv36 v1 v2 v3 v4 (v8 + (cn 1)))
        else (
          let x1 : Int64 := (v4 + ((p.1 10 ((v8).toNatClampNeg + 1) 9)).toInt64)
          kv36 v1 v2 v3 x1 (v8 + (cn 1))))
      else (
        kv36 v1 v2 v3 v4 (v8 + (cn 1)))))
  else (
    v4)
noncomputable def v6_reach_36 (p : PM) (n : Nat) : Nat → Int32 → Int32 → Int64 → Int32 → Int64 := Nat.rec (motive := fun _ => Nat → Int32 → Int32 → Int64 → Int32 → Int64) (fun _ _ _ _ _ => 0) (fun _ ih => bv6_reach_36 p v10_addsTo ih) n
theorem ev6_reach_36 (p : PM) (n : Nat) (v1 : Nat) (v2 : Int32) (v3 : Int32) (v4 : Int64) (v8 : Int32) : v6_reach_36 p (n + 1) v1 v2 v3 v4 v8 = bv6_reach_36 p v10_addsTo (v6_reach_36 p n) v1 v2 v3 v4 v8 := rfl
noncomputable def bg6_reach_36 (p : PM) (F145 : PM → Nat → Int32 → Int32 → Int32) (G145 : PM → Nat → Int32 → Int32 → Prop) (kg36 : Nat → Int32 → Int32 → Int64 → Int32 → Prop) (v1 : Nat) (v2 : Int32) (v3 : Int32) (v4 : Int64) (v8 : Int32) : Prop :=
  if v8 < (cn 40) then (
    (inb v8 40) ∧ (
    if (p.1 10 ((v8).toNatClampNeg + 1) 2) = 0 then (
      kg36 v1 v2 v3 v4 (v8 + (cn 1)))
    else (
      if (p.2.2 10 ((v8).toNatClampNeg + 1) 3) = v1 then (
        (G145 p ((v8).toNatClampNeg + 1) v2 v3) ∧ (
        if (F145 p ((v8).toNatClampNeg + 1) v2 v3) = 0 then (
          kg36 v1 v2 v3 v4 (v8 + (cn 1)))
        else (
          let x1 : Int64 := (v4 + ((p.1 10 ((v8).toNatClampNeg + 1) 9)).toInt64)
          kg36 v1 v2 v3 x1 (v8 + (cn 1)))))
      else (
        kg36 v1 v2 v3 v4 (v8 + (cn 1))))))
  else (
    True)
noncomputable def g6_reach_36 (p : PM) (n : Nat) : Nat → Int32 → Int32 → Int64 → Int32 → Prop := Nat.rec (motive := fun _ => Nat → Int32 → Int32 → Int64 → Int32 → Prop) (fun _ _ _ _ _ => False) (fun _ ih => bg6_reach_36 p v10_addsTo g10_addsTo ih) n
theorem eg6_reach_36 (p : PM) (n : Nat) (v1 : Nat) (v2 : Int32) (v3 : Int32) (v4 : Int64) (v8 : Int32) : g6_reach_36 p (n + 1) v1 v2 v3 v4 v8 = bg6_reach_36 p v10_addsTo g10_addsTo (g6_reach_36 p n) v1 v2 v3 v4 v8 := rfl
noncomputable def bv6_reach (p : PM) (F2 : PM → Nat → Int32 → Int32) (kv36 : Nat → Int32 → Int32 → Int64 → Int32 → Int64) (v1 : Nat) (v2 : Int32) (v3 : Int32) : Int64 :=
  if v3 = 0 then (
    let x1 : Int64 := ((-(F2 p v1 v2))).toInt64
    kv36 v1 v2 v3 x1 (cn 0))
  else (
    let x2 : Int64 := ((F2 p v1 v2)).toInt64
    kv36 v1 v2 v3 x2 (cn 0))
noncomputable def v6_reach (p : PM) (v1 : Nat) (v2 : Int32) (v3 : Int32) : Int64 := bv6_reach p v0_holds (v6_reach_36 p FU) v1 v2 v3
noncomputable def bg6_reach (p : PM) (F2 : PM → Nat → Int32 → Int32) (G2 : PM → Nat → Int32 → Prop) (kg36 : Nat → Int32 → Int32 → Int64 → Int32 → Prop) (v1 : Nat) (v2 : Int32) (v3 : Int32) : Prop :=
  if v3 = 0 then (
    (¬ v1 = 0) ∧ (
    (G2 p v1 v2) ∧ (
    let x1 : Int64 := ((-(F2 p v1 v2))).toInt64
    kg36 v1 v2 v3 x1 (cn 0))))
  else (
    (¬ v1 = 0) ∧ (
    (G2 p v1 v2) ∧ (
    let x2 : Int64 := ((F2 p v1 v2)).toInt64
    kg36 v1 v2 v3 x2 (cn 0))))
noncomputable def g6_reach (p : PM) (v1 : Nat) (v2 : Int32) (v3 : Int32) : Prop := bg6_reach p v0_holds g0_holds (g6_reach_36 p FU) v1 v2 v3
def R84 : List Row := [(0, .iload_n 3, 1, 0, (0, 0, 0, 0, 0, 0)), (1, .ifCond .eq 12, 3, 0, (0, 0, 0, 0, 0, 0)), (4, .aload_n 1, 1, 0, (0, 0, 0, 0, 0, 0)), (5, .iload_n 2, 1, 0, (0, 0, 0, 0, 0, 0)), (6, .invokevirtual 112, 3, 0, (0, 2, 0, 0, 2, 0)), (9, .i2l, 1, 0, (0, 0, 0, 0, 0, 0)), (10, .goto 10, 3, 0, (0, 0, 0, 0, 0, 0)), (13, .aload_n 1, 1, 0, (0, 0, 0, 0, 0, 0)), (14, .iload_n 2, 1, 0, (0, 0, 0, 0, 0, 0)), (15, .invokevirtual 112, 3, 0, (0, 2, 0, 0, 2, 0)), (18, .ineg, 1, 0, (0, 0, 0, 0, 0, 0)), (19, .i2l, 1, 0, (0, 0, 0, 0, 0, 0)), (20, .lstore 4, 2, 0, (0, 0, 0, 0, 0, 0)), (22, .aload_n 0, 1, 0, (0, 0, 0, 0, 0, 0)), (23, .getfield 11, 3, 0, (6, 1, 23, 2, 1, 0)), (26, .astore 6, 2, 0, (0, 0, 0, 0, 0, 0)), (28, .aload 6, 2, 0, (0, 0, 0, 0, 0, 0)), (30, .arraylength, 1, 0, (20, 40, 0, 0, 0, 40)), (31, .istore 7, 2, 0, (0, 0, 0, 0, 0, 0)), (33, .iconst 0, 1, 0, (0, 0, 0, 0, 0, 0)), (34, .istore 8, 2, 0, (0, 0, 0, 0, 0, 0)), (36, .iload 8, 2, 1, (0, 0, 0, 0, 0, 0)), (38, .iload 7, 2, 0, (0, 0, 0, 0, 0, 0)), (40, .if_icmp .ge 54, 3, 0, (0, 0, 0, 0, 0, 0)), (43, .aload 6, 2, 0, (0, 0, 0, 0, 0, 0)), (45, .iload 8, 2, 0, (0, 0, 0, 0, 0, 0)), (47, .aaload, 1, 0, (20, 40, 0, 1, 1, 0)), (48, .astore 9, 2, 0, (0, 0, 0, 0, 0, 0)), (50, .aload 9, 2, 0, (0, 0, 0, 0, 0, 0)), (52, .getfield 29, 3, 0, (10, 2, 0, 1, 0, 0)), (55, .ifCond .eq 33, 3, 0, (0, 0, 0, 0, 0, 0)), (58, .aload 9, 2, 0, (0, 0, 0, 0, 0, 0)), (60, .getfield 115, 3, 0, (10, 3, 3, 1, 0, 0)), (63, .aload_n 1, 1, 0, (0, 0, 0, 0, 0, 0)), (64, .if_acmp .ne 24, 3, 0, (0, 0, 0, 0, 0, 0)), (67, .aload 9, 2, 0, (0, 0, 0, 0, 0, 0)), (69, .iload_n 2, 1, 0, (0, 0, 0, 0, 0, 0)), (70, .iload_n 3, 1, 0, (0, 0, 0, 0, 0, 0)), (71, .invokevirtual 119, 3, 0, (1, 3, 0, 0, 1, 0)), (74, .ifCond .eq 14, 3, 0, (0, 0, 0, 0, 0, 0)), (77, .lload 4, 2, 0, (0, 0, 0, 0, 0, 0)), (79, .aload 9, 2, 0, (0, 0, 0, 0, 0, 0)), (81, .getfield 123, 3, 0, (10, 9, 0, 1, 0, 0)), (84, .i2l, 1, 0, (0, 0, 0, 0, 0, 0)), (85, .ladd, 1, 0, (0, 0, 0, 0, 0, 0)), (86, .lstore 4, 2, 0, (0, 0, 0, 0, 0, 0)), (88, .iinc 8 1, 3, 0, (0, 0, 0, 0, 0, 1)), (91, .goto (-55), 3, 0, (0, 0, 0, 0, 0, 0)), (94, .lload 4, 2, 0, (0, 0, 0, 0, 0, 0)), (96, .lreturn, 1, 0, (0, 0, 0, 0, 0, 0))]
set_option maxRecDepth 100000 in
theorem rk84 : R84.all (rok 0 84 2 [(2, [3, 0]), (145, [13, 0, 0])]) = true := by decide +kernel
set_option maxRecDepth 100000 in
theorem tab84 {F2 : PM → Nat → Int32 → Int32} {G2 : PM → Nat → Int32 → Prop} {F145 : PM → Nat → Int32 → Int32 → Int32} {G145 : PM → Nat → Int32 → Int32 → Prop} : TabOK 0 84 2 [CC2 F2 G2, CC145 F145 G145] R84 := tab_ok (K := K84) rfl rfl (fun h => d84 h) rk84 (by decide +kernel)
set_option maxRecDepth 100000 in
theorem pc84 : cutpc [36] R84 = true := by decide +kernel
set_option maxRecDepth 100000 in
theorem r6_reach_36 (p : PM) (hg : Gr 0 p) (F2 : PM → Nat → Int32 → Int32) (G2 : PM → Nat → Int32 → Prop) (o2 : CalOK 0 (CC2 F2 G2)) (F145 : PM → Nat → Int32 → Int32 → Int32) (G145 : PM → Nat → Int32 → Int32 → Prop) (o145 : CalOK 0 (CC145 F145 G145)) (kv36 : Nat → Int32 → Int32 → Int64 → Int32 → Int64) (kg36 : Nat → Int32 → Int32 → Int64 → Int32 → Prop) (hk36 : ∀ (v1 : Nat) (v2 : Int32) (v3 : Int32) (v4 : Int64) (v8 : Int32) (d0 d5 d9 : ZV), kg36 v1 v2 v3 v4 v8 → ZJ 0 84 36 [d0, zR 0 v1, zI v2, zI v3, zL v4, d5, zR 20 1, zC 40, zI v8, d9] [] p (hoL p (kv36 v1 v2 v3 v4 v8))) : ∀ (v1 : Nat) (v2 : Int32) (v3 : Int32) (v4 : Int64) (v8 : Int32) (d0 d5 d9 : ZV), bg6_reach_36 p F145 G145 kg36 v1 v2 v3 v4 v8 → ZJ 0 84 36 [d0, zR 0 v1, zI v2, zI v3, zL v4, d5, zR 20 1, zC 40, zI v8, d9] [] p (hoL p (bv6_reach_36 p F145 kv36 v1 v2 v3 v4 v8)) := by
  intro v1 v2 v3 v4 v8 d0 d5 d9 H
  exact roL (n := 3000) (q := 36) (la := [d0, zR 0 v1, zI v2, zI v3, zL v4, d5, zR 20 1, zC 40, zI v8, d9]) (sa := []) (ks := [fun la sa _ => kv36 (ar la 1) (ai la 2) (ai la 3) (al la 4) (ai la 8)]) (gs := [fun la sa _ => zsw (tc2 la [(2, 0), (4, 0), (0, 0), (0, 0), (1, 0), (2, 0), (120, 1), (3, 40), (0, 0), (2, 0)] && tc2 sa []) False (kg36 (ar la 1) (ai la 2) (ai la 3) (al la 4) (ai la 8))]) (fcons o2 (fcons o145 (fnil))) tab84 pc84 ⟨fun la sa s hg H => zcut H fun H => hk36 (ar la 1) (ai la 2) (ai la 3) (al la 4) (ai la 8) (zld la 0) (zld la 5) (zld la 9) H, trivial⟩ hg H
theorem t6_reach_36 (p : PM) (hg : Gr 0 p) : ∀ (n : Nat), ∀ (v1 : Nat) (v2 : Int32) (v3 : Int32) (v4 : Int64) (v8 : Int32) (d0 d5 d9 : ZV), g6_reach_36 p n v1 v2 v3 v4 v8 → ZJ 0 84 36 [d0, zR 0 v1, zI v2, zI v3, zL v4, d5, zR 20 1, zC 40, zI v8, d9] [] p (hoL p (v6_reach_36 p n v1 v2 v3 v4 v8)) := by
  intro n
  induction n with
  | zero =>
    intro v1 v2 v3 v4 v8 d0 d5 d9 H
    exact H.elim
  | succ n ih => exact r6_reach_36 p hg v0_holds g0_holds ok2 v10_addsTo g10_addsTo ok145 (v6_reach_36 p n) (g6_reach_36 p n) ih
set_option maxRecDepth 100000 in
theorem r6_reach (p : PM) (hg : Gr 0 p) (F2 : PM → Nat → Int32 → Int32) (G2 : PM → Nat → Int32 → Prop) (o2 : CalOK 0 (CC2 F2 G2)) (F145 : PM → Nat → Int32 → Int32 → Int32) (G145 : PM → Nat → Int32 → Int32 → Prop) (o145 : CalOK 0 (CC145 F145 G145)) (kv36 : Nat → Int32 → Int32 → Int64 → Int32 → Int64) (kg36 : Nat → Int32 → Int32 → Int64 → Int32 → Prop) (hk36 : ∀ (v1 : Nat) (v2 : Int32) (v3 : Int32) (v4 : Int64) (v8 : Int32) (d0 d5 d9 : ZV), kg36 v1 v2 v3 v4 v8 → ZJ 0 84 36 [d0, zR 0 v1, zI v2, zI v3, zL v4, d5, zR 20 1, zC 40, zI v8, d9] [] p (hoL p (kv36 v1 v2 v3 v4 v8))) : ∀ (v1 : Nat) (v2 : Int32) (v3 : Int32), bg6_reach p F2 G2 kg36 v1 v2 v3 → ZJ 0 84 0 [zR 6 1, zR 0 v1, zI v2, zI v3, zJ, zJ, zJ, zJ, zJ, zJ] [] p (hoL p (bv6_reach p F2 kv36 v1 v2 v3)) := by
  intro v1 v2 v3  H
  exact roL (n := 3000) (q := 0) (la := [zR 6 1, zR 0 v1, zI v2, zI v3, zJ, zJ, zJ, zJ, zJ, zJ]) (sa := []) (ks := [fun la sa _ => kv36 (ar la 1) (ai la 2) (ai la 3) (al la 4) (ai la 8)]) (gs := [fun la sa _ => zsw (tc2 la [(2, 0), (4, 0), (0, 0), (0, 0), (1, 0), (2, 0), (120, 1), (3, 40), (0, 0), (2, 0)] && tc2 sa []) False (kg36 (ar la 1) (ai la 2) (ai la 3) (al la 4) (ai la 8))]) (fcons o2 (fcons o145 (fnil))) tab84 pc84 ⟨fun la sa s hg H => zcut H fun H => hk36 (ar la 1) (ai la 2) (ai la 3) (al la 4) (ai la 8) (zld la 0) (zld la 5) (zld la 9) H, trivial⟩ hg H
theorem t6_reach (p : PM) (hg : Gr 0 p) : ∀ (v1 : Nat) (v2 : Int32) (v3 : Int32), g6_reach p v1 v2 v3 → ZJ 0 84 0 [zR 6 1, zR 0 v1, zI v2, zI v3, zJ, zJ, zJ, zJ, zJ, zJ] [] p (hoL p (v6_reach p v1 v2 v3)) := r6_reach p hg v0_holds g0_holds ok2 v10_addsTo g10_addsTo ok145 (v6_reach_36 p FU) (g6_reach_36 p FU) (t6_reach_36 p hg FU)
def CC84 (F : PM → Nat → Int32 → Int32 → Int64) (G : PM → Nat → Int32 → Int32 → Prop) : Cal := (84, [9, 3, 0, 0], 2, true, fun as p => (zL (F p (ar as 1) (ai as 2) (ai as 3)), p), fun as p => zsw (tc2 as [(106, 1), (4, 0), (0, 0), (0, 0)]) False (G p (ar as 1) (ai as 2) (ai as 3)))
set_option maxRecDepth 100000 in
theorem okr84 (F : PM → Nat → Int32 → Int32 → Int64) (G : PM → Nat → Int32 → Int32 → Prop) (h : ∀ (p : PM) (v1 : Nat) (v2 : Int32) (v3 : Int32), Gr 0 p → G p v1 v2 v3 → ZJ 0 84 0 [zR 6 1, zR 0 v1, zI v2, zI v3, zJ, zJ, zJ, zJ, zJ, zJ] [] p (hoL p (F p v1 v2 v3))) : CalOK 0 (CC84 F G) := cal_ok (m := 10) (by unfold mL; rw [mX_84]) (fun as p hg H => h p (ar as 1) (ai as 2) (ai as 3) hg H)
theorem ok84 : CalOK 0 (CC84 v6_reach g6_reach) := okr84 v6_reach g6_reach (fun p v1 v2 v3 hg H => t6_reach p hg v1 v2 v3 H)
noncomputable def bv6_refuses (p : PM) (F3 : PM → Nat → Int32 → Int32) (F10 : PM → Nat → Int32) (F84 : PM → Nat → Int32 → Int32 → Int64) (F205 : PM → Int32 → Int32) (v1 : Nat) (v2 : Nat) (v3 : Int32) : Int32 :=
  if 0 < v3 then (
    if 0 < (lg_cmp ((F84 p v1 (p.1 1 v2 1) (cn 1)) + ((F205 p v3)).toInt64) ((F3 p v1 (p.1 1 v2 1))).toInt64) then (
      (cn 1))
    else (
      if (F10 p v2) = 0 then (
        (cn 0))
      else (
        if 0 < (lg_cmp ((F84 p v1 (p.1 1 v2 2) (cn 0)) + ((F205 p v3)).toInt64) ((F3 p v1 (p.1 1 v2 2))).toInt64) then (
          (cn 1))
        else (
          (cn 0)))))
  else (
    if 0 < (lg_cmp ((F84 p v1 (p.1 1 v2 1) (cn 0)) + ((F205 p v3)).toInt64) ((F3 p v1 (p.1 1 v2 1))).toInt64) then (
      (cn 1))
    else (
      if (F10 p v2) = 0 then (
        (cn 0))
      else (
        if 0 < (lg_cmp ((F84 p v1 (p.1 1 v2 2) (cn 1)) + ((F205 p v3)).toInt64) ((F3 p v1 (p.1 1 v2 2))).toInt64) then (
          (cn 1))
        else (
          (cn 0)))))
noncomputable def v6_refuses (p : PM) (v1 : Nat) (v2 : Nat) (v3 : Int32) : Int32 := bv6_refuses p v0_limitOf v1_isSpread v6_reach v14_abs_0f7a4 v1 v2 v3
noncomputable def bg6_refuses (p : PM) (F3 : PM → Nat → Int32 → Int32) (G3 : PM → Nat → Int32 → Prop) (F10 : PM → Nat → Int32) (G10 : PM → Nat → Prop) (F84 : PM → Nat → Int32 → Int32 → Int64) (G84 : PM → Nat → Int32 → Int32 → Prop) (F205 : PM → Int32 → Int32) (G205 : PM → Int32 → Prop) (v1 : Nat) (v2 : Nat) (v3 : Int32) : Prop :=
  if 0 < v3 then (
    (G205 p v3) ∧ (
    (¬ v2 = 0) ∧ (
    (G84 p v1 (p.1 1 v2 1) (cn 1)) ∧ (
    (¬ v2 = 0) ∧ (
    (¬ v1 = 0) ∧ (
    (G3 p v1 (p.1 1 v2 1)) ∧ (
    if 0 < (lg_cmp ((F84 p v1 (p.1 1 v2 1) (cn 1)) + ((F205 p v3)).toInt64) ((F3 p v1 (p.1 1 v2 1))).toInt64) then (
      True)
    else (
      (¬ v2 = 0) ∧ (
      (G10 p v2) ∧ (
      if (F10 p v2) = 0 then (
        True)
      else (
        (¬ v2 = 0) ∧ (
        (G84 p v1 (p.1 1 v2 2) (cn 0)) ∧ (
        (¬ v2 = 0) ∧ (
        (¬ v1 = 0) ∧ (
        (G3 p v1 (p.1 1 v2 2)) ∧ (
        if 0 < (lg_cmp ((F84 p v1 (p.1 1 v2 2) (cn 0)) + ((F205 p v3)).toInt64) ((F3 p v1 (p.1 1 v2 2))).toInt64) then (
          True)
        else (
          True)))))))))))))))))
  else (
    (G205 p v3) ∧ (
    (¬ v2 = 0) ∧ (
    (G84 p v1 (p.1 1 v2 1) (cn 0)) ∧ (
    (¬ v2 = 0) ∧ (
    (¬ v1 = 0) ∧ (
    (G3 p v1 (p.1 1 v2 1)) ∧ (
    if 0 < (lg_cmp ((F84 p v1 (p.1 1 v2 1) (cn 0)) + ((F205 p v3)).toInt64) ((F3 p v1 (p.1 1 v2 1))).toInt64) then (
      True)
    else (
      (¬ v2 = 0) ∧ (
      (G10 p v2) ∧ (
      if (F10 p v2) = 0 then (
        True)
      else (
        (¬ v2 = 0) ∧ (
        (G84 p v1 (p.1 1 v2 2) (cn 1)) ∧ (
        (¬ v2 = 0) ∧ (
        (¬ v1 = 0) ∧ (
        (G3 p v1 (p.1 1 v2 2)) ∧ (
        if 0 < (lg_cmp ((F84 p v1 (p.1 1 v2 2) (cn 1)) + ((F205 p v3)).toInt64) ((F3 p v1 (p.1 1 v2 2))).toInt64) then (
          True)
        else (
          True)))))))))))))))))
noncomputable def g6_refuses (p : PM) (v1 : Nat) (v2 : Nat) (v3 : Int32) : Prop := bg6_refuses p v0_limitOf g0_limitOf v1_isSpread g1_isSpread v6_reach g6_reach v14_abs_0f7a4 g14_abs_0f7a4 v1 v2 v3
def R83 : List Row := [(0, .iload_n 3, 1, 0, (0, 0, 0, 0, 0, 0)), (1, .ifCond .le 7, 3, 0, (0, 0, 0, 0, 0, 0)), (4, .iconst 1, 1, 0, (0, 0, 0, 0, 0, 1)), (5, .goto 4, 3, 0, (0, 0, 0, 0, 0, 0)), (8, .iconst 0, 1, 0, (0, 0, 0, 0, 0, 0)), (9, .istore 4, 2, 0, (0, 0, 0, 0, 0, 0)), (11, .iload_n 3, 1, 0, (0, 0, 0, 0, 0, 0)), (12, .invokestatic 87, 3, 0, (0, 1, 0, 0, 0, 0)), (15, .istore 5, 2, 0, (0, 0, 0, 0, 0, 0)), (17, .aload_n 0, 1, 0, (0, 0, 0, 0, 0, 0)), (18, .aload_n 1, 1, 0, (0, 0, 0, 0, 0, 0)), (19, .aload_n 2, 1, 0, (0, 0, 0, 0, 0, 0)), (20, .getfield 93, 3, 0, (1, 1, 0, 0, 0, 0)), (23, .iload 4, 2, 0, (0, 0, 0, 0, 0, 0)), (25, .invokevirtual 96, 3, 0, (1, 4, 0, 0, 1, 0)), (28, .iload 5, 2, 0, (0, 0, 0, 0, 0, 0)), (30, .i2l, 1, 0, (0, 0, 0, 0, 0, 0)), (31, .ladd, 1, 0, (0, 0, 0, 0, 0, 0)), (32, .aload_n 1, 1, 0, (0, 0, 0, 0, 0, 0)), (33, .aload_n 2, 1, 0, (0, 0, 0, 0, 0, 0)), (34, .getfield 93, 3, 0, (1, 1, 0, 0, 0, 0)), (37, .invokevirtual 100, 3, 0, (2, 2, 0, 0, 2, 0)), (40, .i2l, 1, 0, (0, 0, 0, 0, 0, 0)), (41, .lcmp, 1, 0, (0, 0, 0, 0, 0, 0)), (42, .ifCond .le 5, 3, 0, (0, 0, 0, 0, 0, 0)), (45, .iconst 1, 1, 0, (0, 0, 0, 0, 0, 1)), (46, .ireturn, 1, 0, (1, 0, 0, 0, 0, 0)), (47, .aload_n 2, 1, 0, (0, 0, 0, 0, 0, 0)), (48, .invokevirtual 105, 3, 0, (3, 1, 0, 0, 2, 0)), (51, .ifCond .eq 43, 3, 0, (0, 0, 0, 0, 0, 0)), (54, .aload_n 0, 1, 0, (0, 0, 0, 0, 0, 0)), (55, .aload_n 1, 1, 0, (0, 0, 0, 0, 0, 0)), (56, .aload_n 2, 1, 0, (0, 0, 0, 0, 0, 0)), (57, .getfield 109, 3, 0, (1, 2, 0, 0, 0, 0)), (60, .iload 4, 2, 0, (0, 0, 0, 0, 0, 0)), (62, .ifCond .ne 7, 3, 0, (0, 0, 0, 0, 0, 0)), (65, .iconst 1, 1, 0, (0, 0, 0, 0, 0, 1)), (66, .goto 4, 3, 0, (0, 0, 0, 0, 0, 0)), (69, .iconst 0, 1, 0, (0, 0, 0, 0, 0, 0)), (70, .invokevirtual 96, 3, 0, (1, 4, 0, 0, 1, 0)), (73, .iload 5, 2, 0, (0, 0, 0, 0, 0, 0)), (75, .i2l, 1, 0, (0, 0, 0, 0, 0, 0)), (76, .ladd, 1, 0, (0, 0, 0, 0, 0, 0)), (77, .aload_n 1, 1, 0, (0, 0, 0, 0, 0, 0)), (78, .aload_n 2, 1, 0, (0, 0, 0, 0, 0, 0)), (79, .getfield 109, 3, 0, (1, 2, 0, 0, 0, 0)), (82, .invokevirtual 100, 3, 0, (2, 2, 0, 0, 2, 0)), (85, .i2l, 1, 0, (0, 0, 0, 0, 0, 0)), (86, .lcmp, 1, 0, (0, 0, 0, 0, 0, 0)), (87, .ifCond .le 7, 3, 0, (0, 0, 0, 0, 0, 0)), (90, .iconst 1, 1, 0, (0, 0, 0, 0, 0, 1)), (91, .goto 4, 3, 0, (0, 0, 0, 0, 0, 0)), (94, .iconst 0, 1, 0, (0, 0, 0, 0, 0, 0)), (95, .ireturn, 1, 0, (1, 0, 0, 0, 0, 0))]
set_option maxRecDepth 100000 in
theorem rk83 : R83.all (rok 0 83 1 [(205, [0]), (84, [9, 3, 0, 0]), (3, [3, 0]), (10, [4])]) = true := by decide +kernel
set_option maxRecDepth 100000 in
theorem tab83 {F205 : PM → Int32 → Int32} {G205 : PM → Int32 → Prop} {F84 : PM → Nat → Int32 → Int32 → Int64} {G84 : PM → Nat → Int32 → Int32 → Prop} {F3 : PM → Nat → Int32 → Int32} {G3 : PM → Nat → Int32 → Prop} {F10 : PM → Nat → Int32} {G10 : PM → Nat → Prop} : TabOK 0 83 1 [CC205 F205 G205, CC84 F84 G84, CC3 F3 G3, CC10 F10 G10] R83 := tab_ok (K := K83) rfl rfl (fun h => d83 h) rk83 (by decide +kernel)
set_option maxRecDepth 100000 in
theorem pc83 : cutpc [] R83 = true := by decide +kernel
set_option maxRecDepth 100000 in
theorem r6_refuses (p : PM) (hg : Gr 0 p) (F205 : PM → Int32 → Int32) (G205 : PM → Int32 → Prop) (o205 : CalOK 0 (CC205 F205 G205)) (F84 : PM → Nat → Int32 → Int32 → Int64) (G84 : PM → Nat → Int32 → Int32 → Prop) (o84 : CalOK 0 (CC84 F84 G84)) (F3 : PM → Nat → Int32 → Int32) (G3 : PM → Nat → Int32 → Prop) (o3 : CalOK 0 (CC3 F3 G3)) (F10 : PM → Nat → Int32) (G10 : PM → Nat → Prop) (o10 : CalOK 0 (CC10 F10 G10)) : ∀ (v1 : Nat) (v2 : Nat) (v3 : Int32), bg6_refuses p F3 G3 F10 G10 F84 G84 F205 G205 v1 v2 v3 → ZJ 0 83 0 [zR 6 1, zR 0 v1, zR 1 v2, zI v3, zJ, zJ] [] p (hoI p (bv6_refuses p F3 F10 F84 F205 v1 v2 v3)) := by
  intro v1 v2 v3  H
  exact roI (n := 3000) (q := 0) (la := [zR 6 1, zR 0 v1, zR 1 v2, zI v3, zJ, zJ]) (sa := []) (ks := []) (gs := []) (fcons o205 (fcons o84 (fcons o3 (fcons o10 (fnil))))) tab83 pc83 trivial hg H
theorem t6_refuses (p : PM) (hg : Gr 0 p) : ∀ (v1 : Nat) (v2 : Nat) (v3 : Int32), g6_refuses p v1 v2 v3 → ZJ 0 83 0 [zR 6 1, zR 0 v1, zR 1 v2, zI v3, zJ, zJ] [] p (hoI p (v6_refuses p v1 v2 v3)) := r6_refuses p hg v14_abs_0f7a4 g14_abs_0f7a4 ok205 v6_reach g6_reach ok84 v0_limitOf g0_limitOf ok3 v1_isSpread g1_isSpread ok10
def CC83 (F : PM → Nat → Nat → Int32 → Int32) (G : PM → Nat → Nat → Int32 → Prop) : Cal := (83, [9, 3, 4, 0], 1, true, fun as p => (zI (F p (ar as 1) (ar as 2) (ai as 3)), p), fun as p => zsw (tc2 as [(106, 1), (4, 0), (5, 0), (0, 0)]) False (G p (ar as 1) (ar as 2) (ai as 3)))
set_option maxRecDepth 100000 in
theorem okr83 (F : PM → Nat → Nat → Int32 → Int32) (G : PM → Nat → Nat → Int32 → Prop) (h : ∀ (p : PM) (v1 : Nat) (v2 : Nat) (v3 : Int32), Gr 0 p → G p v1 v2 v3 → ZJ 0 83 0 [zR 6 1, zR 0 v1, zR 1 v2, zI v3, zJ, zJ] [] p (hoI p (F p v1 v2 v3))) : CalOK 0 (CC83 F G) := cal_ok (m := 6) (by unfold mL; rw [mX_83]) (fun as p hg H => h p (ar as 1) (ar as 2) (ai as 3) hg H)
theorem ok83 : CalOK 0 (CC83 v6_refuses g6_refuses) := okr83 v6_refuses g6_refuses (fun p v1 v2 v3 hg H => t6_refuses p hg v1 v2 v3 H)
noncomputable def bv5_admits (p : PM) (F18 : PM → Int32 → Nat) (F73 : PM → Int32 → Nat) (F75 : PM → Int32) (F83 : PM → Nat → Nat → Int32 → Int32) (F104 : PM → Int32 → Nat) (v1 : Int32) (v2 : Int32) (v3 : Int32) : Int32 :=
  if (p.1 9 (F18 p (p.1 0 (F104 p v1) 1)) 3) = 0 then (
    if (F75 p) < (cn 40) then (
      if (F83 p (F104 p v1) (F73 p v2) v3) = 0 then (
        (cn 1))
      else (
        (cn 0)))
    else (
      (cn 0)))
  else (
    (cn 0))
noncomputable def v5_admits (p : PM) (v1 : Int32) (v2 : Int32) (v3 : Int32) : Int32 := bv5_admits p v2_memberAt v6_bookAt v6_countLive v6_refuses v7_accountAt v1 v2 v3
noncomputable def bg5_admits (p : PM) (F18 : PM → Int32 → Nat) (G18 : PM → Int32 → Prop) (F73 : PM → Int32 → Nat) (G73 : PM → Int32 → Prop) (F75 : PM → Int32) (G75 : PM → Prop) (F83 : PM → Nat → Nat → Int32 → Int32) (G83 : PM → Nat → Nat → Int32 → Prop) (F104 : PM → Int32 → Nat) (G104 : PM → Int32 → Prop) (v1 : Int32) (v2 : Int32) (v3 : Int32) : Prop :=
  (G104 p v1) ∧ (
  (¬ (F104 p v1) = 0) ∧ (
  (G18 p (p.1 0 (F104 p v1) 1)) ∧ (
  (¬ (F18 p (p.1 0 (F104 p v1) 1)) = 0) ∧ (
  if (p.1 9 (F18 p (p.1 0 (F104 p v1) 1)) 3) = 0 then (
    (G75 p) ∧ (
    if (F75 p) < (cn 40) then (
      (G73 p v2) ∧ (
      (G83 p (F104 p v1) (F73 p v2) v3) ∧ (
      if (F83 p (F104 p v1) (F73 p v2) v3) = 0 then (
        True)
      else (
        True))))
    else (
      True)))
  else (
    True)))))
noncomputable def g5_admits (p : PM) (v1 : Int32) (v2 : Int32) (v3 : Int32) : Prop := bg5_admits p v2_memberAt g2_memberAt v6_bookAt g6_bookAt v6_countLive g6_countLive v6_refuses g6_refuses v7_accountAt g7_accountAt v1 v2 v3
def R57 : List Row := [(0, .aload_n 0, 1, 0, (0, 0, 0, 0, 0, 0)), (1, .getfield 19, 3, 0, (5, 1, 10, 2, 1, 0)), (4, .iload_n 1, 1, 0, (0, 0, 0, 0, 0, 0)), (5, .invokevirtual 27, 3, 0, (0, 2, 0, 0, 1, 0)), (8, .astore 4, 2, 0, (0, 0, 0, 0, 0, 0)), (10, .aload_n 0, 1, 0, (0, 0, 0, 0, 0, 0)), (11, .getfield 57, 3, 0, (5, 4, 5, 2, 1, 0)), (14, .aload 4, 2, 0, (0, 0, 0, 0, 0, 0)), (16, .getfield 67, 3, 0, (0, 1, 0, 0, 0, 0)), (19, .invokevirtual 73, 3, 0, (1, 2, 0, 0, 1, 0)), (22, .getfield 77, 3, 0, (9, 3, 1, 0, 0, 0)), (25, .ifCond .ne 40, 3, 0, (0, 0, 0, 0, 0, 0)), (28, .aload_n 0, 1, 0, (0, 0, 0, 0, 0, 0)), (29, .getfield 34, 3, 0, (5, 0, 9, 2, 1, 0)), (32, .invokevirtual 83, 3, 0, (2, 1, 0, 0, 1, 0)), (35, .bipush 40, 2, 0, (0, 0, 0, 0, 0, 40)), (37, .if_icmp .ge 28, 3, 0, (0, 0, 0, 0, 0, 0)), (40, .aload_n 0, 1, 0, (0, 0, 0, 0, 0, 0)), (41, .getfield 34, 3, 0, (5, 0, 9, 2, 1, 0)), (44, .aload 4, 2, 0, (0, 0, 0, 0, 0, 0)), (46, .aload_n 0, 1, 0, (0, 0, 0, 0, 0, 0)), (47, .getfield 34, 3, 0, (5, 0, 9, 2, 1, 0)), (50, .iload_n 2, 1, 0, (0, 0, 0, 0, 0, 0)), (51, .invokevirtual 87, 3, 0, (3, 2, 0, 0, 1, 0)), (54, .iload_n 3, 1, 0, (0, 0, 0, 0, 0, 0)), (55, .invokevirtual 91, 3, 0, (4, 4, 0, 0, 1, 0)), (58, .ifCond .ne 7, 3, 0, (0, 0, 0, 0, 0, 0)), (61, .iconst 1, 1, 0, (0, 0, 0, 0, 0, 1)), (62, .goto 4, 3, 0, (0, 0, 0, 0, 0, 0)), (65, .iconst 0, 1, 0, (0, 0, 0, 0, 0, 0)), (66, .ireturn, 1, 0, (1, 0, 0, 0, 0, 0))]
set_option maxRecDepth 100000 in
theorem rk57 : R57.all (rok 0 57 1 [(104, [10, 0]), (18, [5, 0]), (75, [9]), (73, [9, 0]), (83, [9, 3, 4, 0])]) = true := by decide +kernel
set_option maxRecDepth 100000 in
theorem tab57 {F104 : PM → Int32 → Nat} {G104 : PM → Int32 → Prop} {F18 : PM → Int32 → Nat} {G18 : PM → Int32 → Prop} {F75 : PM → Int32} {G75 : PM → Prop} {F73 : PM → Int32 → Nat} {G73 : PM → Int32 → Prop} {F83 : PM → Nat → Nat → Int32 → Int32} {G83 : PM → Nat → Nat → Int32 → Prop} : TabOK 0 57 1 [CC104 F104 G104, CC18 F18 G18, CC75 F75 G75, CC73 F73 G73, CC83 F83 G83] R57 := tab_ok (K := K57) rfl rfl (fun h => d57 h) rk57 (by decide +kernel)
set_option maxRecDepth 100000 in
theorem pc57 : cutpc [] R57 = true := by decide +kernel
set_option maxRecDepth 100000 in
theorem r5_admits (p : PM) (hg : Gr 0 p) (F104 : PM → Int32 → Nat) (G104 : PM → Int32 → Prop) (o104 : CalOK 0 (CC104 F104 G104)) (F18 : PM → Int32 → Nat) (G18 : PM → Int32 → Prop) (o18 : CalOK 0 (CC18 F18 G18)) (F75 : PM → Int32) (G75 : PM → Prop) (o75 : CalOK 0 (CC75 F75 G75)) (F73 : PM → Int32 → Nat) (G73 : PM → Int32 → Prop) (o73 : CalOK 0 (CC73 F73 G73)) (F83 : PM → Nat → Nat → Int32 → Int32) (G83 : PM → Nat → Nat → Int32 → Prop) (o83 : CalOK 0 (CC83 F83 G83)) : ∀ (v1 : Int32) (v2 : Int32) (v3 : Int32), bg5_admits p F18 G18 F73 G73 F75 G75 F83 G83 F104 G104 v1 v2 v3 → ZJ 0 57 0 [zR 5 1, zI v1, zI v2, zI v3, zJ] [] p (hoI p (bv5_admits p F18 F73 F75 F83 F104 v1 v2 v3)) := by
  intro v1 v2 v3  H
  exact roI (n := 3000) (q := 0) (la := [zR 5 1, zI v1, zI v2, zI v3, zJ]) (sa := []) (ks := []) (gs := []) (fcons o104 (fcons o18 (fcons o75 (fcons o73 (fcons o83 (fnil)))))) tab57 pc57 trivial hg H
theorem t5_admits (p : PM) (hg : Gr 0 p) : ∀ (v1 : Int32) (v2 : Int32) (v3 : Int32), g5_admits p v1 v2 v3 → ZJ 0 57 0 [zR 5 1, zI v1, zI v2, zI v3, zJ] [] p (hoI p (v5_admits p v1 v2 v3)) := r5_admits p hg v7_accountAt g7_accountAt ok104 v2_memberAt g2_memberAt ok18 v6_countLive g6_countLive ok75 v6_bookAt g6_bookAt ok73 v6_refuses g6_refuses ok83
def CC57 (F : PM → Int32 → Int32 → Int32 → Int32) (G : PM → Int32 → Int32 → Int32 → Prop) : Cal := (57, [8, 0, 0, 0], 1, true, fun as p => (zI (F p (ai as 1) (ai as 2) (ai as 3)), p), fun as p => zsw (tc2 as [(105, 1), (0, 0), (0, 0), (0, 0)]) False (G p (ai as 1) (ai as 2) (ai as 3)))
set_option maxRecDepth 100000 in
theorem okr57 (F : PM → Int32 → Int32 → Int32 → Int32) (G : PM → Int32 → Int32 → Int32 → Prop) (h : ∀ (p : PM) (v1 : Int32) (v2 : Int32) (v3 : Int32), Gr 0 p → G p v1 v2 v3 → ZJ 0 57 0 [zR 5 1, zI v1, zI v2, zI v3, zJ] [] p (hoI p (F p v1 v2 v3))) : CalOK 0 (CC57 F G) := cal_ok (m := 5) (by unfold mL; rw [mX_57]) (fun as p hg H => h p (ai as 1) (ai as 2) (ai as 3) hg H)
theorem ok57 : CalOK 0 (CC57 v5_admits g5_admits) := okr57 v5_admits g5_admits (fun p v1 v2 v3 hg H => t5_admits p hg v1 v2 v3 H)
noncomputable def bv10_begin (F205 : PM → Int32 → Int32) (p : PM) (v0 : Nat) (v1 : Int32) (v2 : Nat) (v3 : Nat) (v4 : Int32) (v5 : Int32) (v6 : Int32) : PM :=
  let p1 : PM := pI p 10 v0 0 v1
  let p2 : PM := pI p1 10 v0 1 (cn 0)
  let p3 : PM := pI p2 10 v0 2 (cn 2)
  let p4 : PM := pR p3 10 v0 3 v2
  let p5 : PM := pR p4 10 v0 4 v3
  if 0 < v5 then (
    let p18 : PM := pI p5 10 v0 5 (cn 1)
    let p19 : PM := pI p18 10 v0 6 v4
    let p20 : PM := pI p19 10 v0 7 (cn (-100000))
    let p21 : PM := pI p20 10 v0 8 v6
    let p22 : PM := pI p21 10 v0 9 (F205 p21 v5)
    let p23 : PM := pI p22 10 v0 10 (p22.1 10 v0 9)
    let p24 : PM := pI p23 10 v0 11 (cn 0)
    let p25 : PM := pI p24 10 v0 12 (cn 0)
    let p26 : PM := pI p25 10 v0 13 (cn 0)
    let p27 : PM := pI p26 10 v0 14 (cn 0)
    let p28 : PM := pI p27 10 v0 15 (cn (-100000))
    let p29 : PM := pI p28 10 v0 16 (cn 0)
    p29)
  else (
    let p6 : PM := pI p5 10 v0 5 (cn 0)
    let p7 : PM := pI p6 10 v0 6 v4
    let p8 : PM := pI p7 10 v0 7 (cn (-100000))
    let p9 : PM := pI p8 10 v0 8 v6
    let p10 : PM := pI p9 10 v0 9 (F205 p9 v5)
    let p11 : PM := pI p10 10 v0 10 (p10.1 10 v0 9)
    let p12 : PM := pI p11 10 v0 11 (cn 0)
    let p13 : PM := pI p12 10 v0 12 (cn 0)
    let p14 : PM := pI p13 10 v0 13 (cn 0)
    let p15 : PM := pI p14 10 v0 14 (cn 0)
    let p16 : PM := pI p15 10 v0 15 (cn (-100000))
    let p17 : PM := pI p16 10 v0 16 (cn 0)
    p17)
noncomputable def v10_begin (p : PM) (v0 : Nat) (v1 : Int32) (v2 : Nat) (v3 : Nat) (v4 : Int32) (v5 : Int32) (v6 : Int32) : PM := bv10_begin v14_abs_0f7a4 p v0 v1 v2 v3 v4 v5 v6
noncomputable def bg10_begin (F205 : PM → Int32 → Int32) (G205 : PM → Int32 → Prop) (p : PM) (v0 : Nat) (v1 : Int32) (v2 : Nat) (v3 : Nat) (v4 : Int32) (v5 : Int32) (v6 : Int32) : Prop :=
  (¬ v0 = 0) ∧ (
  let p1 : PM := pI p 10 v0 0 v1
  (¬ v0 = 0) ∧ (
  let p2 : PM := pI p1 10 v0 1 (cn 0)
  (¬ v0 = 0) ∧ (
  let p3 : PM := pI p2 10 v0 2 (cn 2)
  (¬ v0 = 0) ∧ (
  let p4 : PM := pR p3 10 v0 3 v2
  (¬ v0 = 0) ∧ (
  let p5 : PM := pR p4 10 v0 4 v3
  if 0 < v5 then (
    (¬ v0 = 0) ∧ (
    let p18 : PM := pI p5 10 v0 5 (cn 1)
    (¬ v0 = 0) ∧ (
    let p19 : PM := pI p18 10 v0 6 v4
    (¬ v0 = 0) ∧ (
    let p20 : PM := pI p19 10 v0 7 (cn (-100000))
    (¬ v0 = 0) ∧ (
    let p21 : PM := pI p20 10 v0 8 v6
    (G205 p21 v5) ∧ (
    (¬ v0 = 0) ∧ (
    let p22 : PM := pI p21 10 v0 9 (F205 p21 v5)
    (¬ v0 = 0) ∧ (
    (¬ v0 = 0) ∧ (
    let p23 : PM := pI p22 10 v0 10 (p22.1 10 v0 9)
    (¬ v0 = 0) ∧ (
    let p24 : PM := pI p23 10 v0 11 (cn 0)
    (¬ v0 = 0) ∧ (
    let p25 : PM := pI p24 10 v0 12 (cn 0)
    (¬ v0 = 0) ∧ (
    let p26 : PM := pI p25 10 v0 13 (cn 0)
    (¬ v0 = 0) ∧ (
    let p27 : PM := pI p26 10 v0 14 (cn 0)
    (¬ v0 = 0) ∧ (
    let p28 : PM := pI p27 10 v0 15 (cn (-100000))
    (¬ v0 = 0) ∧ (
    let p29 : PM := pI p28 10 v0 16 (cn 0)
    True)))))))))))))))
  else (
    (¬ v0 = 0) ∧ (
    let p6 : PM := pI p5 10 v0 5 (cn 0)
    (¬ v0 = 0) ∧ (
    let p7 : PM := pI p6 10 v0 6 v4
    (¬ v0 = 0) ∧ (
    let p8 : PM := pI p7 10 v0 7 (cn (-100000))
    (¬ v0 = 0) ∧ (
    let p9 : PM := pI p8 10 v0 8 v6
    (G205 p9 v5) ∧ (
    (¬ v0 = 0) ∧ (
    let p10 : PM := pI p9 10 v0 9 (F205 p9 v5)
    (¬ v0 = 0) ∧ (
    (¬ v0 = 0) ∧ (
    let p11 : PM := pI p10 10 v0 10 (p10.1 10 v0 9)
    (¬ v0 = 0) ∧ (
    let p12 : PM := pI p11 10 v0 11 (cn 0)
    (¬ v0 = 0) ∧ (
    let p13 : PM := pI p12 10 v0 12 (cn 0)
    (¬ v0 = 0) ∧ (
    let p14 : PM := pI p13 10 v0 13 (cn 0)
    (¬ v0 = 0) ∧ (
    let p15 : PM := pI p14 10 v0 14 (cn 0)
    (¬ v0 = 0) ∧ (
    let p16 : PM := pI p15 10 v0 15 (cn (-100000))
    (¬ v0 = 0) ∧ (
    let p17 : PM := pI p16 10 v0 16 (cn 0)
    True))))))))))))))))))))
noncomputable def g10_begin (p : PM) (v0 : Nat) (v1 : Int32) (v2 : Nat) (v3 : Nat) (v4 : Int32) (v5 : Int32) (v6 : Int32) : Prop := bg10_begin v14_abs_0f7a4 g14_abs_0f7a4 p v0 v1 v2 v3 v4 v5 v6
def R141 : List Row := [(0, .aload_n 0, 1, 0, (0, 0, 0, 0, 0, 0)), (1, .iload_n 1, 1, 0, (0, 0, 0, 0, 0, 0)), (2, .putfield 19, 3, 0, (10, 0, 0, 0, 0, 0)), (5, .aload_n 0, 1, 0, (0, 0, 0, 0, 0, 0)), (6, .iconst 0, 1, 0, (0, 0, 0, 0, 0, 0)), (7, .putfield 23, 3, 0, (10, 1, 0, 0, 0, 0)), (10, .aload_n 0, 1, 0, (0, 0, 0, 0, 0, 0)), (11, .iconst 2, 1, 0, (0, 0, 0, 0, 0, 2)), (12, .putfield 26, 3, 0, (10, 2, 0, 0, 0, 0)), (15, .aload_n 0, 1, 0, (0, 0, 0, 0, 0, 0)), (16, .aload_n 2, 1, 0, (0, 0, 0, 0, 0, 0)), (17, .putfield 9, 3, 0, (10, 3, 3, 0, 0, 0)), (20, .aload_n 0, 1, 0, (0, 0, 0, 0, 0, 0)), (21, .aload_n 3, 1, 0, (0, 0, 0, 0, 0, 0)), (22, .putfield 15, 3, 0, (10, 4, 4, 0, 0, 0)), (25, .aload_n 0, 1, 0, (0, 0, 0, 0, 0, 0)), (26, .iload 5, 2, 0, (0, 0, 0, 0, 0, 0)), (28, .ifCond .le 7, 3, 0, (0, 0, 0, 0, 0, 0)), (31, .iconst 1, 1, 0, (0, 0, 0, 0, 0, 1)), (32, .goto 4, 3, 0, (0, 0, 0, 0, 0, 0)), (35, .iconst 0, 1, 0, (0, 0, 0, 0, 0, 0)), (36, .putfield 29, 3, 0, (10, 5, 1, 0, 0, 0)), (39, .aload_n 0, 1, 0, (0, 0, 0, 0, 0, 0)), (40, .iload 4, 2, 0, (0, 0, 0, 0, 0, 0)), (42, .putfield 33, 3, 0, (10, 6, 0, 0, 0, 0)), (45, .aload_n 0, 1, 0, (0, 0, 0, 0, 0, 0)), (46, .ldc 36, 2, 0, (0, 0, 0, 0, 0, -100000)), (48, .putfield 37, 3, 0, (10, 7, 0, 0, 0, 0)), (51, .aload_n 0, 1, 0, (0, 0, 0, 0, 0, 0)), (52, .iload 6, 2, 0, (0, 0, 0, 0, 0, 0)), (54, .putfield 40, 3, 0, (10, 8, 0, 0, 0, 0)), (57, .aload_n 0, 1, 0, (0, 0, 0, 0, 0, 0)), (58, .iload 5, 2, 0, (0, 0, 0, 0, 0, 0)), (60, .invokestatic 43, 3, 0, (0, 1, 0, 0, 0, 0)), (63, .putfield 49, 3, 0, (10, 9, 0, 0, 0, 0)), (66, .aload_n 0, 1, 0, (0, 0, 0, 0, 0, 0)), (67, .aload_n 0, 1, 0, (0, 0, 0, 0, 0, 0)), (68, .getfield 49, 3, 0, (10, 9, 0, 0, 0, 0)), (71, .putfield 52, 3, 0, (10, 10, 0, 0, 0, 0)), (74, .aload_n 0, 1, 0, (0, 0, 0, 0, 0, 0)), (75, .iconst 0, 1, 0, (0, 0, 0, 0, 0, 0)), (76, .putfield 55, 3, 0, (10, 11, 0, 0, 0, 0)), (79, .aload_n 0, 1, 0, (0, 0, 0, 0, 0, 0)), (80, .iconst 0, 1, 0, (0, 0, 0, 0, 0, 0)), (81, .putfield 58, 3, 0, (10, 12, 0, 0, 0, 0)), (84, .aload_n 0, 1, 0, (0, 0, 0, 0, 0, 0)), (85, .iconst 0, 1, 0, (0, 0, 0, 0, 0, 0)), (86, .putfield 61, 3, 0, (10, 13, 0, 0, 0, 0)), (89, .aload_n 0, 1, 0, (0, 0, 0, 0, 0, 0)), (90, .iconst 0, 1, 0, (0, 0, 0, 0, 0, 0)), (91, .putfield 64, 3, 0, (10, 14, 0, 0, 0, 0)), (94, .aload_n 0, 1, 0, (0, 0, 0, 0, 0, 0)), (95, .ldc 36, 2, 0, (0, 0, 0, 0, 0, -100000)), (97, .putfield 67, 3, 0, (10, 15, 0, 0, 0, 0)), (100, .aload_n 0, 1, 0, (0, 0, 0, 0, 0, 0)), (101, .iconst 0, 1, 0, (0, 0, 0, 0, 0, 0)), (102, .putfield 70, 3, 0, (10, 16, 1, 0, 0, 0)), (105, .return_, 1, 0, (0, 0, 0, 0, 0, 0))]
set_option maxRecDepth 100000 in
theorem rk141 : R141.all (rok 0 141 0 [(205, [0])]) = true := by decide +kernel
set_option maxRecDepth 100000 in
theorem tab141 {F205 : PM → Int32 → Int32} {G205 : PM → Int32 → Prop} : TabOK 0 141 0 [CC205 F205 G205] R141 := tab_ok (K := K141) rfl rfl (fun h => d141 h) rk141 (by decide +kernel)
set_option maxRecDepth 100000 in
theorem pc141 : cutpc [] R141 = true := by decide +kernel
set_option maxRecDepth 100000 in
theorem r10_begin (F205 : PM → Int32 → Int32) (G205 : PM → Int32 → Prop) (o205 : CalOK 0 (CC205 F205 G205)) : ∀ (p : PM) (v0 : Nat) (v1 : Int32) (v2 : Nat) (v3 : Nat) (v4 : Int32) (v5 : Int32) (v6 : Int32), Gr 0 p → bg10_begin F205 G205 p v0 v1 v2 v3 v4 v5 v6 → ZJ 0 141 0 [zR 10 v0, zI v1, zR 0 v2, zR 1 v3, zI v4, zI v5, zI v6] [] p (hwV (bv10_begin F205 p v0 v1 v2 v3 v4 v5 v6)) := by
  intro p v0 v1 v2 v3 v4 v5 v6  hg H
  exact rwV (n := 3000) (q := 0) (la := [zR 10 v0, zI v1, zR 0 v2, zR 1 v3, zI v4, zI v5, zI v6]) (sa := []) (ks := []) (gs := []) (fcons o205 (fnil)) tab141 pc141 trivial hg H
theorem t10_begin : ∀ (p : PM) (v0 : Nat) (v1 : Int32) (v2 : Nat) (v3 : Nat) (v4 : Int32) (v5 : Int32) (v6 : Int32), Gr 0 p → g10_begin p v0 v1 v2 v3 v4 v5 v6 → ZJ 0 141 0 [zR 10 v0, zI v1, zR 0 v2, zR 1 v3, zI v4, zI v5, zI v6] [] p (hwV (v10_begin p v0 v1 v2 v3 v4 v5 v6)) := r10_begin v14_abs_0f7a4 g14_abs_0f7a4 ok205
def CC141 (F : PM → Nat → Int32 → Nat → Nat → Int32 → Int32 → Int32 → PM) (G : PM → Nat → Int32 → Nat → Nat → Int32 → Int32 → Int32 → Prop) : Cal := (141, [13, 0, 3, 4, 0, 0, 0], 0, false, fun as p => (zJ, (F p (ar as 0) (ai as 1) (ar as 2) (ar as 3) (ai as 4) (ai as 5) (ai as 6))), fun as p => zsw (tc2 as [(14, 0), (0, 0), (4, 0), (5, 0), (0, 0), (0, 0), (0, 0)]) False (G p (ar as 0) (ai as 1) (ar as 2) (ar as 3) (ai as 4) (ai as 5) (ai as 6)))
set_option maxRecDepth 100000 in
theorem okr141 (F : PM → Nat → Int32 → Nat → Nat → Int32 → Int32 → Int32 → PM) (G : PM → Nat → Int32 → Nat → Nat → Int32 → Int32 → Int32 → Prop) (h : ∀ (p : PM) (v0 : Nat) (v1 : Int32) (v2 : Nat) (v3 : Nat) (v4 : Int32) (v5 : Int32) (v6 : Int32), Gr 0 p → G p v0 v1 v2 v3 v4 v5 v6 → ZJ 0 141 0 [zR 10 v0, zI v1, zR 0 v2, zR 1 v3, zI v4, zI v5, zI v6] [] p (hwV (F p v0 v1 v2 v3 v4 v5 v6))) : CalOK 0 (CC141 F G) := cal_ok (m := 7) (by unfold mL; rw [mX_141]) (fun as p hg H => h p (ar as 0) (ai as 1) (ar as 2) (ar as 3) (ai as 4) (ai as 5) (ai as 6) hg H)
theorem ok141 : CalOK 0 (CC141 v10_begin g10_begin) := okr141 v10_begin g10_begin t10_begin
noncomputable def bv6_draw_24 (F141 : PM → Nat → Int32 → Nat → Nat → Int32 → Int32 → Int32 → PM) (kv24 : PM → Nat → Nat → Int32 → Int32 → Int32 → Int32 → Nat × PM) (p : PM) (v1 : Nat) (v2 : Nat) (v3 : Int32) (v4 : Int32) (v5 : Int32) (v8 : Int32) : Nat × PM :=
  if v8 < (cn 40) then (
    if (p.1 10 ((v8).toNatClampNeg + 1) 2) = 0 then (
      let p1 : PM := F141 p ((v8).toNatClampNeg + 1) ((p.1 6 1 4) - (cn 1)) v1 v2 v3 v4 v5
      (((v8).toNatClampNeg + 1), p1))
    else (
      kv24 p v1 v2 v3 v4 v5 (v8 + (cn 1))))
  else (
    (0, p))
noncomputable def v6_draw_24 (n : Nat) : PM → Nat → Nat → Int32 → Int32 → Int32 → Int32 → Nat × PM := Nat.rec (motive := fun _ => PM → Nat → Nat → Int32 → Int32 → Int32 → Int32 → Nat × PM) (fun p _ _ _ _ _ _ => (0, p)) (fun _ ih => bv6_draw_24 v10_begin ih) n
theorem ev6_draw_24 (n : Nat) (p : PM) (v1 : Nat) (v2 : Nat) (v3 : Int32) (v4 : Int32) (v5 : Int32) (v8 : Int32) : v6_draw_24 (n + 1) p v1 v2 v3 v4 v5 v8 = bv6_draw_24 v10_begin (v6_draw_24 n) p v1 v2 v3 v4 v5 v8 := rfl
noncomputable def bg6_draw_24 (F141 : PM → Nat → Int32 → Nat → Nat → Int32 → Int32 → Int32 → PM) (G141 : PM → Nat → Int32 → Nat → Nat → Int32 → Int32 → Int32 → Prop) (kg24 : PM → Nat → Nat → Int32 → Int32 → Int32 → Int32 → Prop) (p : PM) (v1 : Nat) (v2 : Nat) (v3 : Int32) (v4 : Int32) (v5 : Int32) (v8 : Int32) : Prop :=
  if v8 < (cn 40) then (
    (inb v8 40) ∧ (
    if (p.1 10 ((v8).toNatClampNeg + 1) 2) = 0 then (
      (G141 p ((v8).toNatClampNeg + 1) ((p.1 6 1 4) - (cn 1)) v1 v2 v3 v4 v5) ∧ (
      let p1 : PM := F141 p ((v8).toNatClampNeg + 1) ((p.1 6 1 4) - (cn 1)) v1 v2 v3 v4 v5
      True))
    else (
      kg24 p v1 v2 v3 v4 v5 (v8 + (cn 1)))))
  else (
    True)
noncomputable def g6_draw_24 (n : Nat) : PM → Nat → Nat → Int32 → Int32 → Int32 → Int32 → Prop := Nat.rec (motive := fun _ => PM → Nat → Nat → Int32 → Int32 → Int32 → Int32 → Prop) (fun _ _ _ _ _ _ _ => False) (fun _ ih => bg6_draw_24 v10_begin g10_begin ih) n
theorem eg6_draw_24 (n : Nat) (p : PM) (v1 : Nat) (v2 : Nat) (v3 : Int32) (v4 : Int32) (v5 : Int32) (v8 : Int32) : g6_draw_24 (n + 1) p v1 v2 v3 v4 v5 v8 = bg6_draw_24 v10_begin g10_begin (g6_draw_24 n) p v1 v2 v3 v4 v5 v8 := rfl
noncomputable def bv6_draw (kv24 : PM → Nat → Nat → Int32 → Int32 → Int32 → Int32 → Nat × PM) (p : PM) (v1 : Nat) (v2 : Nat) (v3 : Int32) (v4 : Int32) (v5 : Int32) : Nat × PM :=
  let p1 : PM := pI p 6 1 4 ((p.1 6 1 4) + (cn 1))
  kv24 p1 v1 v2 v3 v4 v5 (cn 0)
noncomputable def v6_draw (p : PM) (v1 : Nat) (v2 : Nat) (v3 : Int32) (v4 : Int32) (v5 : Int32) : Nat × PM := bv6_draw (v6_draw_24 FU) p v1 v2 v3 v4 v5
noncomputable def bg6_draw (kg24 : PM → Nat → Nat → Int32 → Int32 → Int32 → Int32 → Prop) (p : PM) (v1 : Nat) (v2 : Nat) (v3 : Int32) (v4 : Int32) (v5 : Int32) : Prop :=
  let p1 : PM := pI p 6 1 4 ((p.1 6 1 4) + (cn 1))
  kg24 p1 v1 v2 v3 v4 v5 (cn 0)
noncomputable def g6_draw (p : PM) (v1 : Nat) (v2 : Nat) (v3 : Int32) (v4 : Int32) (v5 : Int32) : Prop := bg6_draw (g6_draw_24 FU) p v1 v2 v3 v4 v5
def R76 : List Row := [(0, .aload_n 0, 1, 0, (0, 0, 0, 0, 0, 0)), (1, .dup, 1, 0, (0, 0, 0, 0, 0, 0)), (2, .getfield 39, 3, 0, (6, 4, 0, 1, 0, 0)), (5, .iconst 1, 1, 0, (0, 0, 0, 0, 0, 1)), (6, .iadd, 1, 0, (0, 0, 0, 0, 0, 0)), (7, .putfield 39, 3, 0, (6, 4, 0, 1, 0, 0)), (10, .aload_n 0, 1, 0, (0, 0, 0, 0, 0, 0)), (11, .getfield 11, 3, 0, (6, 1, 23, 2, 1, 0)), (14, .astore 6, 2, 0, (0, 0, 0, 0, 0, 0)), (16, .aload 6, 2, 0, (0, 0, 0, 0, 0, 0)), (18, .arraylength, 1, 0, (20, 40, 0, 0, 0, 40)), (19, .istore 7, 2, 0, (0, 0, 0, 0, 0, 0)), (21, .iconst 0, 1, 0, (0, 0, 0, 0, 0, 0)), (22, .istore 8, 2, 0, (0, 0, 0, 0, 0, 0)), (24, .iload 8, 2, 1, (0, 0, 0, 0, 0, 0)), (26, .iload 7, 2, 0, (0, 0, 0, 0, 0, 0)), (28, .if_icmp .ge 45, 3, 0, (0, 0, 0, 0, 0, 0)), (31, .aload 6, 2, 0, (0, 0, 0, 0, 0, 0)), (33, .iload 8, 2, 0, (0, 0, 0, 0, 0, 0)), (35, .aaload, 1, 0, (20, 40, 0, 1, 1, 0)), (36, .astore 9, 2, 0, (0, 0, 0, 0, 0, 0)), (38, .aload 9, 2, 0, (0, 0, 0, 0, 0, 0)), (40, .getfield 29, 3, 0, (10, 2, 0, 1, 0, 0)), (43, .ifCond .ne 24, 3, 0, (0, 0, 0, 0, 0, 0)), (46, .aload 9, 2, 0, (0, 0, 0, 0, 0, 0)), (48, .aload_n 0, 1, 0, (0, 0, 0, 0, 0, 0)), (49, .getfield 39, 3, 0, (6, 4, 0, 1, 0, 0)), (52, .iconst 1, 1, 0, (0, 0, 0, 0, 0, 1)), (53, .isub, 1, 0, (0, 0, 0, 0, 0, 0)), (54, .aload_n 1, 1, 0, (0, 0, 0, 0, 0, 0)), (55, .aload_n 2, 1, 0, (0, 0, 0, 0, 0, 0)), (56, .iload_n 3, 1, 0, (0, 0, 0, 0, 0, 0)), (57, .iload 4, 2, 0, (0, 0, 0, 0, 0, 0)), (59, .iload 5, 2, 0, (0, 0, 0, 0, 0, 0)), (61, .invokevirtual 48, 3, 0, (0, 7, 0, 0, 1, 0)), (64, .aload 9, 2, 0, (0, 0, 0, 0, 0, 0)), (66, .areturn, 1, 0, (10, 0, 0, 0, 0, 0)), (67, .iinc 8 1, 3, 0, (0, 0, 0, 0, 0, 1)), (70, .goto (-46), 3, 0, (0, 0, 0, 0, 0, 0)), (73, .aconst_null, 1, 0, (10, 0, 0, 0, 0, 0)), (74, .areturn, 1, 0, (10, 0, 0, 0, 0, 0))]
set_option maxRecDepth 100000 in
theorem rk76 : R76.all (rok 0 76 (3 + 10) [(141, [13, 0, 3, 4, 0, 0, 0])]) = true := by decide +kernel
set_option maxRecDepth 100000 in
theorem tab76 {F141 : PM → Nat → Int32 → Nat → Nat → Int32 → Int32 → Int32 → PM} {G141 : PM → Nat → Int32 → Nat → Nat → Int32 → Int32 → Int32 → Prop} : TabOK 0 76 (3 + 10) [CC141 F141 G141] R76 := tab_ok (K := K76) rfl rfl (fun h => d76 h) rk76 (by decide +kernel)
set_option maxRecDepth 100000 in
theorem pc76 : cutpc [24] R76 = true := by decide +kernel
set_option maxRecDepth 100000 in
theorem r6_draw_24 (F141 : PM → Nat → Int32 → Nat → Nat → Int32 → Int32 → Int32 → PM) (G141 : PM → Nat → Int32 → Nat → Nat → Int32 → Int32 → Int32 → Prop) (o141 : CalOK 0 (CC141 F141 G141)) (kv24 : PM → Nat → Nat → Int32 → Int32 → Int32 → Int32 → Nat × PM) (kg24 : PM → Nat → Nat → Int32 → Int32 → Int32 → Int32 → Prop) (hk24 : ∀ (p : PM) (v1 : Nat) (v2 : Nat) (v3 : Int32) (v4 : Int32) (v5 : Int32) (v8 : Int32) (d9 : ZV), Gr 0 p → kg24 p v1 v2 v3 v4 v5 v8 → ZJ 0 76 24 [zR 6 1, zR 0 v1, zR 1 v2, zI v3, zI v4, zI v5, zR 20 1, zC 40, zI v8, d9] [] p (hwR 10 (kv24 p v1 v2 v3 v4 v5 v8))) : ∀ (p : PM) (v1 : Nat) (v2 : Nat) (v3 : Int32) (v4 : Int32) (v5 : Int32) (v8 : Int32) (d9 : ZV), Gr 0 p → bg6_draw_24 F141 G141 kg24 p v1 v2 v3 v4 v5 v8 → ZJ 0 76 24 [zR 6 1, zR 0 v1, zR 1 v2, zI v3, zI v4, zI v5, zR 20 1, zC 40, zI v8, d9] [] p (hwR 10 (bv6_draw_24 F141 kv24 p v1 v2 v3 v4 v5 v8)) := by
  intro p v1 v2 v3 v4 v5 v8 d9 hg H
  exact rwR 10 (n := 3000) (q := 24) (la := [zR 6 1, zR 0 v1, zR 1 v2, zI v3, zI v4, zI v5, zR 20 1, zC 40, zI v8, d9]) (sa := []) (ks := [fun la sa s => kv24 s (ar la 1) (ar la 2) (ai la 3) (ai la 4) (ai la 5) (ai la 8)]) (gs := [fun la sa s => zsw (tc2 la [(106, 1), (4, 0), (5, 0), (0, 0), (0, 0), (0, 0), (120, 1), (3, 40), (0, 0), (2, 0)] && tc2 sa []) False (kg24 s (ar la 1) (ar la 2) (ai la 3) (ai la 4) (ai la 5) (ai la 8))]) (fcons o141 (fnil)) tab76 pc76 ⟨fun la sa s hg H => zcut H fun H => hk24 s (ar la 1) (ar la 2) (ai la 3) (ai la 4) (ai la 5) (ai la 8) (zld la 9) hg H, trivial⟩ hg H
theorem t6_draw_24 : ∀ (n : Nat), ∀ (p : PM) (v1 : Nat) (v2 : Nat) (v3 : Int32) (v4 : Int32) (v5 : Int32) (v8 : Int32) (d9 : ZV), Gr 0 p → g6_draw_24 n p v1 v2 v3 v4 v5 v8 → ZJ 0 76 24 [zR 6 1, zR 0 v1, zR 1 v2, zI v3, zI v4, zI v5, zR 20 1, zC 40, zI v8, d9] [] p (hwR 10 (v6_draw_24 n p v1 v2 v3 v4 v5 v8)) := by
  intro n
  induction n with
  | zero =>
    intro p v1 v2 v3 v4 v5 v8 d9 hg H
    exact H.elim
  | succ n ih => exact r6_draw_24 v10_begin g10_begin ok141 (v6_draw_24 n) (g6_draw_24 n) ih
set_option maxRecDepth 100000 in
theorem r6_draw (F141 : PM → Nat → Int32 → Nat → Nat → Int32 → Int32 → Int32 → PM) (G141 : PM → Nat → Int32 → Nat → Nat → Int32 → Int32 → Int32 → Prop) (o141 : CalOK 0 (CC141 F141 G141)) (kv24 : PM → Nat → Nat → Int32 → Int32 → Int32 → Int32 → Nat × PM) (kg24 : PM → Nat → Nat → Int32 → Int32 → Int32 → Int32 → Prop) (hk24 : ∀ (p : PM) (v1 : Nat) (v2 : Nat) (v3 : Int32) (v4 : Int32) (v5 : Int32) (v8 : Int32) (d9 : ZV), Gr 0 p → kg24 p v1 v2 v3 v4 v5 v8 → ZJ 0 76 24 [zR 6 1, zR 0 v1, zR 1 v2, zI v3, zI v4, zI v5, zR 20 1, zC 40, zI v8, d9] [] p (hwR 10 (kv24 p v1 v2 v3 v4 v5 v8))) : ∀ (p : PM) (v1 : Nat) (v2 : Nat) (v3 : Int32) (v4 : Int32) (v5 : Int32), Gr 0 p → bg6_draw kg24 p v1 v2 v3 v4 v5 → ZJ 0 76 0 [zR 6 1, zR 0 v1, zR 1 v2, zI v3, zI v4, zI v5, zJ, zJ, zJ, zJ] [] p (hwR 10 (bv6_draw kv24 p v1 v2 v3 v4 v5)) := by
  intro p v1 v2 v3 v4 v5  hg H
  exact rwR 10 (n := 3000) (q := 0) (la := [zR 6 1, zR 0 v1, zR 1 v2, zI v3, zI v4, zI v5, zJ, zJ, zJ, zJ]) (sa := []) (ks := [fun la sa s => kv24 s (ar la 1) (ar la 2) (ai la 3) (ai la 4) (ai la 5) (ai la 8)]) (gs := [fun la sa s => zsw (tc2 la [(106, 1), (4, 0), (5, 0), (0, 0), (0, 0), (0, 0), (120, 1), (3, 40), (0, 0), (2, 0)] && tc2 sa []) False (kg24 s (ar la 1) (ar la 2) (ai la 3) (ai la 4) (ai la 5) (ai la 8))]) (fcons o141 (fnil)) tab76 pc76 ⟨fun la sa s hg H => zcut H fun H => hk24 s (ar la 1) (ar la 2) (ai la 3) (ai la 4) (ai la 5) (ai la 8) (zld la 9) hg H, trivial⟩ hg H
theorem t6_draw : ∀ (p : PM) (v1 : Nat) (v2 : Nat) (v3 : Int32) (v4 : Int32) (v5 : Int32), Gr 0 p → g6_draw p v1 v2 v3 v4 v5 → ZJ 0 76 0 [zR 6 1, zR 0 v1, zR 1 v2, zI v3, zI v4, zI v5, zJ, zJ, zJ, zJ] [] p (hwR 10 (v6_draw p v1 v2 v3 v4 v5)) := r6_draw v10_begin g10_begin ok141 (v6_draw_24 FU) (g6_draw_24 FU) (t6_draw_24 FU)
def CC76 (F : PM → Nat → Nat → Int32 → Int32 → Int32 → Nat × PM) (G : PM → Nat → Nat → Int32 → Int32 → Int32 → Prop) : Cal := (76, [9, 3, 4, 0, 0, 0], (3 + 10), false, fun as p => (zR 10 (F p (ar as 1) (ar as 2) (ai as 3) (ai as 4) (ai as 5)).1, (F p (ar as 1) (ar as 2) (ai as 3) (ai as 4) (ai as 5)).2), fun as p => zsw (tc2 as [(106, 1), (4, 0), (5, 0), (0, 0), (0, 0), (0, 0)]) False (G p (ar as 1) (ar as 2) (ai as 3) (ai as 4) (ai as 5)))
set_option maxRecDepth 100000 in
theorem okr76 (F : PM → Nat → Nat → Int32 → Int32 → Int32 → Nat × PM) (G : PM → Nat → Nat → Int32 → Int32 → Int32 → Prop) (h : ∀ (p : PM) (v1 : Nat) (v2 : Nat) (v3 : Int32) (v4 : Int32) (v5 : Int32), Gr 0 p → G p v1 v2 v3 v4 v5 → ZJ 0 76 0 [zR 6 1, zR 0 v1, zR 1 v2, zI v3, zI v4, zI v5, zJ, zJ, zJ, zJ] [] p (hwR 10 (F p v1 v2 v3 v4 v5))) : CalOK 0 (CC76 F G) := cal_ok (m := 10) (by unfold mL; rw [mX_76]) (fun as p hg H => h p (ar as 1) (ar as 2) (ai as 3) (ai as 4) (ai as 5) hg H)
theorem ok76 : CalOK 0 (CC76 v6_draw g6_draw) := okr76 v6_draw g6_draw t6_draw
noncomputable def bv10_allows (p : PM) (v0 : Nat) (v1 : Int32) : Int32 :=
  if (p.1 10 v0 6) = (cn (-100000)) then (
    (cn 1))
  else (
    if (p.1 10 v0 5) = 0 then (
      if v1 < (p.1 10 v0 6) then (
        (cn 0))
      else (
        (cn 1)))
    else (
      if (p.1 10 v0 6) < v1 then (
        (cn 0))
      else (
        (cn 1))))
noncomputable def v10_allows (p : PM) (v0 : Nat) (v1 : Int32) : Int32 := bv10_allows p v0 v1
noncomputable def bg10_allows (p : PM) (v0 : Nat) (v1 : Int32) : Prop :=
  (¬ v0 = 0) ∧ (
  if (p.1 10 v0 6) = (cn (-100000)) then (
    True)
  else (
    (¬ v0 = 0) ∧ (
    if (p.1 10 v0 5) = 0 then (
      (¬ v0 = 0) ∧ (
      if v1 < (p.1 10 v0 6) then (
        True)
      else (
        True)))
    else (
      (¬ v0 = 0) ∧ (
      if (p.1 10 v0 6) < v1 then (
        True)
      else (
        True))))))
noncomputable def g10_allows (p : PM) (v0 : Nat) (v1 : Int32) : Prop := bg10_allows p v0 v1
def R143 : List Row := [(0, .aload_n 0, 1, 0, (0, 0, 0, 0, 0, 0)), (1, .getfield 33, 3, 0, (10, 6, 0, 0, 0, 0)), (4, .ldc 36, 2, 0, (0, 0, 0, 0, 0, -100000)), (6, .if_icmp .eq 29, 3, 0, (0, 0, 0, 0, 0, 0)), (9, .aload_n 0, 1, 0, (0, 0, 0, 0, 0, 0)), (10, .getfield 29, 3, 0, (10, 5, 1, 0, 0, 0)), (13, .ifCond .eq 14, 3, 0, (0, 0, 0, 0, 0, 0)), (16, .iload_n 1, 1, 0, (0, 0, 0, 0, 0, 0)), (17, .aload_n 0, 1, 0, (0, 0, 0, 0, 0, 0)), (18, .getfield 33, 3, 0, (10, 6, 0, 0, 0, 0)), (21, .if_icmp .gt 18, 3, 0, (0, 0, 0, 0, 0, 0)), (24, .goto 11, 3, 0, (0, 0, 0, 0, 0, 0)), (27, .iload_n 1, 1, 0, (0, 0, 0, 0, 0, 0)), (28, .aload_n 0, 1, 0, (0, 0, 0, 0, 0, 0)), (29, .getfield 33, 3, 0, (10, 6, 0, 0, 0, 0)), (32, .if_icmp .lt 7, 3, 0, (0, 0, 0, 0, 0, 0)), (35, .iconst 1, 1, 0, (0, 0, 0, 0, 0, 1)), (36, .goto 4, 3, 0, (0, 0, 0, 0, 0, 0)), (39, .iconst 0, 1, 0, (0, 0, 0, 0, 0, 0)), (40, .ireturn, 1, 0, (1, 0, 0, 0, 0, 0))]
set_option maxRecDepth 100000 in
theorem rk143 : R143.all (rok 0 143 1 []) = true := by decide +kernel
set_option maxRecDepth 100000 in
theorem tab143 : TabOK 0 143 1 [] R143 := tab_ok (K := K143) rfl rfl (fun h => d143 h) rk143 (by decide +kernel)
set_option maxRecDepth 100000 in
theorem pc143 : cutpc [] R143 = true := by decide +kernel
set_option maxRecDepth 100000 in
theorem r10_allows (p : PM) (hg : Gr 0 p) : ∀ (v0 : Nat) (v1 : Int32), bg10_allows p v0 v1 → ZJ 0 143 0 [zR 10 v0, zI v1] [] p (hoI p (bv10_allows p v0 v1)) := by
  intro v0 v1  H
  exact roI (n := 3000) (q := 0) (la := [zR 10 v0, zI v1]) (sa := []) (ks := []) (gs := []) (fnil) tab143 pc143 trivial hg H
theorem t10_allows (p : PM) (hg : Gr 0 p) : ∀ (v0 : Nat) (v1 : Int32), g10_allows p v0 v1 → ZJ 0 143 0 [zR 10 v0, zI v1] [] p (hoI p (v10_allows p v0 v1)) := r10_allows p hg
def CC143 (F : PM → Nat → Int32 → Int32) (G : PM → Nat → Int32 → Prop) : Cal := (143, [13, 0], 1, true, fun as p => (zI (F p (ar as 0) (ai as 1)), p), fun as p => zsw (tc2 as [(14, 0), (0, 0)]) False (G p (ar as 0) (ai as 1)))
set_option maxRecDepth 100000 in
theorem okr143 (F : PM → Nat → Int32 → Int32) (G : PM → Nat → Int32 → Prop) (h : ∀ (p : PM) (v0 : Nat) (v1 : Int32), Gr 0 p → G p v0 v1 → ZJ 0 143 0 [zR 10 v0, zI v1] [] p (hoI p (F p v0 v1))) : CalOK 0 (CC143 F G) := cal_ok (m := 2) (by unfold mL; rw [mX_143]) (fun as p hg H => h p (ar as 0) (ai as 1) hg H)
theorem ok143 : CalOK 0 (CC143 v10_allows g10_allows) := okr143 v10_allows g10_allows (fun p v0 v1 hg H => t10_allows p hg v0 v1 H)
noncomputable def bv8_reachable_19 (p : PM) (F13 : PM → Nat → Int32 → Int32) (F142 : PM → Nat → Nat → Int32 → Int32) (F143 : PM → Nat → Int32 → Int32) (kv19 : Nat → Int64 → Int32 → Int64) (v1 : Nat) (v2 : Int64) (v6 : Int32) : Int64 :=
  if v6 < (cn 40) then (
    if (p.1 10 v1 5) = 0 then (
      if (F142 p ((v6).toNatClampNeg + 1) (p.2.2 10 v1 4) (cn 1)) = 0 then (
        kv19 v1 v2 (v6 + (cn 1)))
      else (
        if (p.1 0 (p.2.2 10 ((v6).toNatClampNeg + 1) 3) 1) = (p.1 0 (p.2.2 10 v1 3) 1) then (
          kv19 v1 v2 (v6 + (cn 1)))
        else (
          if (F143 p v1 (p.1 10 ((v6).toNatClampNeg + 1) 7)) = 0 then (
            kv19 v1 v2 (v6 + (cn 1)))
          else (
            if (F13 p (p.2.2 10 v1 4) (p.1 10 ((v6).toNatClampNeg + 1) 7)) = 0 then (
              let x2 : Int64 := (v2 + ((p.1 10 ((v6).toNatClampNeg + 1) 9)).toInt64)
              kv19 v1 x2 (v6 + (cn 1)))
            else (
              kv19 v1 v2 (v6 + (cn 1)))))))
    else (
      if (F142 p ((v6).toNatClampNeg + 1) (p.2.2 10 v1 4) (cn 0)) = 0 then (
        kv19 v1 v2 (v6 + (cn 1)))
      else (
        if (p.1 0 (p.2.2 10 ((v6).toNatClampNeg + 1) 3) 1) = (p.1 0 (p.2.2 10 v1 3) 1) then (
          kv19 v1 v2 (v6 + (cn 1)))
        else (
          if (F143 p v1 (p.1 10 ((v6).toNatClampNeg + 1) 7)) = 0 then (
            kv19 v1 v2 (v6 + (cn 1)))
          else (
            if (F13 p (p.2.2 10 v1 4) (p.1 10 ((v6).toNatClampNeg + 1) 7)) = 0 then (
              let x1 : Int64 := (v2 + ((p.1 10 ((v6).toNatClampNeg + 1) 9)).toInt64)
              kv19 v1 x1 (v6 + (cn 1)))
            else (
              kv19 v1 v2 (v6 + (cn 1))))))))
  else (
    v2)
noncomputable def v8_reachable_19 (p : PM) (n : Nat) : Nat → Int64 → Int32 → Int64 := Nat.rec (motive := fun _ => Nat → Int64 → Int32 → Int64) (fun _ _ _ => 0) (fun _ ih => bv8_reachable_19 p v1_isBeyondBand v10_standsIn v10_allows ih) n
theorem ev8_reachable_19 (p : PM) (n : Nat) (v1 : Nat) (v2 : Int64) (v6 : Int32) : v8_reachable_19 p (n + 1) v1 v2 v6 = bv8_reachable_19 p v1_isBeyondBand v10_standsIn v10_allows (v8_reachable_19 p n) v1 v2 v6 := rfl
noncomputable def bg8_reachable_19 (p : PM) (F13 : PM → Nat → Int32 → Int32) (G13 : PM → Nat → Int32 → Prop) (F142 : PM → Nat → Nat → Int32 → Int32) (G142 : PM → Nat → Nat → Int32 → Prop) (F143 : PM → Nat → Int32 → Int32) (G143 : PM → Nat → Int32 → Prop) (kg19 : Nat → Int64 → Int32 → Prop) (v1 : Nat) (v2 : Int64) (v6 : Int32) : Prop :=
  if v6 < (cn 40) then (
    (inb v6 40) ∧ (
    (¬ v1 = 0) ∧ (
    (¬ v1 = 0) ∧ (
    if (p.1 10 v1 5) = 0 then (
      (G142 p ((v6).toNatClampNeg + 1) (p.2.2 10 v1 4) (cn 1)) ∧ (
      if (F142 p ((v6).toNatClampNeg + 1) (p.2.2 10 v1 4) (cn 1)) = 0 then (
        kg19 v1 v2 (v6 + (cn 1)))
      else (
        (¬ (p.2.2 10 ((v6).toNatClampNeg + 1) 3) = 0) ∧ (
        (¬ v1 = 0) ∧ (
        (¬ (p.2.2 10 v1 3) = 0) ∧ (
        if (p.1 0 (p.2.2 10 ((v6).toNatClampNeg + 1) 3) 1) = (p.1 0 (p.2.2 10 v1 3) 1) then (
          kg19 v1 v2 (v6 + (cn 1)))
        else (
          (¬ v1 = 0) ∧ (
          (G143 p v1 (p.1 10 ((v6).toNatClampNeg + 1) 7)) ∧ (
          if (F143 p v1 (p.1 10 ((v6).toNatClampNeg + 1) 7)) = 0 then (
            kg19 v1 v2 (v6 + (cn 1)))
          else (
            (¬ v1 = 0) ∧ (
            (¬ (p.2.2 10 v1 4) = 0) ∧ (
            (G13 p (p.2.2 10 v1 4) (p.1 10 ((v6).toNatClampNeg + 1) 7)) ∧ (
            if (F13 p (p.2.2 10 v1 4) (p.1 10 ((v6).toNatClampNeg + 1) 7)) = 0 then (
              let x2 : Int64 := (v2 + ((p.1 10 ((v6).toNatClampNeg + 1) 9)).toInt64)
              kg19 v1 x2 (v6 + (cn 1)))
            else (
              kg19 v1 v2 (v6 + (cn 1))))))))))))))))
    else (
      (G142 p ((v6).toNatClampNeg + 1) (p.2.2 10 v1 4) (cn 0)) ∧ (
      if (F142 p ((v6).toNatClampNeg + 1) (p.2.2 10 v1 4) (cn 0)) = 0 then (
        kg19 v1 v2 (v6 + (cn 1)))
      else (
        (¬ (p.2.2 10 ((v6).toNatClampNeg + 1) 3) = 0) ∧ (
        (¬ v1 = 0) ∧ (
        (¬ (p.2.2 10 v1 3) = 0) ∧ (
        if (p.1 0 (p.2.2 10 ((v6).toNatClampNeg + 1) 3) 1) = (p.1 0 (p.2.2 10 v1 3) 1) then (
          kg19 v1 v2 (v6 + (cn 1)))
        else (
          (¬ v1 = 0) ∧ (
          (G143 p v1 (p.1 10 ((v6).toNatClampNeg + 1) 7)) ∧ (
          if (F143 p v1 (p.1 10 ((v6).toNatClampNeg + 1) 7)) = 0 then (
            kg19 v1 v2 (v6 + (cn 1)))
          else (
            (¬ v1 = 0) ∧ (
            (¬ (p.2.2 10 v1 4) = 0) ∧ (
            (G13 p (p.2.2 10 v1 4) (p.1 10 ((v6).toNatClampNeg + 1) 7)) ∧ (
            if (F13 p (p.2.2 10 v1 4) (p.1 10 ((v6).toNatClampNeg + 1) 7)) = 0 then (
              let x1 : Int64 := (v2 + ((p.1 10 ((v6).toNatClampNeg + 1) 9)).toInt64)
              kg19 v1 x1 (v6 + (cn 1)))
            else (
              kg19 v1 v2 (v6 + (cn 1))))))))))))))))))))
  else (
    True)
noncomputable def g8_reachable_19 (p : PM) (n : Nat) : Nat → Int64 → Int32 → Prop := Nat.rec (motive := fun _ => Nat → Int64 → Int32 → Prop) (fun _ _ _ => False) (fun _ ih => bg8_reachable_19 p v1_isBeyondBand g1_isBeyondBand v10_standsIn g10_standsIn v10_allows g10_allows ih) n
theorem eg8_reachable_19 (p : PM) (n : Nat) (v1 : Nat) (v2 : Int64) (v6 : Int32) : g8_reachable_19 p (n + 1) v1 v2 v6 = bg8_reachable_19 p v1_isBeyondBand g1_isBeyondBand v10_standsIn g10_standsIn v10_allows g10_allows (g8_reachable_19 p n) v1 v2 v6 := rfl
noncomputable def bv8_reachable (p : PM) (kv19 : Nat → Int64 → Int32 → Int64) (v1 : Nat) : Int64 :=
  kv19 v1 (cl 0) (cn 0)
noncomputable def v8_reachable (p : PM) (v1 : Nat) : Int64 := bv8_reachable p (v8_reachable_19 p FU) v1
noncomputable def bg8_reachable (p : PM) (kg19 : Nat → Int64 → Int32 → Prop) (v1 : Nat) : Prop :=
  kg19 v1 (cl 0) (cn 0)
noncomputable def g8_reachable (p : PM) (v1 : Nat) : Prop := bg8_reachable p (g8_reachable_19 p FU) v1
def R120 : List Row := [(0, .lconst 0, 1, 0, (0, 0, 0, 0, 0, 0)), (1, .lstore_n 2, 1, 0, (0, 0, 0, 0, 0, 0)), (2, .aload_n 0, 1, 0, (0, 0, 0, 0, 0, 0)), (3, .getfield 21, 3, 0, (8, 0, 9, 2, 1, 0)), (6, .getfield 29, 3, 0, (6, 1, 23, 2, 1, 0)), (9, .astore 4, 2, 0, (0, 0, 0, 0, 0, 0)), (11, .aload 4, 2, 0, (0, 0, 0, 0, 0, 0)), (13, .arraylength, 1, 0, (20, 40, 0, 0, 0, 40)), (14, .istore 5, 2, 0, (0, 0, 0, 0, 0, 0)), (16, .iconst 0, 1, 0, (0, 0, 0, 0, 0, 0)), (17, .istore 6, 2, 0, (0, 0, 0, 0, 0, 0)), (19, .iload 6, 2, 1, (0, 0, 0, 0, 0, 0)), (21, .iload 5, 2, 0, (0, 0, 0, 0, 0, 0)), (23, .if_icmp .ge 94, 3, 0, (0, 0, 0, 0, 0, 0)), (26, .aload 4, 2, 0, (0, 0, 0, 0, 0, 0)), (28, .iload 6, 2, 0, (0, 0, 0, 0, 0, 0)), (30, .aaload, 1, 0, (20, 40, 0, 1, 1, 0)), (31, .astore 7, 2, 0, (0, 0, 0, 0, 0, 0)), (33, .aload 7, 2, 0, (0, 0, 0, 0, 0, 0)), (35, .aload_n 1, 1, 0, (0, 0, 0, 0, 0, 0)), (36, .getfield 34, 3, 0, (10, 4, 4, 0, 0, 0)), (39, .aload_n 1, 1, 0, (0, 0, 0, 0, 0, 0)), (40, .getfield 38, 3, 0, (10, 5, 1, 0, 0, 0)), (43, .ifCond .ne 7, 3, 0, (0, 0, 0, 0, 0, 0)), (46, .iconst 1, 1, 0, (0, 0, 0, 0, 0, 1)), (47, .goto 4, 3, 0, (0, 0, 0, 0, 0, 0)), (50, .iconst 0, 1, 0, (0, 0, 0, 0, 0, 0)), (51, .invokevirtual 42, 3, 0, (0, 3, 0, 0, 1, 0)), (54, .ifCond .eq 57, 3, 0, (0, 0, 0, 0, 0, 0)), (57, .aload 7, 2, 0, (0, 0, 0, 0, 0, 0)), (59, .getfield 46, 3, 0, (10, 3, 3, 1, 0, 0)), (62, .getfield 50, 3, 0, (0, 1, 0, 0, 0, 0)), (65, .aload_n 1, 1, 0, (0, 0, 0, 0, 0, 0)), (66, .getfield 46, 3, 0, (10, 3, 3, 0, 0, 0)), (69, .getfield 50, 3, 0, (0, 1, 0, 0, 0, 0)), (72, .if_icmp .eq 39, 3, 0, (0, 0, 0, 0, 0, 0)), (75, .aload_n 1, 1, 0, (0, 0, 0, 0, 0, 0)), (76, .aload 7, 2, 0, (0, 0, 0, 0, 0, 0)), (78, .getfield 56, 3, 0, (10, 7, 0, 1, 0, 0)), (81, .invokevirtual 59, 3, 0, (1, 2, 0, 0, 2, 0)), (84, .ifCond .eq 27, 3, 0, (0, 0, 0, 0, 0, 0)), (87, .aload_n 1, 1, 0, (0, 0, 0, 0, 0, 0)), (88, .getfield 34, 3, 0, (10, 4, 4, 0, 0, 0)), (91, .aload 7, 2, 0, (0, 0, 0, 0, 0, 0)), (93, .getfield 56, 3, 0, (10, 7, 0, 1, 0, 0)), (96, .invokevirtual 63, 3, 0, (2, 2, 0, 0, 2, 0)), (99, .ifCond .ne 12, 3, 0, (0, 0, 0, 0, 0, 0)), (102, .lload_n 2, 1, 0, (0, 0, 0, 0, 0, 0)), (103, .aload 7, 2, 0, (0, 0, 0, 0, 0, 0)), (105, .getfield 68, 3, 0, (10, 9, 0, 1, 0, 0)), (108, .i2l, 1, 0, (0, 0, 0, 0, 0, 0)), (109, .ladd, 1, 0, (0, 0, 0, 0, 0, 0)), (110, .lstore_n 2, 1, 0, (0, 0, 0, 0, 0, 0)), (111, .iinc 6 1, 3, 0, (0, 0, 0, 0, 0, 1)), (114, .goto (-95), 3, 0, (0, 0, 0, 0, 0, 0)), (117, .lload_n 2, 1, 0, (0, 0, 0, 0, 0, 0)), (118, .lreturn, 1, 0, (0, 0, 0, 0, 0, 0))]
set_option maxRecDepth 100000 in
theorem rk120 : R120.all (rok 0 120 2 [(142, [13, 4, 0]), (143, [13, 0]), (13, [4, 0])]) = true := by decide +kernel
set_option maxRecDepth 100000 in
theorem tab120 {F142 : PM → Nat → Nat → Int32 → Int32} {G142 : PM → Nat → Nat → Int32 → Prop} {F143 : PM → Nat → Int32 → Int32} {G143 : PM → Nat → Int32 → Prop} {F13 : PM → Nat → Int32 → Int32} {G13 : PM → Nat → Int32 → Prop} : TabOK 0 120 2 [CC142 F142 G142, CC143 F143 G143, CC13 F13 G13] R120 := tab_ok (K := K120) rfl rfl (fun h => d120 h) rk120 (by decide +kernel)
set_option maxRecDepth 100000 in
theorem pc120 : cutpc [19] R120 = true := by decide +kernel
set_option maxRecDepth 100000 in
theorem r8_reachable_19 (p : PM) (hg : Gr 0 p) (F142 : PM → Nat → Nat → Int32 → Int32) (G142 : PM → Nat → Nat → Int32 → Prop) (o142 : CalOK 0 (CC142 F142 G142)) (F143 : PM → Nat → Int32 → Int32) (G143 : PM → Nat → Int32 → Prop) (o143 : CalOK 0 (CC143 F143 G143)) (F13 : PM → Nat → Int32 → Int32) (G13 : PM → Nat → Int32 → Prop) (o13 : CalOK 0 (CC13 F13 G13)) (kv19 : Nat → Int64 → Int32 → Int64) (kg19 : Nat → Int64 → Int32 → Prop) (hk19 : ∀ (v1 : Nat) (v2 : Int64) (v6 : Int32) (d0 d3 d7 : ZV), kg19 v1 v2 v6 → ZJ 0 120 19 [d0, zR 10 v1, zL v2, d3, zR 20 1, zC 40, zI v6, d7] [] p (hoL p (kv19 v1 v2 v6))) : ∀ (v1 : Nat) (v2 : Int64) (v6 : Int32) (d0 d3 d7 : ZV), bg8_reachable_19 p F13 G13 F142 G142 F143 G143 kg19 v1 v2 v6 → ZJ 0 120 19 [d0, zR 10 v1, zL v2, d3, zR 20 1, zC 40, zI v6, d7] [] p (hoL p (bv8_reachable_19 p F13 F142 F143 kv19 v1 v2 v6)) := by
  intro v1 v2 v6 d0 d3 d7 H
  exact roL (n := 3000) (q := 19) (la := [d0, zR 10 v1, zL v2, d3, zR 20 1, zC 40, zI v6, d7]) (sa := []) (ks := [fun la sa _ => kv19 (ar la 1) (al la 2) (ai la 6)]) (gs := [fun la sa _ => zsw (tc2 la [(2, 0), (14, 0), (1, 0), (2, 0), (120, 1), (3, 40), (0, 0), (2, 0)] && tc2 sa []) False (kg19 (ar la 1) (al la 2) (ai la 6))]) (fcons o142 (fcons o143 (fcons o13 (fnil)))) tab120 pc120 ⟨fun la sa s hg H => zcut H fun H => hk19 (ar la 1) (al la 2) (ai la 6) (zld la 0) (zld la 3) (zld la 7) H, trivial⟩ hg H
theorem t8_reachable_19 (p : PM) (hg : Gr 0 p) : ∀ (n : Nat), ∀ (v1 : Nat) (v2 : Int64) (v6 : Int32) (d0 d3 d7 : ZV), g8_reachable_19 p n v1 v2 v6 → ZJ 0 120 19 [d0, zR 10 v1, zL v2, d3, zR 20 1, zC 40, zI v6, d7] [] p (hoL p (v8_reachable_19 p n v1 v2 v6)) := by
  intro n
  induction n with
  | zero =>
    intro v1 v2 v6 d0 d3 d7 H
    exact H.elim
  | succ n ih => exact r8_reachable_19 p hg v10_standsIn g10_standsIn ok142 v10_allows g10_allows ok143 v1_isBeyondBand g1_isBeyondBand ok13 (v8_reachable_19 p n) (g8_reachable_19 p n) ih
set_option maxRecDepth 100000 in
theorem r8_reachable (p : PM) (hg : Gr 0 p) (F142 : PM → Nat → Nat → Int32 → Int32) (G142 : PM → Nat → Nat → Int32 → Prop) (o142 : CalOK 0 (CC142 F142 G142)) (F143 : PM → Nat → Int32 → Int32) (G143 : PM → Nat → Int32 → Prop) (o143 : CalOK 0 (CC143 F143 G143)) (F13 : PM → Nat → Int32 → Int32) (G13 : PM → Nat → Int32 → Prop) (o13 : CalOK 0 (CC13 F13 G13)) (kv19 : Nat → Int64 → Int32 → Int64) (kg19 : Nat → Int64 → Int32 → Prop) (hk19 : ∀ (v1 : Nat) (v2 : Int64) (v6 : Int32) (d0 d3 d7 : ZV), kg19 v1 v2 v6 → ZJ 0 120 19 [d0, zR 10 v1, zL v2, d3, zR 20 1, zC 40, zI v6, d7] [] p (hoL p (kv19 v1 v2 v6))) : ∀ (v1 : Nat), bg8_reachable p kg19 v1 → ZJ 0 120 0 [zR 8 1, zR 10 v1, zJ, zJ, zJ, zJ, zJ, zJ] [] p (hoL p (bv8_reachable p kv19 v1)) := by
  intro v1  H
  exact roL (n := 3000) (q := 0) (la := [zR 8 1, zR 10 v1, zJ, zJ, zJ, zJ, zJ, zJ]) (sa := []) (ks := [fun la sa _ => kv19 (ar la 1) (al la 2) (ai la 6)]) (gs := [fun la sa _ => zsw (tc2 la [(2, 0), (14, 0), (1, 0), (2, 0), (120, 1), (3, 40), (0, 0), (2, 0)] && tc2 sa []) False (kg19 (ar la 1) (al la 2) (ai la 6))]) (fcons o142 (fcons o143 (fcons o13 (fnil)))) tab120 pc120 ⟨fun la sa s hg H => zcut H fun H => hk19 (ar la 1) (al la 2) (ai la 6) (zld la 0) (zld la 3) (zld la 7) H, trivial⟩ hg H
theorem t8_reachable (p : PM) (hg : Gr 0 p) : ∀ (v1 : Nat), g8_reachable p v1 → ZJ 0 120 0 [zR 8 1, zR 10 v1, zJ, zJ, zJ, zJ, zJ, zJ] [] p (hoL p (v8_reachable p v1)) := r8_reachable p hg v10_standsIn g10_standsIn ok142 v10_allows g10_allows ok143 v1_isBeyondBand g1_isBeyondBand ok13 (v8_reachable_19 p FU) (g8_reachable_19 p FU) (t8_reachable_19 p hg FU)
def CC120 (F : PM → Nat → Int64) (G : PM → Nat → Prop) : Cal := (120, [11, 13], 2, true, fun as p => (zL (F p (ar as 1)), p), fun as p => zsw (tc2 as [(108, 1), (14, 0)]) False (G p (ar as 1)))
set_option maxRecDepth 100000 in
theorem okr120 (F : PM → Nat → Int64) (G : PM → Nat → Prop) (h : ∀ (p : PM) (v1 : Nat), Gr 0 p → G p v1 → ZJ 0 120 0 [zR 8 1, zR 10 v1, zJ, zJ, zJ, zJ, zJ, zJ] [] p (hoL p (F p v1))) : CalOK 0 (CC120 F G) := cal_ok (m := 8) (by unfold mL; rw [mX_120]) (fun as p hg H => h p (ar as 1) hg H)
theorem ok120 : CalOK 0 (CC120 v8_reachable g8_reachable) := okr120 v8_reachable g8_reachable (fun p v1 hg H => t8_reachable p hg v1 H)
noncomputable def bv6_stand (F78 : PM → Int32 × PM) (F148 : PM → Nat → Int32) (p : PM) (v1 : Nat) : PM :=
  let p1 : PM := pI p 10 v1 2 (cn 1)
  let p2 : PM := pI p1 10 v1 7 (p1.1 10 v1 6)
  let p3 : PM := pI p2 10 v1 11 (F148 p2 v1)
  let r4 : Int32 × PM := F78 p3
  let p5 : PM := pI r4.2 10 v1 12 r4.1
  p5
noncomputable def v6_stand (p : PM) (v1 : Nat) : PM := bv6_stand v6_nextTurn v10_showable p v1
noncomputable def bg6_stand (F78 : PM → Int32 × PM) (G78 : PM → Prop) (F148 : PM → Nat → Int32) (G148 : PM → Nat → Prop) (p : PM) (v1 : Nat) : Prop :=
  (¬ v1 = 0) ∧ (
  let p1 : PM := pI p 10 v1 2 (cn 1)
  (¬ v1 = 0) ∧ (
  (¬ v1 = 0) ∧ (
  let p2 : PM := pI p1 10 v1 7 (p1.1 10 v1 6)
  (¬ v1 = 0) ∧ (
  (G148 p2 v1) ∧ (
  (¬ v1 = 0) ∧ (
  let p3 : PM := pI p2 10 v1 11 (F148 p2 v1)
  (G78 p3) ∧ (
  let r4 : Int32 × PM := F78 p3
  (¬ v1 = 0) ∧ (
  let p5 : PM := pI r4.2 10 v1 12 r4.1
  True))))))))
noncomputable def g6_stand (p : PM) (v1 : Nat) : Prop := bg6_stand v6_nextTurn g6_nextTurn v10_showable g10_showable p v1
def R77 : List Row := [(0, .aload_n 1, 1, 0, (0, 0, 0, 0, 0, 0)), (1, .iconst 1, 1, 0, (0, 0, 0, 0, 0, 1)), (2, .putfield 29, 3, 0, (10, 2, 0, 0, 0, 0)), (5, .aload_n 1, 1, 0, (0, 0, 0, 0, 0, 0)), (6, .aload_n 1, 1, 0, (0, 0, 0, 0, 0, 0)), (7, .getfield 52, 3, 0, (10, 6, 0, 0, 0, 0)), (10, .putfield 55, 3, 0, (10, 7, 0, 0, 0, 0)), (13, .aload_n 1, 1, 0, (0, 0, 0, 0, 0, 0)), (14, .aload_n 1, 1, 0, (0, 0, 0, 0, 0, 0)), (15, .invokevirtual 58, 3, 0, (0, 1, 0, 0, 2, 0)), (18, .putfield 62, 3, 0, (10, 11, 0, 0, 0, 0)), (21, .aload_n 1, 1, 0, (0, 0, 0, 0, 0, 0)), (22, .aload_n 0, 1, 0, (0, 0, 0, 0, 0, 0)), (23, .invokevirtual 65, 3, 0, (1, 1, 0, 0, 1, 0)), (26, .putfield 68, 3, 0, (10, 12, 0, 0, 0, 0)), (29, .return_, 1, 0, (0, 0, 0, 0, 0, 0))]
set_option maxRecDepth 100000 in
theorem rk77 : R77.all (rok 0 77 0 [(148, [13]), (78, [9])]) = true := by decide +kernel
set_option maxRecDepth 100000 in
theorem tab77 {F148 : PM → Nat → Int32} {G148 : PM → Nat → Prop} {F78 : PM → Int32 × PM} {G78 : PM → Prop} : TabOK 0 77 0 [CC148 F148 G148, CC78 F78 G78] R77 := tab_ok (K := K77) rfl rfl (fun h => d77 h) rk77 (by decide +kernel)
set_option maxRecDepth 100000 in
theorem pc77 : cutpc [] R77 = true := by decide +kernel
set_option maxRecDepth 100000 in
theorem r6_stand (F148 : PM → Nat → Int32) (G148 : PM → Nat → Prop) (o148 : CalOK 0 (CC148 F148 G148)) (F78 : PM → Int32 × PM) (G78 : PM → Prop) (o78 : CalOK 0 (CC78 F78 G78)) : ∀ (p : PM) (v1 : Nat), Gr 0 p → bg6_stand F78 G78 F148 G148 p v1 → ZJ 0 77 0 [zR 6 1, zR 10 v1] [] p (hwV (bv6_stand F78 F148 p v1)) := by
  intro p v1  hg H
  exact rwV (n := 3000) (q := 0) (la := [zR 6 1, zR 10 v1]) (sa := []) (ks := []) (gs := []) (fcons o148 (fcons o78 (fnil))) tab77 pc77 trivial hg H
theorem t6_stand : ∀ (p : PM) (v1 : Nat), Gr 0 p → g6_stand p v1 → ZJ 0 77 0 [zR 6 1, zR 10 v1] [] p (hwV (v6_stand p v1)) := r6_stand v10_showable g10_showable ok148 v6_nextTurn g6_nextTurn ok78
def CC77 (F : PM → Nat → PM) (G : PM → Nat → Prop) : Cal := (77, [9, 13], 0, false, fun as p => (zJ, (F p (ar as 1))), fun as p => zsw (tc2 as [(106, 1), (14, 0)]) False (G p (ar as 1)))
set_option maxRecDepth 100000 in
theorem okr77 (F : PM → Nat → PM) (G : PM → Nat → Prop) (h : ∀ (p : PM) (v1 : Nat), Gr 0 p → G p v1 → ZJ 0 77 0 [zR 6 1, zR 10 v1] [] p (hwV (F p v1))) : CalOK 0 (CC77 F G) := cal_ok (m := 2) (by unfold mL; rw [mX_77]) (fun as p hg H => h p (ar as 1) hg H)
theorem ok77 : CalOK 0 (CC77 v6_stand g6_stand) := okr77 v6_stand g6_stand t6_stand
noncomputable def bv6_beginAuction (p : PM) (v1 : Nat) (v2 : Int32) (v3 : Int32) : Int32 × PM :=
  let p1 : PM := pI p 1 v1 5 (cn 1)
  let p2 : PM := pI p1 1 v1 6 (cn 0)
  let p3 : PM := pI p2 1 v1 7 ((p2.1 6 1 2) + v2)
  let p4 : PM := pI p3 1 v1 8 v3
  ((p4.1 1 v1 7), p4)
noncomputable def v6_beginAuction (p : PM) (v1 : Nat) (v2 : Int32) (v3 : Int32) : Int32 × PM := bv6_beginAuction p v1 v2 v3
noncomputable def bg6_beginAuction (p : PM) (v1 : Nat) (v2 : Int32) (v3 : Int32) : Prop :=
  (¬ v1 = 0) ∧ (
  let p1 : PM := pI p 1 v1 5 (cn 1)
  (¬ v1 = 0) ∧ (
  let p2 : PM := pI p1 1 v1 6 (cn 0)
  (¬ v1 = 0) ∧ (
  let p3 : PM := pI p2 1 v1 7 ((p2.1 6 1 2) + v2)
  (¬ v1 = 0) ∧ (
  let p4 : PM := pI p3 1 v1 8 v3
  (¬ v1 = 0) ∧ (
  True)))))
noncomputable def g6_beginAuction (p : PM) (v1 : Nat) (v2 : Int32) (v3 : Int32) : Prop := bg6_beginAuction p v1 v2 v3
def R93 : List Row := [(0, .aload_n 1, 1, 0, (0, 0, 0, 0, 0, 0)), (1, .iconst 1, 1, 0, (0, 0, 0, 0, 0, 1)), (2, .putfield 154, 3, 0, (1, 5, 1, 0, 0, 0)), (5, .aload_n 1, 1, 0, (0, 0, 0, 0, 0, 0)), (6, .iconst 0, 1, 0, (0, 0, 0, 0, 0, 0)), (7, .putfield 164, 3, 0, (1, 6, 1, 0, 0, 0)), (10, .aload_n 1, 1, 0, (0, 0, 0, 0, 0, 0)), (11, .aload_n 0, 1, 0, (0, 0, 0, 0, 0, 0)), (12, .getfield 33, 3, 0, (6, 2, 0, 1, 0, 0)), (15, .iload_n 2, 1, 0, (0, 0, 0, 0, 0, 0)), (16, .iadd, 1, 0, (0, 0, 0, 0, 0, 0)), (17, .putfield 167, 3, 0, (1, 7, 0, 0, 0, 0)), (20, .aload_n 1, 1, 0, (0, 0, 0, 0, 0, 0)), (21, .iload_n 3, 1, 0, (0, 0, 0, 0, 0, 0)), (22, .putfield 170, 3, 0, (1, 8, 0, 0, 0, 0)), (25, .aload_n 1, 1, 0, (0, 0, 0, 0, 0, 0)), (26, .getfield 167, 3, 0, (1, 7, 0, 0, 0, 0)), (29, .ireturn, 1, 0, (0, 0, 0, 0, 0, 0))]
set_option maxRecDepth 100000 in
theorem rk93 : R93.all (rok 0 93 1 []) = true := by decide +kernel
set_option maxRecDepth 100000 in
theorem tab93 : TabOK 0 93 1 [] R93 := tab_ok (K := K93) rfl rfl (fun h => d93 h) rk93 (by decide +kernel)
set_option maxRecDepth 100000 in
theorem pc93 : cutpc [] R93 = true := by decide +kernel
set_option maxRecDepth 100000 in
theorem r6_beginAuction : ∀ (p : PM) (v1 : Nat) (v2 : Int32) (v3 : Int32), Gr 0 p → bg6_beginAuction p v1 v2 v3 → ZJ 0 93 0 [zR 6 1, zR 1 v1, zI v2, zI v3] [] p (hwI (bv6_beginAuction p v1 v2 v3)) := by
  intro p v1 v2 v3  hg H
  exact rwI (n := 3000) (q := 0) (la := [zR 6 1, zR 1 v1, zI v2, zI v3]) (sa := []) (ks := []) (gs := []) (fnil) tab93 pc93 trivial hg H
theorem t6_beginAuction : ∀ (p : PM) (v1 : Nat) (v2 : Int32) (v3 : Int32), Gr 0 p → g6_beginAuction p v1 v2 v3 → ZJ 0 93 0 [zR 6 1, zR 1 v1, zI v2, zI v3] [] p (hwI (v6_beginAuction p v1 v2 v3)) := r6_beginAuction
def CC93 (F : PM → Nat → Int32 → Int32 → Int32 × PM) (G : PM → Nat → Int32 → Int32 → Prop) : Cal := (93, [9, 4, 0, 0], 1, false, fun as p => (zI (F p (ar as 1) (ai as 2) (ai as 3)).1, (F p (ar as 1) (ai as 2) (ai as 3)).2), fun as p => zsw (tc2 as [(106, 1), (5, 0), (0, 0), (0, 0)]) False (G p (ar as 1) (ai as 2) (ai as 3)))
set_option maxRecDepth 100000 in
theorem okr93 (F : PM → Nat → Int32 → Int32 → Int32 × PM) (G : PM → Nat → Int32 → Int32 → Prop) (h : ∀ (p : PM) (v1 : Nat) (v2 : Int32) (v3 : Int32), Gr 0 p → G p v1 v2 v3 → ZJ 0 93 0 [zR 6 1, zR 1 v1, zI v2, zI v3] [] p (hwI (F p v1 v2 v3))) : CalOK 0 (CC93 F G) := cal_ok (m := 4) (by unfold mL; rw [mX_93]) (fun as p hg H => h p (ar as 1) (ai as 2) (ai as 3) hg H)
theorem ok93 : CalOK 0 (CC93 v6_beginAuction g6_beginAuction) := okr93 v6_beginAuction g6_beginAuction t6_beginAuction
noncomputable def bv8_gather_91 (kv37 : PM → Nat → Int32 → Int32 → Int32 → Int32 → Int32 × PM) (kv91 : PM → Nat → Int32 → Int32 → Int32 → Int32 → Nat → Int32 → Int32 × PM) (p : PM) (v1 : Nat) (v2 : Int32) (v3 : Int32) (v4 : Int32) (v7 : Int32) (v8 : Nat) (v9 : Int32) : Int32 × PM :=
  if 0 < v9 then (
    if v9 < (cn 40) then (
      let x3 : Nat := (p.2.2 20 2 ((v9 - (cn 1))).toNatClampNeg)
      if v3 = 0 then (
        if (p.1 10 x3 12) < (p.1 10 v8 12) then (
          if v9 < (cn 40) then (
            let p5 : PM := pR p 20 2 (v9).toNatClampNeg v8
            kv37 p5 v1 v2 v3 (v4 + (cn 1)) (v7 + (cn 1)))
          else (
            kv37 p v1 v2 v3 v4 (v7 + (cn 1))))
        else (
          let p4 : PM := pR p 20 2 (v9).toNatClampNeg x3
          kv91 p4 v1 v2 v3 v4 v7 v8 (v9 + (cn (-1)))))
      else (
        if (p.1 10 v8 11) = (p.1 10 x3 11) then (
          if (p.1 10 x3 12) < (p.1 10 v8 12) then (
            if v9 < (cn 40) then (
              let p7 : PM := pR p 20 2 (v9).toNatClampNeg v8
              kv37 p7 v1 v2 v3 (v4 + (cn 1)) (v7 + (cn 1)))
            else (
              kv37 p v1 v2 v3 v4 (v7 + (cn 1))))
          else (
            let p6 : PM := pR p 20 2 (v9).toNatClampNeg x3
            kv91 p6 v1 v2 v3 v4 v7 v8 (v9 + (cn (-1)))))
        else (
          if (p.1 10 v8 11) < (p.1 10 x3 11) then (
            if v9 < (cn 40) then (
              let p9 : PM := pR p 20 2 (v9).toNatClampNeg v8
              kv37 p9 v1 v2 v3 (v4 + (cn 1)) (v7 + (cn 1)))
            else (
              kv37 p v1 v2 v3 v4 (v7 + (cn 1))))
          else (
            let p8 : PM := pR p 20 2 (v9).toNatClampNeg x3
            kv91 p8 v1 v2 v3 v4 v7 v8 (v9 + (cn (-1)))))))
    else (
      if v9 < (cn 40) then (
        let p2 : PM := pR p 20 2 (v9).toNatClampNeg v8
        kv37 p2 v1 v2 v3 (v4 + (cn 1)) (v7 + (cn 1)))
      else (
        kv37 p v1 v2 v3 v4 (v7 + (cn 1)))))
  else (
    if v9 < (cn 40) then (
      let p1 : PM := pR p 20 2 (v9).toNatClampNeg v8
      kv37 p1 v1 v2 v3 (v4 + (cn 1)) (v7 + (cn 1)))
    else (
      kv37 p v1 v2 v3 v4 (v7 + (cn 1))))
noncomputable def v8_gather_91 (kv37 : PM → Nat → Int32 → Int32 → Int32 → Int32 → Int32 × PM) (n : Nat) : PM → Nat → Int32 → Int32 → Int32 → Int32 → Nat → Int32 → Int32 × PM := Nat.rec (motive := fun _ => PM → Nat → Int32 → Int32 → Int32 → Int32 → Nat → Int32 → Int32 × PM) (fun p _ _ _ _ _ _ _ => (0, p)) (fun _ ih => bv8_gather_91 kv37 ih) n
theorem ev8_gather_91 (kv37 : PM → Nat → Int32 → Int32 → Int32 → Int32 → Int32 × PM) (n : Nat) (p : PM) (v1 : Nat) (v2 : Int32) (v3 : Int32) (v4 : Int32) (v7 : Int32) (v8 : Nat) (v9 : Int32) : v8_gather_91 kv37 (n + 1) p v1 v2 v3 v4 v7 v8 v9 = bv8_gather_91 kv37 (v8_gather_91 kv37 n) p v1 v2 v3 v4 v7 v8 v9 := rfl
noncomputable def bg8_gather_91 (kg37 : PM → Nat → Int32 → Int32 → Int32 → Int32 → Prop) (kg91 : PM → Nat → Int32 → Int32 → Int32 → Int32 → Nat → Int32 → Prop) (p : PM) (v1 : Nat) (v2 : Int32) (v3 : Int32) (v4 : Int32) (v7 : Int32) (v8 : Nat) (v9 : Int32) : Prop :=
  if 0 < v9 then (
    if v9 < (cn 40) then (
      (inb (v9 - (cn 1)) 40) ∧ (
      let x3 : Nat := (p.2.2 20 2 ((v9 - (cn 1))).toNatClampNeg)
      if v3 = 0 then (
        (¬ x3 = 0) ∧ (
        (¬ v8 = 0) ∧ (
        if (p.1 10 x3 12) < (p.1 10 v8 12) then (
          if v9 < (cn 40) then (
            (inb v9 40) ∧ (
            let p5 : PM := pR p 20 2 (v9).toNatClampNeg v8
            kg37 p5 v1 v2 v3 (v4 + (cn 1)) (v7 + (cn 1))))
          else (
            kg37 p v1 v2 v3 v4 (v7 + (cn 1))))
        else (
          (inb v9 40) ∧ (
          let p4 : PM := pR p 20 2 (v9).toNatClampNeg x3
          kg91 p4 v1 v2 v3 v4 v7 v8 (v9 + (cn (-1))))))))
      else (
        (¬ v8 = 0) ∧ (
        (¬ x3 = 0) ∧ (
        if (p.1 10 v8 11) = (p.1 10 x3 11) then (
          (¬ x3 = 0) ∧ (
          (¬ v8 = 0) ∧ (
          if (p.1 10 x3 12) < (p.1 10 v8 12) then (
            if v9 < (cn 40) then (
              (inb v9 40) ∧ (
              let p7 : PM := pR p 20 2 (v9).toNatClampNeg v8
              kg37 p7 v1 v2 v3 (v4 + (cn 1)) (v7 + (cn 1))))
            else (
              kg37 p v1 v2 v3 v4 (v7 + (cn 1))))
          else (
            (inb v9 40) ∧ (
            let p6 : PM := pR p 20 2 (v9).toNatClampNeg x3
            kg91 p6 v1 v2 v3 v4 v7 v8 (v9 + (cn (-1))))))))
        else (
          (¬ x3 = 0) ∧ (
          (¬ v8 = 0) ∧ (
          if (p.1 10 v8 11) < (p.1 10 x3 11) then (
            if v9 < (cn 40) then (
              (inb v9 40) ∧ (
              let p9 : PM := pR p 20 2 (v9).toNatClampNeg v8
              kg37 p9 v1 v2 v3 (v4 + (cn 1)) (v7 + (cn 1))))
            else (
              kg37 p v1 v2 v3 v4 (v7 + (cn 1))))
          else (
            (inb v9 40) ∧ (
            let p8 : PM := pR p 20 2 (v9).toNatClampNeg x3
            kg91 p8 v1 v2 v3 v4 v7 v8 (v9 + (cn (-1)))))))))))))
    else (
      if v9 < (cn 40) then (
        (inb v9 40) ∧ (
        let p2 : PM := pR p 20 2 (v9).toNatClampNeg v8
        kg37 p2 v1 v2 v3 (v4 + (cn 1)) (v7 + (cn 1))))
      else (
        kg37 p v1 v2 v3 v4 (v7 + (cn 1)))))
  else (
    if v9 < (cn 40) then (
      (inb v9 40) ∧ (
      let p1 : PM := pR p 20 2 (v9).toNatClampNeg v8
      kg37 p1 v1 v2 v3 (v4 + (cn 1)) (v7 + (cn 1))))
    else (
      kg37 p v1 v2 v3 v4 (v7 + (cn 1))))
noncomputable def g8_gather_91 (kg37 : PM → Nat → Int32 → Int32 → Int32 → Int32 → Prop) (n : Nat) : PM → Nat → Int32 → Int32 → Int32 → Int32 → Nat → Int32 → Prop := Nat.rec (motive := fun _ => PM → Nat → Int32 → Int32 → Int32 → Int32 → Nat → Int32 → Prop) (fun _ _ _ _ _ _ _ _ => False) (fun _ ih => bg8_gather_91 kg37 ih) n
theorem eg8_gather_91 (kg37 : PM → Nat → Int32 → Int32 → Int32 → Int32 → Prop) (n : Nat) (p : PM) (v1 : Nat) (v2 : Int32) (v3 : Int32) (v4 : Int32) (v7 : Int32) (v8 : Nat) (v9 : Int32) : g8_gather_91 kg37 (n + 1) p v1 v2 v3 v4 v7 v8 v9 = bg8_gather_91 kg37 (g8_gather_91 kg37 n) p v1 v2 v3 v4 v7 v8 v9 := rfl
noncomputable def bv8_gather_37 (F142 : PM → Nat → Nat → Int32 → Int32) (kv37 : PM → Nat → Int32 → Int32 → Int32 → Int32 → Int32 × PM) (kv91 : PM → Nat → Int32 → Int32 → Int32 → Int32 → Nat → Int32 → Int32 × PM) (p : PM) (v1 : Nat) (v2 : Int32) (v3 : Int32) (v4 : Int32) (v7 : Int32) : Int32 × PM :=
  if v7 < (cn 40) then (
    if (p.1 10 v1 5) = 0 then (
      if (F142 p ((v7).toNatClampNeg + 1) (p.2.2 10 v1 4) (cn 1)) = 0 then (
        kv37 p v1 v2 v3 v4 (v7 + (cn 1)))
      else (
        if (p.1 10 ((v7).toNatClampNeg + 1) 7) = v2 then (
          kv91 p v1 v2 v3 v4 v7 ((v7).toNatClampNeg + 1) v4)
        else (
          kv37 p v1 v2 v3 v4 (v7 + (cn 1)))))
    else (
      if (F142 p ((v7).toNatClampNeg + 1) (p.2.2 10 v1 4) (cn 0)) = 0 then (
        kv37 p v1 v2 v3 v4 (v7 + (cn 1)))
      else (
        if (p.1 10 ((v7).toNatClampNeg + 1) 7) = v2 then (
          kv91 p v1 v2 v3 v4 v7 ((v7).toNatClampNeg + 1) v4)
        else (
          kv37 p v1 v2 v3 v4 (v7 + (cn 1))))))
  else (
    (v4, p))
noncomputable def v8_gather_37 (n : Nat) : PM → Nat → Int32 → Int32 → Int32 → Int32 → Int32 × PM := Nat.rec (motive := fun _ => PM → Nat → Int32 → Int32 → Int32 → Int32 → Int32 × PM) (fun p _ _ _ _ _ => (0, p)) (fun _ ih => bv8_gather_37 v10_standsIn ih (v8_gather_91 ih FU)) n
theorem ev8_gather_37 (n : Nat) (p : PM) (v1 : Nat) (v2 : Int32) (v3 : Int32) (v4 : Int32) (v7 : Int32) : v8_gather_37 (n + 1) p v1 v2 v3 v4 v7 = bv8_gather_37 v10_standsIn (v8_gather_37 n) (v8_gather_91 (v8_gather_37 n) FU) p v1 v2 v3 v4 v7 := rfl
noncomputable def bg8_gather_37 (F142 : PM → Nat → Nat → Int32 → Int32) (G142 : PM → Nat → Nat → Int32 → Prop) (kg37 : PM → Nat → Int32 → Int32 → Int32 → Int32 → Prop) (kg91 : PM → Nat → Int32 → Int32 → Int32 → Int32 → Nat → Int32 → Prop) (p : PM) (v1 : Nat) (v2 : Int32) (v3 : Int32) (v4 : Int32) (v7 : Int32) : Prop :=
  if v7 < (cn 40) then (
    (inb v7 40) ∧ (
    (¬ v1 = 0) ∧ (
    (¬ v1 = 0) ∧ (
    if (p.1 10 v1 5) = 0 then (
      (G142 p ((v7).toNatClampNeg + 1) (p.2.2 10 v1 4) (cn 1)) ∧ (
      if (F142 p ((v7).toNatClampNeg + 1) (p.2.2 10 v1 4) (cn 1)) = 0 then (
        kg37 p v1 v2 v3 v4 (v7 + (cn 1)))
      else (
        if (p.1 10 ((v7).toNatClampNeg + 1) 7) = v2 then (
          kg91 p v1 v2 v3 v4 v7 ((v7).toNatClampNeg + 1) v4)
        else (
          kg37 p v1 v2 v3 v4 (v7 + (cn 1))))))
    else (
      (G142 p ((v7).toNatClampNeg + 1) (p.2.2 10 v1 4) (cn 0)) ∧ (
      if (F142 p ((v7).toNatClampNeg + 1) (p.2.2 10 v1 4) (cn 0)) = 0 then (
        kg37 p v1 v2 v3 v4 (v7 + (cn 1)))
      else (
        if (p.1 10 ((v7).toNatClampNeg + 1) 7) = v2 then (
          kg91 p v1 v2 v3 v4 v7 ((v7).toNatClampNeg + 1) v4)
        else (
          kg37 p v1 v2 v3 v4 (v7 + (cn 1))))))))))
  else (
    True)
noncomputable def g8_gather_37 (n : Nat) : PM → Nat → Int32 → Int32 → Int32 → Int32 → Prop := Nat.rec (motive := fun _ => PM → Nat → Int32 → Int32 → Int32 → Int32 → Prop) (fun _ _ _ _ _ _ => False) (fun _ ih => bg8_gather_37 v10_standsIn g10_standsIn ih (g8_gather_91 ih FU)) n
theorem eg8_gather_37 (n : Nat) (p : PM) (v1 : Nat) (v2 : Int32) (v3 : Int32) (v4 : Int32) (v7 : Int32) : g8_gather_37 (n + 1) p v1 v2 v3 v4 v7 = bg8_gather_37 v10_standsIn g10_standsIn (g8_gather_37 n) (g8_gather_91 (g8_gather_37 n) FU) p v1 v2 v3 v4 v7 := rfl
noncomputable def bv8_gather (kv37 : PM → Nat → Int32 → Int32 → Int32 → Int32 → Int32 × PM) (p : PM) (v1 : Nat) (v2 : Int32) : Int32 × PM :=
  if (p.1 1 (p.2.2 10 v1 4) 9) = (cn 2) then (
    kv37 p v1 v2 (cn 1) (cn 0) (cn 0))
  else (
    kv37 p v1 v2 (cn 0) (cn 0) (cn 0))
noncomputable def v8_gather (p : PM) (v1 : Nat) (v2 : Int32) : Int32 × PM := bv8_gather (v8_gather_37 FU) p v1 v2
noncomputable def bg8_gather (kg37 : PM → Nat → Int32 → Int32 → Int32 → Int32 → Prop) (p : PM) (v1 : Nat) (v2 : Int32) : Prop :=
  (¬ v1 = 0) ∧ (
  (¬ (p.2.2 10 v1 4) = 0) ∧ (
  if (p.1 1 (p.2.2 10 v1 4) 9) = (cn 2) then (
    kg37 p v1 v2 (cn 1) (cn 0) (cn 0))
  else (
    kg37 p v1 v2 (cn 0) (cn 0) (cn 0))))
noncomputable def g8_gather (p : PM) (v1 : Nat) (v2 : Int32) : Prop := bg8_gather (g8_gather_37 FU) p v1 v2
def R123 : List Row := [(0, .aload_n 1, 1, 0, (0, 0, 0, 0, 0, 0)), (1, .getfield 34, 3, 0, (10, 4, 4, 0, 0, 0)), (4, .getfield 119, 3, 0, (1, 9, 0, 0, 0, 0)), (7, .iconst 2, 1, 0, (0, 0, 0, 0, 0, 2)), (8, .if_icmp .ne 7, 3, 0, (0, 0, 0, 0, 0, 0)), (11, .iconst 1, 1, 0, (0, 0, 0, 0, 0, 1)), (12, .goto 4, 3, 0, (0, 0, 0, 0, 0, 0)), (15, .iconst 0, 1, 0, (0, 0, 0, 0, 0, 0)), (16, .istore_n 3, 1, 0, (0, 0, 0, 0, 0, 0)), (17, .iconst 0, 1, 0, (0, 0, 0, 0, 0, 0)), (18, .istore 4, 2, 0, (0, 0, 0, 0, 0, 0)), (20, .aload_n 0, 1, 0, (0, 0, 0, 0, 0, 0)), (21, .getfield 21, 3, 0, (8, 0, 9, 2, 1, 0)), (24, .getfield 29, 3, 0, (6, 1, 23, 2, 1, 0)), (27, .astore 5, 2, 0, (0, 0, 0, 0, 0, 0)), (29, .aload 5, 2, 0, (0, 0, 0, 0, 0, 0)), (31, .arraylength, 1, 0, (20, 40, 0, 0, 0, 40)), (32, .istore 6, 2, 0, (0, 0, 0, 0, 0, 0)), (34, .iconst 0, 1, 0, (0, 0, 0, 0, 0, 0)), (35, .istore 7, 2, 0, (0, 0, 0, 0, 0, 0)), (37, .iload 7, 2, 1, (0, 0, 0, 0, 0, 0)), (39, .iload 6, 2, 0, (0, 0, 0, 0, 0, 0)), (41, .if_icmp .ge 185, 3, 0, (0, 0, 0, 0, 0, 0)), (44, .aload 5, 2, 0, (0, 0, 0, 0, 0, 0)), (46, .iload 7, 2, 0, (0, 0, 0, 0, 0, 0)), (48, .aaload, 1, 0, (20, 40, 0, 1, 1, 0)), (49, .astore 8, 2, 0, (0, 0, 0, 0, 0, 0)), (51, .aload 8, 2, 0, (0, 0, 0, 0, 0, 0)), (53, .aload_n 1, 1, 0, (0, 0, 0, 0, 0, 0)), (54, .getfield 34, 3, 0, (10, 4, 4, 0, 0, 0)), (57, .aload_n 1, 1, 0, (0, 0, 0, 0, 0, 0)), (58, .getfield 38, 3, 0, (10, 5, 1, 0, 0, 0)), (61, .ifCond .ne 7, 3, 0, (0, 0, 0, 0, 0, 0)), (64, .iconst 1, 1, 0, (0, 0, 0, 0, 0, 1)), (65, .goto 4, 3, 0, (0, 0, 0, 0, 0, 0)), (68, .iconst 0, 1, 0, (0, 0, 0, 0, 0, 0)), (69, .invokevirtual 42, 3, 0, (0, 3, 0, 0, 1, 0)), (72, .ifCond .eq 148, 3, 0, (0, 0, 0, 0, 0, 0)), (75, .aload 8, 2, 0, (0, 0, 0, 0, 0, 0)), (77, .getfield 56, 3, 0, (10, 7, 0, 1, 0, 0)), (80, .iload_n 2, 1, 0, (0, 0, 0, 0, 0, 0)), (81, .if_icmp .eq 6, 3, 0, (0, 0, 0, 0, 0, 0)), (84, .goto 136, 3, 0, (0, 0, 0, 0, 0, 0)), (87, .iload 4, 2, 0, (0, 0, 0, 0, 0, 0)), (89, .istore 9, 2, 0, (0, 0, 0, 0, 0, 0)), (91, .iload 9, 2, 2, (0, 0, 0, 0, 0, 0)), (93, .ifCond .le 105, 3, 0, (0, 0, 0, 0, 0, 0)), (96, .iload 9, 2, 0, (0, 0, 0, 0, 0, 0)), (98, .aload_n 0, 1, 0, (0, 0, 0, 0, 0, 0)), (99, .getfield 11, 3, 0, (8, 2, 23, 2, 2, 0)), (102, .arraylength, 1, 0, (20, 40, 0, 0, 0, 40)), (103, .if_icmp .ge 95, 3, 0, (0, 0, 0, 0, 0, 0)), (106, .aload_n 0, 1, 0, (0, 0, 0, 0, 0, 0)), (107, .getfield 11, 3, 0, (8, 2, 23, 2, 2, 0)), (110, .iload 9, 2, 0, (0, 0, 0, 0, 0, 0)), (112, .iconst 1, 1, 0, (0, 0, 0, 0, 0, 1)), (113, .isub, 1, 0, (0, 0, 0, 0, 0, 0)), (114, .aaload, 1, 0, (20, 40, 0, 0, 0, 0)), (115, .astore 10, 2, 0, (0, 0, 0, 0, 0, 0)), (117, .iload_n 3, 1, 0, (0, 0, 0, 0, 0, 0)), (118, .ifCond .eq 37, 3, 0, (0, 0, 0, 0, 0, 0)), (121, .aload 8, 2, 0, (0, 0, 0, 0, 0, 0)), (123, .getfield 122, 3, 0, (10, 11, 0, 0, 0, 0)), (126, .aload 10, 2, 0, (0, 0, 0, 0, 0, 0)), (128, .getfield 122, 3, 0, (10, 11, 0, 0, 0, 0)), (131, .if_icmp .eq 24, 3, 0, (0, 0, 0, 0, 0, 0)), (134, .aload 10, 2, 0, (0, 0, 0, 0, 0, 0)), (136, .getfield 122, 3, 0, (10, 11, 0, 0, 0, 0)), (139, .aload 8, 2, 0, (0, 0, 0, 0, 0, 0)), (141, .getfield 122, 3, 0, (10, 11, 0, 0, 0, 0)), (144, .if_icmp .le 7, 3, 0, (0, 0, 0, 0, 0, 0)), (147, .iconst 1, 1, 0, (0, 0, 0, 0, 0, 1)), (148, .goto 25, 3, 0, (0, 0, 0, 0, 0, 0)), (151, .iconst 0, 1, 0, (0, 0, 0, 0, 0, 0)), (152, .goto 21, 3, 0, (0, 0, 0, 0, 0, 0)), (155, .aload 10, 2, 0, (0, 0, 0, 0, 0, 0)), (157, .getfield 125, 3, 0, (10, 12, 0, 0, 0, 0)), (160, .aload 8, 2, 0, (0, 0, 0, 0, 0, 0)), (162, .getfield 125, 3, 0, (10, 12, 0, 0, 0, 0)), (165, .if_icmp .ge 7, 3, 0, (0, 0, 0, 0, 0, 0)), (168, .iconst 1, 1, 0, (0, 0, 0, 0, 0, 1)), (169, .goto 4, 3, 0, (0, 0, 0, 0, 0, 0)), (172, .iconst 0, 1, 0, (0, 0, 0, 0, 0, 0)), (173, .istore 11, 2, 0, (0, 0, 0, 0, 0, 0)), (175, .iload 11, 2, 0, (0, 0, 0, 0, 0, 0)), (177, .ifCond .eq 6, 3, 0, (0, 0, 0, 0, 0, 0)), (180, .goto 18, 3, 0, (0, 0, 0, 0, 0, 0)), (183, .aload_n 0, 1, 0, (0, 0, 0, 0, 0, 0)), (184, .getfield 11, 3, 0, (8, 2, 23, 2, 2, 0)), (187, .iload 9, 2, 0, (0, 0, 0, 0, 0, 0)), (189, .aload 10, 2, 0, (0, 0, 0, 0, 0, 0)), (191, .aastore, 1, 0, (20, 40, 0, 0, 0, 0)), (192, .iinc 9 (-1), 3, 0, (0, 0, 0, 0, 0, -1)), (195, .goto (-104), 3, 0, (0, 0, 0, 0, 0, 0)), (198, .iload 9, 2, 0, (0, 0, 0, 0, 0, 0)), (200, .aload_n 0, 1, 0, (0, 0, 0, 0, 0, 0)), (201, .getfield 11, 3, 0, (8, 2, 23, 2, 2, 0)), (204, .arraylength, 1, 0, (20, 40, 0, 0, 0, 40)), (205, .if_icmp .ge 15, 3, 0, (0, 0, 0, 0, 0, 0)), (208, .aload_n 0, 1, 0, (0, 0, 0, 0, 0, 0)), (209, .getfield 11, 3, 0, (8, 2, 23, 2, 2, 0)), (212, .iload 9, 2, 0, (0, 0, 0, 0, 0, 0)), (214, .aload 8, 2, 0, (0, 0, 0, 0, 0, 0)), (216, .aastore, 1, 0, (20, 40, 0, 0, 0, 0)), (217, .iinc 4 1, 3, 0, (0, 0, 0, 0, 0, 1)), (220, .iinc 7 1, 3, 0, (0, 0, 0, 0, 0, 1)), (223, .goto (-186), 3, 0, (0, 0, 0, 0, 0, 0)), (226, .iload 4, 2, 0, (0, 0, 0, 0, 0, 0)), (228, .ireturn, 1, 0, (0, 0, 0, 0, 0, 0))]
set_option maxRecDepth 100000 in
theorem rk123 : R123.all (rok 0 123 1 [(142, [13, 4, 0])]) = true := by decide +kernel
set_option maxRecDepth 100000 in
theorem tab123 {F142 : PM → Nat → Nat → Int32 → Int32} {G142 : PM → Nat → Nat → Int32 → Prop} : TabOK 0 123 1 [CC142 F142 G142] R123 := tab_ok (K := K123) rfl rfl (fun h => d123 h) rk123 (by decide +kernel)
set_option maxRecDepth 100000 in
theorem pc123 : cutpc [37, 91] R123 = true := by decide +kernel
set_option maxRecDepth 100000 in
theorem r8_gather_91 (F142 : PM → Nat → Nat → Int32 → Int32) (G142 : PM → Nat → Nat → Int32 → Prop) (o142 : CalOK 0 (CC142 F142 G142)) (kv37 : PM → Nat → Int32 → Int32 → Int32 → Int32 → Int32 × PM) (kg37 : PM → Nat → Int32 → Int32 → Int32 → Int32 → Prop) (hk37 : ∀ (p : PM) (v1 : Nat) (v2 : Int32) (v3 : Int32) (v4 : Int32) (v7 : Int32) (d8 d9 d10 d11 : ZV), Gr 0 p → kg37 p v1 v2 v3 v4 v7 → ZJ 0 123 37 [zR 8 1, zR 10 v1, zI v2, zI v3, zI v4, zR 20 1, zC 40, zI v7, d8, d9, d10, d11] [] p (hwI (kv37 p v1 v2 v3 v4 v7))) (kv91 : PM → Nat → Int32 → Int32 → Int32 → Int32 → Nat → Int32 → Int32 × PM) (kg91 : PM → Nat → Int32 → Int32 → Int32 → Int32 → Nat → Int32 → Prop) (hk91 : ∀ (p : PM) (v1 : Nat) (v2 : Int32) (v3 : Int32) (v4 : Int32) (v7 : Int32) (v8 : Nat) (v9 : Int32) (d10 d11 : ZV), Gr 0 p → kg91 p v1 v2 v3 v4 v7 v8 v9 → ZJ 0 123 91 [zR 8 1, zR 10 v1, zI v2, zI v3, zI v4, zR 20 1, zC 40, zI v7, zR 10 v8, zI v9, d10, d11] [] p (hwI (kv91 p v1 v2 v3 v4 v7 v8 v9))) : ∀ (p : PM) (v1 : Nat) (v2 : Int32) (v3 : Int32) (v4 : Int32) (v7 : Int32) (v8 : Nat) (v9 : Int32) (d10 d11 : ZV), Gr 0 p → bg8_gather_91 kg37 kg91 p v1 v2 v3 v4 v7 v8 v9 → ZJ 0 123 91 [zR 8 1, zR 10 v1, zI v2, zI v3, zI v4, zR 20 1, zC 40, zI v7, zR 10 v8, zI v9, d10, d11] [] p (hwI (bv8_gather_91 kv37 kv91 p v1 v2 v3 v4 v7 v8 v9)) := by
  intro p v1 v2 v3 v4 v7 v8 v9 d10 d11 hg H
  exact rwI (n := 3000) (q := 91) (la := [zR 8 1, zR 10 v1, zI v2, zI v3, zI v4, zR 20 1, zC 40, zI v7, zR 10 v8, zI v9, d10, d11]) (sa := []) (ks := [fun la sa s => kv37 s (ar la 1) (ai la 2) (ai la 3) (ai la 4) (ai la 7), fun la sa s => kv91 s (ar la 1) (ai la 2) (ai la 3) (ai la 4) (ai la 7) (ar la 8) (ai la 9)]) (gs := [fun la sa s => zsw (tc2 la [(108, 1), (14, 0), (0, 0), (0, 0), (0, 0), (120, 1), (3, 40), (0, 0), (2, 0), (2, 0), (2, 0), (2, 0)] && tc2 sa []) False (kg37 s (ar la 1) (ai la 2) (ai la 3) (ai la 4) (ai la 7)), fun la sa s => zsw (tc2 la [(108, 1), (14, 0), (0, 0), (0, 0), (0, 0), (120, 1), (3, 40), (0, 0), (14, 0), (0, 0), (2, 0), (2, 0)] && tc2 sa []) False (kg91 s (ar la 1) (ai la 2) (ai la 3) (ai la 4) (ai la 7) (ar la 8) (ai la 9))]) (fcons o142 (fnil)) tab123 pc123 ⟨fun la sa s hg H => zcut H fun H => hk37 s (ar la 1) (ai la 2) (ai la 3) (ai la 4) (ai la 7) (zld la 8) (zld la 9) (zld la 10) (zld la 11) hg H, fun la sa s hg H => zcut H fun H => hk91 s (ar la 1) (ai la 2) (ai la 3) (ai la 4) (ai la 7) (ar la 8) (ai la 9) (zld la 10) (zld la 11) hg H, trivial⟩ hg H
theorem t8_gather_91 (kv37 : PM → Nat → Int32 → Int32 → Int32 → Int32 → Int32 × PM) (kg37 : PM → Nat → Int32 → Int32 → Int32 → Int32 → Prop) (hk37 : ∀ (p : PM) (v1 : Nat) (v2 : Int32) (v3 : Int32) (v4 : Int32) (v7 : Int32) (d8 d9 d10 d11 : ZV), Gr 0 p → kg37 p v1 v2 v3 v4 v7 → ZJ 0 123 37 [zR 8 1, zR 10 v1, zI v2, zI v3, zI v4, zR 20 1, zC 40, zI v7, d8, d9, d10, d11] [] p (hwI (kv37 p v1 v2 v3 v4 v7))) : ∀ (n : Nat), ∀ (p : PM) (v1 : Nat) (v2 : Int32) (v3 : Int32) (v4 : Int32) (v7 : Int32) (v8 : Nat) (v9 : Int32) (d10 d11 : ZV), Gr 0 p → g8_gather_91 kg37 n p v1 v2 v3 v4 v7 v8 v9 → ZJ 0 123 91 [zR 8 1, zR 10 v1, zI v2, zI v3, zI v4, zR 20 1, zC 40, zI v7, zR 10 v8, zI v9, d10, d11] [] p (hwI (v8_gather_91 kv37 n p v1 v2 v3 v4 v7 v8 v9)) := by
  intro n
  induction n with
  | zero =>
    intro p v1 v2 v3 v4 v7 v8 v9 d10 d11 hg H
    exact H.elim
  | succ n ih => exact r8_gather_91 v10_standsIn g10_standsIn ok142 kv37 kg37 hk37 (v8_gather_91 kv37 n) (g8_gather_91 kg37 n) ih
set_option maxRecDepth 100000 in
theorem r8_gather_37 (F142 : PM → Nat → Nat → Int32 → Int32) (G142 : PM → Nat → Nat → Int32 → Prop) (o142 : CalOK 0 (CC142 F142 G142)) (kv37 : PM → Nat → Int32 → Int32 → Int32 → Int32 → Int32 × PM) (kg37 : PM → Nat → Int32 → Int32 → Int32 → Int32 → Prop) (hk37 : ∀ (p : PM) (v1 : Nat) (v2 : Int32) (v3 : Int32) (v4 : Int32) (v7 : Int32) (d8 d9 d10 d11 : ZV), Gr 0 p → kg37 p v1 v2 v3 v4 v7 → ZJ 0 123 37 [zR 8 1, zR 10 v1, zI v2, zI v3, zI v4, zR 20 1, zC 40, zI v7, d8, d9, d10, d11] [] p (hwI (kv37 p v1 v2 v3 v4 v7))) (kv91 : PM → Nat → Int32 → Int32 → Int32 → Int32 → Nat → Int32 → Int32 × PM) (kg91 : PM → Nat → Int32 → Int32 → Int32 → Int32 → Nat → Int32 → Prop) (hk91 : ∀ (p : PM) (v1 : Nat) (v2 : Int32) (v3 : Int32) (v4 : Int32) (v7 : Int32) (v8 : Nat) (v9 : Int32) (d10 d11 : ZV), Gr 0 p → kg91 p v1 v2 v3 v4 v7 v8 v9 → ZJ 0 123 91 [zR 8 1, zR 10 v1, zI v2, zI v3, zI v4, zR 20 1, zC 40, zI v7, zR 10 v8, zI v9, d10, d11] [] p (hwI (kv91 p v1 v2 v3 v4 v7 v8 v9))) : ∀ (p : PM) (v1 : Nat) (v2 : Int32) (v3 : Int32) (v4 : Int32) (v7 : Int32) (d8 d9 d10 d11 : ZV), Gr 0 p → bg8_gather_37 F142 G142 kg37 kg91 p v1 v2 v3 v4 v7 → ZJ 0 123 37 [zR 8 1, zR 10 v1, zI v2, zI v3, zI v4, zR 20 1, zC 40, zI v7, d8, d9, d10, d11] [] p (hwI (bv8_gather_37 F142 kv37 kv91 p v1 v2 v3 v4 v7)) := by
  intro p v1 v2 v3 v4 v7 d8 d9 d10 d11 hg H
  exact rwI (n := 3000) (q := 37) (la := [zR 8 1, zR 10 v1, zI v2, zI v3, zI v4, zR 20 1, zC 40, zI v7, d8, d9, d10, d11]) (sa := []) (ks := [fun la sa s => kv37 s (ar la 1) (ai la 2) (ai la 3) (ai la 4) (ai la 7), fun la sa s => kv91 s (ar la 1) (ai la 2) (ai la 3) (ai la 4) (ai la 7) (ar la 8) (ai la 9)]) (gs := [fun la sa s => zsw (tc2 la [(108, 1), (14, 0), (0, 0), (0, 0), (0, 0), (120, 1), (3, 40), (0, 0), (2, 0), (2, 0), (2, 0), (2, 0)] && tc2 sa []) False (kg37 s (ar la 1) (ai la 2) (ai la 3) (ai la 4) (ai la 7)), fun la sa s => zsw (tc2 la [(108, 1), (14, 0), (0, 0), (0, 0), (0, 0), (120, 1), (3, 40), (0, 0), (14, 0), (0, 0), (2, 0), (2, 0)] && tc2 sa []) False (kg91 s (ar la 1) (ai la 2) (ai la 3) (ai la 4) (ai la 7) (ar la 8) (ai la 9))]) (fcons o142 (fnil)) tab123 pc123 ⟨fun la sa s hg H => zcut H fun H => hk37 s (ar la 1) (ai la 2) (ai la 3) (ai la 4) (ai la 7) (zld la 8) (zld la 9) (zld la 10) (zld la 11) hg H, fun la sa s hg H => zcut H fun H => hk91 s (ar la 1) (ai la 2) (ai la 3) (ai la 4) (ai la 7) (ar la 8) (ai la 9) (zld la 10) (zld la 11) hg H, trivial⟩ hg H
theorem t8_gather_37 : ∀ (n : Nat), ∀ (p : PM) (v1 : Nat) (v2 : Int32) (v3 : Int32) (v4 : Int32) (v7 : Int32) (d8 d9 d10 d11 : ZV), Gr 0 p → g8_gather_37 n p v1 v2 v3 v4 v7 → ZJ 0 123 37 [zR 8 1, zR 10 v1, zI v2, zI v3, zI v4, zR 20 1, zC 40, zI v7, d8, d9, d10, d11] [] p (hwI (v8_gather_37 n p v1 v2 v3 v4 v7)) := by
  intro n
  induction n with
  | zero =>
    intro p v1 v2 v3 v4 v7 d8 d9 d10 d11 hg H
    exact H.elim
  | succ n ih => exact r8_gather_37 v10_standsIn g10_standsIn ok142 (v8_gather_37 n) (g8_gather_37 n) ih (v8_gather_91 (v8_gather_37 n) FU) (g8_gather_91 (g8_gather_37 n) FU) (t8_gather_91 (v8_gather_37 n) (g8_gather_37 n) ih FU)
set_option maxRecDepth 100000 in
theorem r8_gather (F142 : PM → Nat → Nat → Int32 → Int32) (G142 : PM → Nat → Nat → Int32 → Prop) (o142 : CalOK 0 (CC142 F142 G142)) (kv37 : PM → Nat → Int32 → Int32 → Int32 → Int32 → Int32 × PM) (kg37 : PM → Nat → Int32 → Int32 → Int32 → Int32 → Prop) (hk37 : ∀ (p : PM) (v1 : Nat) (v2 : Int32) (v3 : Int32) (v4 : Int32) (v7 : Int32) (d8 d9 d10 d11 : ZV), Gr 0 p → kg37 p v1 v2 v3 v4 v7 → ZJ 0 123 37 [zR 8 1, zR 10 v1, zI v2, zI v3, zI v4, zR 20 1, zC 40, zI v7, d8, d9, d10, d11] [] p (hwI (kv37 p v1 v2 v3 v4 v7))) : ∀ (p : PM) (v1 : Nat) (v2 : Int32), Gr 0 p → bg8_gather kg37 p v1 v2 → ZJ 0 123 0 [zR 8 1, zR 10 v1, zI v2, zJ, zJ, zJ, zJ, zJ, zJ, zJ, zJ, zJ] [] p (hwI (bv8_gather kv37 p v1 v2)) := by
  intro p v1 v2  hg H
  exact rwI (n := 3000) (q := 0) (la := [zR 8 1, zR 10 v1, zI v2, zJ, zJ, zJ, zJ, zJ, zJ, zJ, zJ, zJ]) (sa := []) (ks := [fun la sa s => kv37 s (ar la 1) (ai la 2) (ai la 3) (ai la 4) (ai la 7), fun _ _ s => (0, s)]) (gs := [fun la sa s => zsw (tc2 la [(108, 1), (14, 0), (0, 0), (0, 0), (0, 0), (120, 1), (3, 40), (0, 0), (2, 0), (2, 0), (2, 0), (2, 0)] && tc2 sa []) False (kg37 s (ar la 1) (ai la 2) (ai la 3) (ai la 4) (ai la 7)), fun _ _ _ => False]) (fcons o142 (fnil)) tab123 pc123 ⟨fun la sa s hg H => zcut H fun H => hk37 s (ar la 1) (ai la 2) (ai la 3) (ai la 4) (ai la 7) (zld la 8) (zld la 9) (zld la 10) (zld la 11) hg H, fun _ _ _ _ H => H.elim, trivial⟩ hg H
theorem t8_gather : ∀ (p : PM) (v1 : Nat) (v2 : Int32), Gr 0 p → g8_gather p v1 v2 → ZJ 0 123 0 [zR 8 1, zR 10 v1, zI v2, zJ, zJ, zJ, zJ, zJ, zJ, zJ, zJ, zJ] [] p (hwI (v8_gather p v1 v2)) := r8_gather v10_standsIn g10_standsIn ok142 (v8_gather_37 FU) (g8_gather_37 FU) (t8_gather_37 FU)
def CC123 (F : PM → Nat → Int32 → Int32 × PM) (G : PM → Nat → Int32 → Prop) : Cal := (123, [11, 13, 0], 1, false, fun as p => (zI (F p (ar as 1) (ai as 2)).1, (F p (ar as 1) (ai as 2)).2), fun as p => zsw (tc2 as [(108, 1), (14, 0), (0, 0)]) False (G p (ar as 1) (ai as 2)))
set_option maxRecDepth 100000 in
theorem okr123 (F : PM → Nat → Int32 → Int32 × PM) (G : PM → Nat → Int32 → Prop) (h : ∀ (p : PM) (v1 : Nat) (v2 : Int32), Gr 0 p → G p v1 v2 → ZJ 0 123 0 [zR 8 1, zR 10 v1, zI v2, zJ, zJ, zJ, zJ, zJ, zJ, zJ, zJ, zJ] [] p (hwI (F p v1 v2))) : CalOK 0 (CC123 F G) := cal_ok (m := 12) (by unfold mL; rw [mX_123]) (fun as p hg H => h p (ar as 1) (ai as 2) hg H)
theorem ok123 : CalOK 0 (CC123 v8_gather g8_gather) := okr123 v8_gather g8_gather t8_gather
noncomputable def bv8_meetsOwn_5 (kv5 : PM → Nat → Int32 → Int32 → Int32 → Int32 × PM) (p : PM) (v1 : Nat) (v2 : Int32) (v3 : Int32) (v4 : Int32) : Int32 × PM :=
  if v4 < v2 then (
    if v4 < (cn 40) then (
      let x1 : Nat := (p.2.2 20 2 (v4).toNatClampNeg)
      if (p.1 0 (p.2.2 10 x1 3) 1) = (p.1 0 (p.2.2 10 v1 3) 1) then (
        if (p.1 1 (p.2.2 10 v1 4) 11) = (cn 2) then (
          let p2 : PM := pI p 10 x1 2 (cn 0)
          kv5 p2 v1 v2 (cn 1) (v4 + (cn 1)))
        else (
          kv5 p v1 v2 (cn 1) (v4 + (cn 1))))
      else (
        kv5 p v1 v2 v3 (v4 + (cn 1))))
    else (
      (v3, p)))
  else (
    (v3, p))
noncomputable def v8_meetsOwn_5 (n : Nat) : PM → Nat → Int32 → Int32 → Int32 → Int32 × PM := Nat.rec (motive := fun _ => PM → Nat → Int32 → Int32 → Int32 → Int32 × PM) (fun p _ _ _ _ => (0, p)) (fun _ ih => bv8_meetsOwn_5 ih) n
theorem ev8_meetsOwn_5 (n : Nat) (p : PM) (v1 : Nat) (v2 : Int32) (v3 : Int32) (v4 : Int32) : v8_meetsOwn_5 (n + 1) p v1 v2 v3 v4 = bv8_meetsOwn_5 (v8_meetsOwn_5 n) p v1 v2 v3 v4 := rfl
noncomputable def bg8_meetsOwn_5 (kg5 : PM → Nat → Int32 → Int32 → Int32 → Prop) (p : PM) (v1 : Nat) (v2 : Int32) (v3 : Int32) (v4 : Int32) : Prop :=
  if v4 < v2 then (
    if v4 < (cn 40) then (
      (inb v4 40) ∧ (
      let x1 : Nat := (p.2.2 20 2 (v4).toNatClampNeg)
      (¬ x1 = 0) ∧ (
      (¬ (p.2.2 10 x1 3) = 0) ∧ (
      (¬ v1 = 0) ∧ (
      (¬ (p.2.2 10 v1 3) = 0) ∧ (
      if (p.1 0 (p.2.2 10 x1 3) 1) = (p.1 0 (p.2.2 10 v1 3) 1) then (
        (¬ v1 = 0) ∧ (
        (¬ (p.2.2 10 v1 4) = 0) ∧ (
        if (p.1 1 (p.2.2 10 v1 4) 11) = (cn 2) then (
          (¬ x1 = 0) ∧ (
          let p2 : PM := pI p 10 x1 2 (cn 0)
          kg5 p2 v1 v2 (cn 1) (v4 + (cn 1))))
        else (
          kg5 p v1 v2 (cn 1) (v4 + (cn 1))))))
      else (
        kg5 p v1 v2 v3 (v4 + (cn 1)))))))))
    else (
      (b01 v3) ∧ (
      True)))
  else (
    (b01 v3) ∧ (
    True))
noncomputable def g8_meetsOwn_5 (n : Nat) : PM → Nat → Int32 → Int32 → Int32 → Prop := Nat.rec (motive := fun _ => PM → Nat → Int32 → Int32 → Int32 → Prop) (fun _ _ _ _ _ => False) (fun _ ih => bg8_meetsOwn_5 ih) n
theorem eg8_meetsOwn_5 (n : Nat) (p : PM) (v1 : Nat) (v2 : Int32) (v3 : Int32) (v4 : Int32) : g8_meetsOwn_5 (n + 1) p v1 v2 v3 v4 = bg8_meetsOwn_5 (g8_meetsOwn_5 n) p v1 v2 v3 v4 := rfl
noncomputable def bv8_meetsOwn (kv5 : PM → Nat → Int32 → Int32 → Int32 → Int32 × PM) (p : PM) (v1 : Nat) (v2 : Int32) : Int32 × PM :=
  kv5 p v1 v2 (cn 0) (cn 0)
noncomputable def v8_meetsOwn (p : PM) (v1 : Nat) (v2 : Int32) : Int32 × PM := bv8_meetsOwn (v8_meetsOwn_5 FU) p v1 v2
noncomputable def bg8_meetsOwn (kg5 : PM → Nat → Int32 → Int32 → Int32 → Prop) (p : PM) (v1 : Nat) (v2 : Int32) : Prop :=
  kg5 p v1 v2 (cn 0) (cn 0)
noncomputable def g8_meetsOwn (p : PM) (v1 : Nat) (v2 : Int32) : Prop := bg8_meetsOwn (g8_meetsOwn_5 FU) p v1 v2
def R124 : List Row := [(0, .iconst 0, 1, 0, (0, 0, 0, 0, 0, 0)), (1, .istore_n 3, 1, 0, (0, 0, 0, 0, 0, 0)), (2, .iconst 0, 1, 0, (0, 0, 0, 0, 0, 0)), (3, .istore 4, 2, 0, (0, 0, 0, 0, 0, 0)), (5, .iload 4, 2, 1, (0, 0, 0, 0, 0, 0)), (7, .iload_n 2, 1, 0, (0, 0, 0, 0, 0, 0)), (8, .if_icmp .ge 65, 3, 0, (0, 0, 0, 0, 0, 0)), (11, .iload 4, 2, 0, (0, 0, 0, 0, 0, 0)), (13, .aload_n 0, 1, 0, (0, 0, 0, 0, 0, 0)), (14, .getfield 11, 3, 0, (8, 2, 23, 2, 2, 0)), (17, .arraylength, 1, 0, (20, 40, 0, 0, 0, 40)), (18, .if_icmp .ge 55, 3, 0, (0, 0, 0, 0, 0, 0)), (21, .aload_n 0, 1, 0, (0, 0, 0, 0, 0, 0)), (22, .getfield 11, 3, 0, (8, 2, 23, 2, 2, 0)), (25, .iload 4, 2, 0, (0, 0, 0, 0, 0, 0)), (27, .aaload, 1, 0, (20, 40, 0, 0, 0, 0)), (28, .astore 5, 2, 0, (0, 0, 0, 0, 0, 0)), (30, .aload 5, 2, 0, (0, 0, 0, 0, 0, 0)), (32, .getfield 46, 3, 0, (10, 3, 3, 0, 0, 0)), (35, .getfield 50, 3, 0, (0, 1, 0, 0, 0, 0)), (38, .aload_n 1, 1, 0, (0, 0, 0, 0, 0, 0)), (39, .getfield 46, 3, 0, (10, 3, 3, 0, 0, 0)), (42, .getfield 50, 3, 0, (0, 1, 0, 0, 0, 0)), (45, .if_icmp .ne 22, 3, 0, (0, 0, 0, 0, 0, 0)), (48, .iconst 1, 1, 0, (0, 0, 0, 0, 0, 1)), (49, .istore_n 3, 1, 0, (0, 0, 0, 0, 0, 0)), (50, .aload_n 1, 1, 0, (0, 0, 0, 0, 0, 0)), (51, .getfield 34, 3, 0, (10, 4, 4, 0, 0, 0)), (54, .getfield 88, 3, 0, (1, 11, 0, 0, 0, 0)), (57, .iconst 2, 1, 0, (0, 0, 0, 0, 0, 2)), (58, .if_icmp .ne 9, 3, 0, (0, 0, 0, 0, 0, 0)), (61, .aload 5, 2, 0, (0, 0, 0, 0, 0, 0)), (63, .iconst 0, 1, 0, (0, 0, 0, 0, 0, 0)), (64, .putfield 72, 3, 0, (10, 2, 0, 0, 0, 0)), (67, .iinc 4 1, 3, 0, (0, 0, 0, 0, 0, 1)), (70, .goto (-65), 3, 0, (0, 0, 0, 0, 0, 0)), (73, .iload_n 3, 1, 0, (0, 0, 0, 0, 0, 0)), (74, .ireturn, 1, 0, (1, 0, 0, 0, 0, 0))]
set_option maxRecDepth 100000 in
theorem rk124 : R124.all (rok 0 124 1 []) = true := by decide +kernel
set_option maxRecDepth 100000 in
theorem tab124 : TabOK 0 124 1 [] R124 := tab_ok (K := K124) rfl rfl (fun h => d124 h) rk124 (by decide +kernel)
set_option maxRecDepth 100000 in
theorem pc124 : cutpc [5] R124 = true := by decide +kernel
set_option maxRecDepth 100000 in
theorem r8_meetsOwn_5 (kv5 : PM → Nat → Int32 → Int32 → Int32 → Int32 × PM) (kg5 : PM → Nat → Int32 → Int32 → Int32 → Prop) (hk5 : ∀ (p : PM) (v1 : Nat) (v2 : Int32) (v3 : Int32) (v4 : Int32) (d5 : ZV), Gr 0 p → kg5 p v1 v2 v3 v4 → ZJ 0 124 5 [zR 8 1, zR 10 v1, zI v2, zI v3, zI v4, d5] [] p (hwI (kv5 p v1 v2 v3 v4))) : ∀ (p : PM) (v1 : Nat) (v2 : Int32) (v3 : Int32) (v4 : Int32) (d5 : ZV), Gr 0 p → bg8_meetsOwn_5 kg5 p v1 v2 v3 v4 → ZJ 0 124 5 [zR 8 1, zR 10 v1, zI v2, zI v3, zI v4, d5] [] p (hwI (bv8_meetsOwn_5 kv5 p v1 v2 v3 v4)) := by
  intro p v1 v2 v3 v4 d5 hg H
  exact rwI (n := 3000) (q := 5) (la := [zR 8 1, zR 10 v1, zI v2, zI v3, zI v4, d5]) (sa := []) (ks := [fun la sa s => kv5 s (ar la 1) (ai la 2) (ai la 3) (ai la 4)]) (gs := [fun la sa s => zsw (tc2 la [(108, 1), (14, 0), (0, 0), (0, 0), (0, 0), (2, 0)] && tc2 sa []) False (kg5 s (ar la 1) (ai la 2) (ai la 3) (ai la 4))]) (fnil) tab124 pc124 ⟨fun la sa s hg H => zcut H fun H => hk5 s (ar la 1) (ai la 2) (ai la 3) (ai la 4) (zld la 5) hg H, trivial⟩ hg H
theorem t8_meetsOwn_5 : ∀ (n : Nat), ∀ (p : PM) (v1 : Nat) (v2 : Int32) (v3 : Int32) (v4 : Int32) (d5 : ZV), Gr 0 p → g8_meetsOwn_5 n p v1 v2 v3 v4 → ZJ 0 124 5 [zR 8 1, zR 10 v1, zI v2, zI v3, zI v4, d5] [] p (hwI (v8_meetsOwn_5 n p v1 v2 v3 v4)) := by
  intro n
  induction n with
  | zero =>
    intro p v1 v2 v3 v4 d5 hg H
    exact H.elim
  | succ n ih => exact r8_meetsOwn_5 (v8_meetsOwn_5 n) (g8_meetsOwn_5 n) ih
set_option maxRecDepth 100000 in
theorem r8_meetsOwn (kv5 : PM → Nat → Int32 → Int32 → Int32 → Int32 × PM) (kg5 : PM → Nat → Int32 → Int32 → Int32 → Prop) (hk5 : ∀ (p : PM) (v1 : Nat) (v2 : Int32) (v3 : Int32) (v4 : Int32) (d5 : ZV), Gr 0 p → kg5 p v1 v2 v3 v4 → ZJ 0 124 5 [zR 8 1, zR 10 v1, zI v2, zI v3, zI v4, d5] [] p (hwI (kv5 p v1 v2 v3 v4))) : ∀ (p : PM) (v1 : Nat) (v2 : Int32), Gr 0 p → bg8_meetsOwn kg5 p v1 v2 → ZJ 0 124 0 [zR 8 1, zR 10 v1, zI v2, zJ, zJ, zJ] [] p (hwI (bv8_meetsOwn kv5 p v1 v2)) := by
  intro p v1 v2  hg H
  exact rwI (n := 3000) (q := 0) (la := [zR 8 1, zR 10 v1, zI v2, zJ, zJ, zJ]) (sa := []) (ks := [fun la sa s => kv5 s (ar la 1) (ai la 2) (ai la 3) (ai la 4)]) (gs := [fun la sa s => zsw (tc2 la [(108, 1), (14, 0), (0, 0), (0, 0), (0, 0), (2, 0)] && tc2 sa []) False (kg5 s (ar la 1) (ai la 2) (ai la 3) (ai la 4))]) (fnil) tab124 pc124 ⟨fun la sa s hg H => zcut H fun H => hk5 s (ar la 1) (ai la 2) (ai la 3) (ai la 4) (zld la 5) hg H, trivial⟩ hg H
theorem t8_meetsOwn : ∀ (p : PM) (v1 : Nat) (v2 : Int32), Gr 0 p → g8_meetsOwn p v1 v2 → ZJ 0 124 0 [zR 8 1, zR 10 v1, zI v2, zJ, zJ, zJ] [] p (hwI (v8_meetsOwn p v1 v2)) := r8_meetsOwn (v8_meetsOwn_5 FU) (g8_meetsOwn_5 FU) (t8_meetsOwn_5 FU)
def CC124 (F : PM → Nat → Int32 → Int32 × PM) (G : PM → Nat → Int32 → Prop) : Cal := (124, [11, 13, 0], 1, false, fun as p => (zI (F p (ar as 1) (ai as 2)).1, (F p (ar as 1) (ai as 2)).2), fun as p => zsw (tc2 as [(108, 1), (14, 0), (0, 0)]) False (G p (ar as 1) (ai as 2)))
set_option maxRecDepth 100000 in
theorem okr124 (F : PM → Nat → Int32 → Int32 × PM) (G : PM → Nat → Int32 → Prop) (h : ∀ (p : PM) (v1 : Nat) (v2 : Int32), Gr 0 p → G p v1 v2 → ZJ 0 124 0 [zR 8 1, zR 10 v1, zI v2, zJ, zJ, zJ] [] p (hwI (F p v1 v2))) : CalOK 0 (CC124 F G) := cal_ok (m := 6) (by unfold mL; rw [mX_124]) (fun as p hg H => h p (ar as 1) (ai as 2) hg H)
theorem ok124 : CalOK 0 (CC124 v8_meetsOwn g8_meetsOwn) := okr124 v8_meetsOwn g8_meetsOwn t8_meetsOwn
noncomputable def bv8_giveTop (F209 : PM → Int32 → Int32 → Int32) (p : PM) (v1 : Int32) (v2 : Int32) (v3 : Int32) : Int32 × PM :=
  if 0 < v3 then (
    let p1 : PM := pI p 13 19 0 (F209 p (F209 p v2 v1) (p.1 10 (p.2.2 20 2 0) 11))
    ((p1.1 13 19 0), p1))
  else (
    ((cn 0), p))
noncomputable def v8_giveTop (p : PM) (v1 : Int32) (v2 : Int32) (v3 : Int32) : Int32 × PM := bv8_giveTop v14_min_7cf53 p v1 v2 v3
noncomputable def bg8_giveTop (F209 : PM → Int32 → Int32 → Int32) (G209 : PM → Int32 → Int32 → Prop) (p : PM) (v1 : Int32) (v2 : Int32) (v3 : Int32) : Prop :=
  if 0 < v3 then (
    (G209 p v2 v1) ∧ (
    (¬ (p.2.2 20 2 0) = 0) ∧ (
    (G209 p (F209 p v2 v1) (p.1 10 (p.2.2 20 2 0) 11)) ∧ (
    let p1 : PM := pI p 13 19 0 (F209 p (F209 p v2 v1) (p.1 10 (p.2.2 20 2 0) 11))
    True))))
  else (
    True)
noncomputable def g8_giveTop (p : PM) (v1 : Int32) (v2 : Int32) (v3 : Int32) : Prop := bg8_giveTop v14_min_7cf53 g14_min_7cf53 p v1 v2 v3
def R126 : List Row := [(0, .iload_n 3, 1, 0, (0, 0, 0, 0, 0, 0)), (1, .ifCond .le 19, 3, 0, (0, 0, 0, 0, 0, 0)), (4, .aload_n 0, 1, 0, (0, 0, 0, 0, 0, 0)), (5, .getfield 17, 3, 0, (8, 3, 16, 2, 19, 0)), (8, .arraylength, 1, 0, (13, 40, 0, 0, 0, 40)), (9, .ifCond .eq 11, 3, 0, (0, 0, 0, 0, 0, 0)), (12, .aload_n 0, 1, 0, (0, 0, 0, 0, 0, 0)), (13, .getfield 11, 3, 0, (8, 2, 23, 2, 2, 0)), (16, .arraylength, 1, 0, (20, 40, 0, 0, 0, 40)), (17, .ifCond .ne 5, 3, 0, (0, 0, 0, 0, 0, 0)), (20, .iconst 0, 1, 0, (0, 0, 0, 0, 0, 0)), (21, .ireturn, 1, 0, (0, 0, 0, 0, 0, 0)), (22, .aload_n 0, 1, 0, (0, 0, 0, 0, 0, 0)), (23, .getfield 17, 3, 0, (8, 3, 16, 2, 19, 0)), (26, .iconst 0, 1, 0, (0, 0, 0, 0, 0, 0)), (27, .iload_n 2, 1, 0, (0, 0, 0, 0, 0, 0)), (28, .iload_n 1, 1, 0, (0, 0, 0, 0, 0, 0)), (29, .invokestatic 128, 3, 0, (0, 2, 0, 0, 0, 0)), (32, .aload_n 0, 1, 0, (0, 0, 0, 0, 0, 0)), (33, .getfield 11, 3, 0, (8, 2, 23, 2, 2, 0)), (36, .iconst 0, 1, 0, (0, 0, 0, 0, 0, 0)), (37, .aaload, 1, 0, (20, 40, 0, 0, 0, 0)), (38, .getfield 122, 3, 0, (10, 11, 0, 0, 0, 0)), (41, .invokestatic 128, 3, 0, (0, 2, 0, 0, 0, 0)), (44, .iastore, 1, 0, (13, 40, 0, 0, 0, 0)), (45, .aload_n 0, 1, 0, (0, 0, 0, 0, 0, 0)), (46, .getfield 17, 3, 0, (8, 3, 16, 2, 19, 0)), (49, .iconst 0, 1, 0, (0, 0, 0, 0, 0, 0)), (50, .iaload, 1, 0, (13, 40, 0, 0, 0, 0)), (51, .ireturn, 1, 0, (0, 0, 0, 0, 0, 0))]
set_option maxRecDepth 100000 in
theorem rk126 : R126.all (rok 0 126 1 [(209, [0, 0])]) = true := by decide +kernel
set_option maxRecDepth 100000 in
theorem tab126 {F209 : PM → Int32 → Int32 → Int32} {G209 : PM → Int32 → Int32 → Prop} : TabOK 0 126 1 [CC209 F209 G209] R126 := tab_ok (K := K126) rfl rfl (fun h => d126 h) rk126 (by decide +kernel)
set_option maxRecDepth 100000 in
theorem pc126 : cutpc [] R126 = true := by decide +kernel
set_option maxRecDepth 100000 in
theorem r8_giveTop (F209 : PM → Int32 → Int32 → Int32) (G209 : PM → Int32 → Int32 → Prop) (o209 : CalOK 0 (CC209 F209 G209)) : ∀ (p : PM) (v1 : Int32) (v2 : Int32) (v3 : Int32), Gr 0 p → bg8_giveTop F209 G209 p v1 v2 v3 → ZJ 0 126 0 [zR 8 1, zI v1, zI v2, zI v3] [] p (hwI (bv8_giveTop F209 p v1 v2 v3)) := by
  intro p v1 v2 v3  hg H
  exact rwI (n := 3000) (q := 0) (la := [zR 8 1, zI v1, zI v2, zI v3]) (sa := []) (ks := []) (gs := []) (fcons o209 (fnil)) tab126 pc126 trivial hg H
theorem t8_giveTop : ∀ (p : PM) (v1 : Int32) (v2 : Int32) (v3 : Int32), Gr 0 p → g8_giveTop p v1 v2 v3 → ZJ 0 126 0 [zR 8 1, zI v1, zI v2, zI v3] [] p (hwI (v8_giveTop p v1 v2 v3)) := r8_giveTop v14_min_7cf53 g14_min_7cf53 ok209
def CC126 (F : PM → Int32 → Int32 → Int32 → Int32 × PM) (G : PM → Int32 → Int32 → Int32 → Prop) : Cal := (126, [11, 0, 0, 0], 1, false, fun as p => (zI (F p (ai as 1) (ai as 2) (ai as 3)).1, (F p (ai as 1) (ai as 2) (ai as 3)).2), fun as p => zsw (tc2 as [(108, 1), (0, 0), (0, 0), (0, 0)]) False (G p (ai as 1) (ai as 2) (ai as 3)))
set_option maxRecDepth 100000 in
theorem okr126 (F : PM → Int32 → Int32 → Int32 → Int32 × PM) (G : PM → Int32 → Int32 → Int32 → Prop) (h : ∀ (p : PM) (v1 : Int32) (v2 : Int32) (v3 : Int32), Gr 0 p → G p v1 v2 v3 → ZJ 0 126 0 [zR 8 1, zI v1, zI v2, zI v3] [] p (hwI (F p v1 v2 v3))) : CalOK 0 (CC126 F G) := cal_ok (m := 4) (by unfold mL; rw [mX_126]) (fun as p hg H => h p (ai as 1) (ai as 2) (ai as 3) hg H)
theorem ok126 : CalOK 0 (CC126 v8_giveTop g8_giveTop) := okr126 v8_giveTop g8_giveTop t8_giveTop
noncomputable def bv8_giveShares_170 (kv155 : PM → Int32 → Int32 → Int32 → PM) (kv170 : PM → Int32 → Int32 → Int32 → Int32 → PM) (p : PM) (v2 : Int32) (v5 : Int32) (v6 : Int32) (v7 : Int32) : PM :=
  if v7 < v2 then (
    if v7 < (cn 40) then (
      if v7 < (cn 40) then (
        if 0 < v5 then (
          if (p.1 13 19 (v7).toNatClampNeg) < (p.1 10 (p.2.2 20 2 (v7).toNatClampNeg) 11) then (
            let p1 : PM := pI p 13 19 (v7).toNatClampNeg ((p.1 13 19 (v7).toNatClampNeg) + (cn 1))
            kv170 p1 v2 (v5 + (cn (-1))) v6 (v7 + (cn 1)))
          else (
            kv170 p v2 v5 v6 (v7 + (cn 1))))
        else (
          kv170 p v2 v5 v6 (v7 + (cn 1))))
      else (
        kv155 p v2 v5 (v6 + (cn 1))))
    else (
      kv155 p v2 v5 (v6 + (cn 1))))
  else (
    kv155 p v2 v5 (v6 + (cn 1)))
noncomputable def v8_giveShares_170 (kv155 : PM → Int32 → Int32 → Int32 → PM) (n : Nat) : PM → Int32 → Int32 → Int32 → Int32 → PM := Nat.rec (motive := fun _ => PM → Int32 → Int32 → Int32 → Int32 → PM) (fun p _ _ _ _ => p) (fun _ ih => bv8_giveShares_170 kv155 ih) n
theorem ev8_giveShares_170 (kv155 : PM → Int32 → Int32 → Int32 → PM) (n : Nat) (p : PM) (v2 : Int32) (v5 : Int32) (v6 : Int32) (v7 : Int32) : v8_giveShares_170 kv155 (n + 1) p v2 v5 v6 v7 = bv8_giveShares_170 kv155 (v8_giveShares_170 kv155 n) p v2 v5 v6 v7 := rfl
noncomputable def bg8_giveShares_170 (kg155 : PM → Int32 → Int32 → Int32 → Prop) (kg170 : PM → Int32 → Int32 → Int32 → Int32 → Prop) (p : PM) (v2 : Int32) (v5 : Int32) (v6 : Int32) (v7 : Int32) : Prop :=
  if v7 < v2 then (
    if v7 < (cn 40) then (
      if v7 < (cn 40) then (
        if 0 < v5 then (
          (inb v7 40) ∧ (
          (inb v7 40) ∧ (
          (¬ (p.2.2 20 2 (v7).toNatClampNeg) = 0) ∧ (
          if (p.1 13 19 (v7).toNatClampNeg) < (p.1 10 (p.2.2 20 2 (v7).toNatClampNeg) 11) then (
            (inb v7 40) ∧ (
            (inb v7 40) ∧ (
            let p1 : PM := pI p 13 19 (v7).toNatClampNeg ((p.1 13 19 (v7).toNatClampNeg) + (cn 1))
            kg170 p1 v2 (v5 + (cn (-1))) v6 (v7 + (cn 1)))))
          else (
            kg170 p v2 v5 v6 (v7 + (cn 1)))))))
        else (
          kg170 p v2 v5 v6 (v7 + (cn 1))))
      else (
        kg155 p v2 v5 (v6 + (cn 1))))
    else (
      kg155 p v2 v5 (v6 + (cn 1))))
  else (
    kg155 p v2 v5 (v6 + (cn 1)))
noncomputable def g8_giveShares_170 (kg155 : PM → Int32 → Int32 → Int32 → Prop) (n : Nat) : PM → Int32 → Int32 → Int32 → Int32 → Prop := Nat.rec (motive := fun _ => PM → Int32 → Int32 → Int32 → Int32 → Prop) (fun _ _ _ _ _ => False) (fun _ ih => bg8_giveShares_170 kg155 ih) n
theorem eg8_giveShares_170 (kg155 : PM → Int32 → Int32 → Int32 → Prop) (n : Nat) (p : PM) (v2 : Int32) (v5 : Int32) (v6 : Int32) (v7 : Int32) : g8_giveShares_170 kg155 (n + 1) p v2 v5 v6 v7 = bg8_giveShares_170 kg155 (g8_giveShares_170 kg155 n) p v2 v5 v6 v7 := rfl
noncomputable def bv8_giveShares_155 (kv170 : PM → Int32 → Int32 → Int32 → Int32 → PM) (p : PM) (v2 : Int32) (v5 : Int32) (v6 : Int32) : PM :=
  if v6 < (cn 50) then (
    if 0 < v5 then (
      kv170 p v2 v5 v6 (cn 0))
    else (
      p))
  else (
    p)
noncomputable def v8_giveShares_155 (n : Nat) : PM → Int32 → Int32 → Int32 → PM := Nat.rec (motive := fun _ => PM → Int32 → Int32 → Int32 → PM) (fun p _ _ _ => p) (fun _ ih => bv8_giveShares_155 (v8_giveShares_170 ih FU)) n
theorem ev8_giveShares_155 (n : Nat) (p : PM) (v2 : Int32) (v5 : Int32) (v6 : Int32) : v8_giveShares_155 (n + 1) p v2 v5 v6 = bv8_giveShares_155 (v8_giveShares_170 (v8_giveShares_155 n) FU) p v2 v5 v6 := rfl
noncomputable def bg8_giveShares_155 (kg170 : PM → Int32 → Int32 → Int32 → Int32 → Prop) (p : PM) (v2 : Int32) (v5 : Int32) (v6 : Int32) : Prop :=
  if v6 < (cn 50) then (
    if 0 < v5 then (
      kg170 p v2 v5 v6 (cn 0))
    else (
      True))
  else (
    True)
noncomputable def g8_giveShares_155 (n : Nat) : PM → Int32 → Int32 → Int32 → Prop := Nat.rec (motive := fun _ => PM → Int32 → Int32 → Int32 → Prop) (fun _ _ _ _ => False) (fun _ ih => bg8_giveShares_155 (g8_giveShares_170 ih FU)) n
theorem eg8_giveShares_155 (n : Nat) (p : PM) (v2 : Int32) (v5 : Int32) (v6 : Int32) : g8_giveShares_155 (n + 1) p v2 v5 v6 = bg8_giveShares_155 (g8_giveShares_170 (g8_giveShares_155 n) FU) p v2 v5 v6 := rfl
noncomputable def bv8_giveShares_72 (kv72 : PM → Int32 → Int32 → Int32 → Int32 → Int32 → PM) (kv155 : PM → Int32 → Int32 → Int32 → PM) (p : PM) (v2 : Int32) (v3 : Int32) (v4 : Int32) (v5 : Int32) (v6 : Int32) : PM :=
  if v6 < v2 then (
    if v6 < (cn 40) then (
      if v6 < (cn 40) then (
        if 0 < v3 then (
          let x1 : Int32 := ((v4 * ((p.1 10 (p.2.2 20 2 (v6).toNatClampNeg) 11) - (p.1 13 19 (v6).toNatClampNeg))) / v3)
          let p2 : PM := pI p 13 19 (v6).toNatClampNeg ((p.1 13 19 (v6).toNatClampNeg) + x1)
          kv72 p2 v2 v3 v4 (v5 - x1) (v6 + (cn 1)))
        else (
          kv155 p v2 v5 (cn 0)))
      else (
        kv155 p v2 v5 (cn 0)))
    else (
      kv155 p v2 v5 (cn 0)))
  else (
    kv155 p v2 v5 (cn 0))
noncomputable def v8_giveShares_72 (n : Nat) : PM → Int32 → Int32 → Int32 → Int32 → Int32 → PM := Nat.rec (motive := fun _ => PM → Int32 → Int32 → Int32 → Int32 → Int32 → PM) (fun p _ _ _ _ _ => p) (fun _ ih => bv8_giveShares_72 ih (v8_giveShares_155 FU)) n
theorem ev8_giveShares_72 (n : Nat) (p : PM) (v2 : Int32) (v3 : Int32) (v4 : Int32) (v5 : Int32) (v6 : Int32) : v8_giveShares_72 (n + 1) p v2 v3 v4 v5 v6 = bv8_giveShares_72 (v8_giveShares_72 n) (v8_giveShares_155 FU) p v2 v3 v4 v5 v6 := rfl
noncomputable def bg8_giveShares_72 (kg72 : PM → Int32 → Int32 → Int32 → Int32 → Int32 → Prop) (kg155 : PM → Int32 → Int32 → Int32 → Prop) (p : PM) (v2 : Int32) (v3 : Int32) (v4 : Int32) (v5 : Int32) (v6 : Int32) : Prop :=
  if v6 < v2 then (
    if v6 < (cn 40) then (
      if v6 < (cn 40) then (
        if 0 < v3 then (
          (inb v6 40) ∧ (
          (¬ (p.2.2 20 2 (v6).toNatClampNeg) = 0) ∧ (
          (inb v6 40) ∧ (
          (¬ v3 = 0) ∧ (
          let x1 : Int32 := ((v4 * ((p.1 10 (p.2.2 20 2 (v6).toNatClampNeg) 11) - (p.1 13 19 (v6).toNatClampNeg))) / v3)
          (inb v6 40) ∧ (
          (inb v6 40) ∧ (
          let p2 : PM := pI p 13 19 (v6).toNatClampNeg ((p.1 13 19 (v6).toNatClampNeg) + x1)
          kg72 p2 v2 v3 v4 (v5 - x1) (v6 + (cn 1)))))))))
        else (
          kg155 p v2 v5 (cn 0)))
      else (
        kg155 p v2 v5 (cn 0)))
    else (
      kg155 p v2 v5 (cn 0)))
  else (
    kg155 p v2 v5 (cn 0))
noncomputable def g8_giveShares_72 (n : Nat) : PM → Int32 → Int32 → Int32 → Int32 → Int32 → Prop := Nat.rec (motive := fun _ => PM → Int32 → Int32 → Int32 → Int32 → Int32 → Prop) (fun _ _ _ _ _ _ => False) (fun _ ih => bg8_giveShares_72 ih (g8_giveShares_155 FU)) n
theorem eg8_giveShares_72 (n : Nat) (p : PM) (v2 : Int32) (v3 : Int32) (v4 : Int32) (v5 : Int32) (v6 : Int32) : g8_giveShares_72 (n + 1) p v2 v3 v4 v5 v6 = bg8_giveShares_72 (g8_giveShares_72 n) (g8_giveShares_155 FU) p v2 v3 v4 v5 v6 := rfl
noncomputable def bv8_giveShares_5 (F209 : PM → Int32 → Int32 → Int32) (kv5 : PM → Int32 → Int32 → Int32 → Int32 → PM) (kv72 : PM → Int32 → Int32 → Int32 → Int32 → Int32 → PM) (p : PM) (v1 : Int32) (v2 : Int32) (v3 : Int32) (v4 : Int32) : PM :=
  if v4 < v2 then (
    if v4 < (cn 40) then (
      if v4 < (cn 40) then (
        let x1 : Int32 := (v3 + ((p.1 10 (p.2.2 20 2 (v4).toNatClampNeg) 11) - (p.1 13 19 (v4).toNatClampNeg)))
        kv5 p v1 v2 x1 (v4 + (cn 1)))
      else (
        kv72 p v2 v3 (F209 p v1 v3) (F209 p v1 v3) (cn 0)))
    else (
      kv72 p v2 v3 (F209 p v1 v3) (F209 p v1 v3) (cn 0)))
  else (
    kv72 p v2 v3 (F209 p v1 v3) (F209 p v1 v3) (cn 0))
noncomputable def v8_giveShares_5 (n : Nat) : PM → Int32 → Int32 → Int32 → Int32 → PM := Nat.rec (motive := fun _ => PM → Int32 → Int32 → Int32 → Int32 → PM) (fun p _ _ _ _ => p) (fun _ ih => bv8_giveShares_5 v14_min_7cf53 ih (v8_giveShares_72 FU)) n
theorem ev8_giveShares_5 (n : Nat) (p : PM) (v1 : Int32) (v2 : Int32) (v3 : Int32) (v4 : Int32) : v8_giveShares_5 (n + 1) p v1 v2 v3 v4 = bv8_giveShares_5 v14_min_7cf53 (v8_giveShares_5 n) (v8_giveShares_72 FU) p v1 v2 v3 v4 := rfl
noncomputable def bg8_giveShares_5 (F209 : PM → Int32 → Int32 → Int32) (G209 : PM → Int32 → Int32 → Prop) (kg5 : PM → Int32 → Int32 → Int32 → Int32 → Prop) (kg72 : PM → Int32 → Int32 → Int32 → Int32 → Int32 → Prop) (p : PM) (v1 : Int32) (v2 : Int32) (v3 : Int32) (v4 : Int32) : Prop :=
  if v4 < v2 then (
    if v4 < (cn 40) then (
      if v4 < (cn 40) then (
        (inb v4 40) ∧ (
        (¬ (p.2.2 20 2 (v4).toNatClampNeg) = 0) ∧ (
        (inb v4 40) ∧ (
        let x1 : Int32 := (v3 + ((p.1 10 (p.2.2 20 2 (v4).toNatClampNeg) 11) - (p.1 13 19 (v4).toNatClampNeg)))
        kg5 p v1 v2 x1 (v4 + (cn 1))))))
      else (
        (G209 p v1 v3) ∧ (
        kg72 p v2 v3 (F209 p v1 v3) (F209 p v1 v3) (cn 0))))
    else (
      (G209 p v1 v3) ∧ (
      kg72 p v2 v3 (F209 p v1 v3) (F209 p v1 v3) (cn 0))))
  else (
    (G209 p v1 v3) ∧ (
    kg72 p v2 v3 (F209 p v1 v3) (F209 p v1 v3) (cn 0)))
noncomputable def g8_giveShares_5 (n : Nat) : PM → Int32 → Int32 → Int32 → Int32 → Prop := Nat.rec (motive := fun _ => PM → Int32 → Int32 → Int32 → Int32 → Prop) (fun _ _ _ _ _ => False) (fun _ ih => bg8_giveShares_5 v14_min_7cf53 g14_min_7cf53 ih (g8_giveShares_72 FU)) n
theorem eg8_giveShares_5 (n : Nat) (p : PM) (v1 : Int32) (v2 : Int32) (v3 : Int32) (v4 : Int32) : g8_giveShares_5 (n + 1) p v1 v2 v3 v4 = bg8_giveShares_5 v14_min_7cf53 g14_min_7cf53 (g8_giveShares_5 n) (g8_giveShares_72 FU) p v1 v2 v3 v4 := rfl
noncomputable def bv8_giveShares (kv5 : PM → Int32 → Int32 → Int32 → Int32 → PM) (p : PM) (v1 : Int32) (v2 : Int32) : PM :=
  kv5 p v1 v2 (cn 0) (cn 0)
noncomputable def v8_giveShares (p : PM) (v1 : Int32) (v2 : Int32) : PM := bv8_giveShares (v8_giveShares_5 FU) p v1 v2
noncomputable def bg8_giveShares (kg5 : PM → Int32 → Int32 → Int32 → Int32 → Prop) (p : PM) (v1 : Int32) (v2 : Int32) : Prop :=
  kg5 p v1 v2 (cn 0) (cn 0)
noncomputable def g8_giveShares (p : PM) (v1 : Int32) (v2 : Int32) : Prop := bg8_giveShares (g8_giveShares_5 FU) p v1 v2
def R127 : List Row := [(0, .iconst 0, 1, 0, (0, 0, 0, 0, 0, 0)), (1, .istore_n 3, 1, 0, (0, 0, 0, 0, 0, 0)), (2, .iconst 0, 1, 0, (0, 0, 0, 0, 0, 0)), (3, .istore 4, 2, 0, (0, 0, 0, 0, 0, 0)), (5, .iload 4, 2, 1, (0, 0, 0, 0, 0, 0)), (7, .iload_n 2, 1, 0, (0, 0, 0, 0, 0, 0)), (8, .if_icmp .ge 50, 3, 0, (0, 0, 0, 0, 0, 0)), (11, .iload 4, 2, 0, (0, 0, 0, 0, 0, 0)), (13, .aload_n 0, 1, 0, (0, 0, 0, 0, 0, 0)), (14, .getfield 17, 3, 0, (8, 3, 16, 2, 19, 0)), (17, .arraylength, 1, 0, (13, 40, 0, 0, 0, 40)), (18, .if_icmp .ge 40, 3, 0, (0, 0, 0, 0, 0, 0)), (21, .iload 4, 2, 0, (0, 0, 0, 0, 0, 0)), (23, .aload_n 0, 1, 0, (0, 0, 0, 0, 0, 0)), (24, .getfield 11, 3, 0, (8, 2, 23, 2, 2, 0)), (27, .arraylength, 1, 0, (20, 40, 0, 0, 0, 40)), (28, .if_icmp .ge 30, 3, 0, (0, 0, 0, 0, 0, 0)), (31, .iload_n 3, 1, 0, (0, 0, 0, 0, 0, 0)), (32, .aload_n 0, 1, 0, (0, 0, 0, 0, 0, 0)), (33, .getfield 11, 3, 0, (8, 2, 23, 2, 2, 0)), (36, .iload 4, 2, 0, (0, 0, 0, 0, 0, 0)), (38, .aaload, 1, 0, (20, 40, 0, 0, 0, 0)), (39, .getfield 122, 3, 0, (10, 11, 0, 0, 0, 0)), (42, .aload_n 0, 1, 0, (0, 0, 0, 0, 0, 0)), (43, .getfield 17, 3, 0, (8, 3, 16, 2, 19, 0)), (46, .iload 4, 2, 0, (0, 0, 0, 0, 0, 0)), (48, .iaload, 1, 0, (13, 40, 0, 0, 0, 0)), (49, .isub, 1, 0, (0, 0, 0, 0, 0, 0)), (50, .iadd, 1, 0, (0, 0, 0, 0, 0, 0)), (51, .istore_n 3, 1, 0, (0, 0, 0, 0, 0, 0)), (52, .iinc 4 1, 3, 0, (0, 0, 0, 0, 0, 1)), (55, .goto (-50), 3, 0, (0, 0, 0, 0, 0, 0)), (58, .iload_n 1, 1, 0, (0, 0, 0, 0, 0, 0)), (59, .iload_n 3, 1, 0, (0, 0, 0, 0, 0, 0)), (60, .invokestatic 128, 3, 0, (0, 2, 0, 0, 0, 0)), (63, .istore 4, 2, 0, (0, 0, 0, 0, 0, 0)), (65, .iload 4, 2, 0, (0, 0, 0, 0, 0, 0)), (67, .istore 5, 2, 0, (0, 0, 0, 0, 0, 0)), (69, .iconst 0, 1, 0, (0, 0, 0, 0, 0, 0)), (70, .istore 6, 2, 0, (0, 0, 0, 0, 0, 0)), (72, .iload 6, 2, 2, (0, 0, 0, 0, 0, 0)), (74, .iload_n 2, 1, 0, (0, 0, 0, 0, 0, 0)), (75, .if_icmp .ge 77, 3, 0, (0, 0, 0, 0, 0, 0)), (78, .iload 6, 2, 0, (0, 0, 0, 0, 0, 0)), (80, .aload_n 0, 1, 0, (0, 0, 0, 0, 0, 0)), (81, .getfield 17, 3, 0, (8, 3, 16, 2, 19, 0)), (84, .arraylength, 1, 0, (13, 40, 0, 0, 0, 40)), (85, .if_icmp .ge 67, 3, 0, (0, 0, 0, 0, 0, 0)), (88, .iload 6, 2, 0, (0, 0, 0, 0, 0, 0)), (90, .aload_n 0, 1, 0, (0, 0, 0, 0, 0, 0)), (91, .getfield 11, 3, 0, (8, 2, 23, 2, 2, 0)), (94, .arraylength, 1, 0, (20, 40, 0, 0, 0, 40)), (95, .if_icmp .ge 57, 3, 0, (0, 0, 0, 0, 0, 0)), (98, .iload_n 3, 1, 0, (0, 0, 0, 0, 0, 0)), (99, .ifCond .le 53, 3, 0, (0, 0, 0, 0, 0, 0)), (102, .iload 4, 2, 0, (0, 0, 0, 0, 0, 0)), (104, .aload_n 0, 1, 0, (0, 0, 0, 0, 0, 0)), (105, .getfield 11, 3, 0, (8, 2, 23, 2, 2, 0)), (108, .iload 6, 2, 0, (0, 0, 0, 0, 0, 0)), (110, .aaload, 1, 0, (20, 40, 0, 0, 0, 0)), (111, .getfield 122, 3, 0, (10, 11, 0, 0, 0, 0)), (114, .aload_n 0, 1, 0, (0, 0, 0, 0, 0, 0)), (115, .getfield 17, 3, 0, (8, 3, 16, 2, 19, 0)), (118, .iload 6, 2, 0, (0, 0, 0, 0, 0, 0)), (120, .iaload, 1, 0, (13, 40, 0, 0, 0, 0)), (121, .isub, 1, 0, (0, 0, 0, 0, 0, 0)), (122, .imul, 1, 0, (0, 0, 0, 0, 0, 0)), (123, .iload_n 3, 1, 0, (0, 0, 0, 0, 0, 0)), (124, .idiv, 1, 0, (0, 0, 0, 0, 0, 0)), (125, .istore 7, 2, 0, (0, 0, 0, 0, 0, 0)), (127, .aload_n 0, 1, 0, (0, 0, 0, 0, 0, 0)), (128, .getfield 17, 3, 0, (8, 3, 16, 2, 19, 0)), (131, .iload 6, 2, 0, (0, 0, 0, 0, 0, 0)), (133, .dup2, 1, 0, (0, 0, 0, 0, 0, 0)), (134, .iaload, 1, 0, (13, 40, 0, 0, 0, 0)), (135, .iload 7, 2, 0, (0, 0, 0, 0, 0, 0)), (137, .iadd, 1, 0, (0, 0, 0, 0, 0, 0)), (138, .iastore, 1, 0, (13, 40, 0, 0, 0, 0)), (139, .iload 5, 2, 0, (0, 0, 0, 0, 0, 0)), (141, .iload 7, 2, 0, (0, 0, 0, 0, 0, 0)), (143, .isub, 1, 0, (0, 0, 0, 0, 0, 0)), (144, .istore 5, 2, 0, (0, 0, 0, 0, 0, 0)), (146, .iinc 6 1, 3, 0, (0, 0, 0, 0, 0, 1)), (149, .goto (-77), 3, 0, (0, 0, 0, 0, 0, 0)), (152, .iconst 0, 1, 0, (0, 0, 0, 0, 0, 0)), (153, .istore 6, 2, 0, (0, 0, 0, 0, 0, 0)), (155, .iload 6, 2, 3, (0, 0, 0, 0, 0, 0)), (157, .bipush 50, 2, 0, (0, 0, 0, 0, 0, 50)), (159, .if_icmp .ge 88, 3, 0, (0, 0, 0, 0, 0, 0)), (162, .iload 5, 2, 0, (0, 0, 0, 0, 0, 0)), (164, .ifCond .le 83, 3, 0, (0, 0, 0, 0, 0, 0)), (167, .iconst 0, 1, 0, (0, 0, 0, 0, 0, 0)), (168, .istore 7, 2, 0, (0, 0, 0, 0, 0, 0)), (170, .iload 7, 2, 4, (0, 0, 0, 0, 0, 0)), (172, .iload_n 2, 1, 0, (0, 0, 0, 0, 0, 0)), (173, .if_icmp .ge 68, 3, 0, (0, 0, 0, 0, 0, 0)), (176, .iload 7, 2, 0, (0, 0, 0, 0, 0, 0)), (178, .aload_n 0, 1, 0, (0, 0, 0, 0, 0, 0)), (179, .getfield 17, 3, 0, (8, 3, 16, 2, 19, 0)), (182, .arraylength, 1, 0, (13, 40, 0, 0, 0, 40)), (183, .if_icmp .ge 58, 3, 0, (0, 0, 0, 0, 0, 0)), (186, .iload 7, 2, 0, (0, 0, 0, 0, 0, 0)), (188, .aload_n 0, 1, 0, (0, 0, 0, 0, 0, 0)), (189, .getfield 11, 3, 0, (8, 2, 23, 2, 2, 0)), (192, .arraylength, 1, 0, (20, 40, 0, 0, 0, 40)), (193, .if_icmp .ge 48, 3, 0, (0, 0, 0, 0, 0, 0)), (196, .iload 5, 2, 0, (0, 0, 0, 0, 0, 0)), (198, .ifCond .le 37, 3, 0, (0, 0, 0, 0, 0, 0)), (201, .aload_n 0, 1, 0, (0, 0, 0, 0, 0, 0)), (202, .getfield 17, 3, 0, (8, 3, 16, 2, 19, 0)), (205, .iload 7, 2, 0, (0, 0, 0, 0, 0, 0)), (207, .iaload, 1, 0, (13, 40, 0, 0, 0, 0)), (208, .aload_n 0, 1, 0, (0, 0, 0, 0, 0, 0)), (209, .getfield 11, 3, 0, (8, 2, 23, 2, 2, 0)), (212, .iload 7, 2, 0, (0, 0, 0, 0, 0, 0)), (214, .aaload, 1, 0, (20, 40, 0, 0, 0, 0)), (215, .getfield 122, 3, 0, (10, 11, 0, 0, 0, 0)), (218, .if_icmp .ge 17, 3, 0, (0, 0, 0, 0, 0, 0)), (221, .aload_n 0, 1, 0, (0, 0, 0, 0, 0, 0)), (222, .getfield 17, 3, 0, (8, 3, 16, 2, 19, 0)), (225, .iload 7, 2, 0, (0, 0, 0, 0, 0, 0)), (227, .dup2, 1, 0, (0, 0, 0, 0, 0, 0)), (228, .iaload, 1, 0, (13, 40, 0, 0, 0, 0)), (229, .iconst 1, 1, 0, (0, 0, 0, 0, 0, 1)), (230, .iadd, 1, 0, (0, 0, 0, 0, 0, 0)), (231, .iastore, 1, 0, (13, 40, 0, 0, 0, 0)), (232, .iinc 5 (-1), 3, 0, (0, 0, 0, 0, 0, -1)), (235, .iinc 7 1, 3, 0, (0, 0, 0, 0, 0, 1)), (238, .goto (-68), 3, 0, (0, 0, 0, 0, 0, 0)), (241, .iinc 6 1, 3, 0, (0, 0, 0, 0, 0, 1)), (244, .goto (-89), 3, 0, (0, 0, 0, 0, 0, 0)), (247, .return_, 1, 0, (0, 0, 0, 0, 0, 0))]
set_option maxRecDepth 100000 in
theorem rk127 : R127.all (rok 0 127 0 [(209, [0, 0])]) = true := by decide +kernel
set_option maxRecDepth 100000 in
theorem tab127 {F209 : PM → Int32 → Int32 → Int32} {G209 : PM → Int32 → Int32 → Prop} : TabOK 0 127 0 [CC209 F209 G209] R127 := tab_ok (K := K127) rfl rfl (fun h => d127 h) rk127 (by decide +kernel)
set_option maxRecDepth 100000 in
theorem pc127 : cutpc [5, 72, 155, 170] R127 = true := by decide +kernel
set_option maxRecDepth 100000 in
theorem r8_giveShares_170 (F209 : PM → Int32 → Int32 → Int32) (G209 : PM → Int32 → Int32 → Prop) (o209 : CalOK 0 (CC209 F209 G209)) (kv155 : PM → Int32 → Int32 → Int32 → PM) (kg155 : PM → Int32 → Int32 → Int32 → Prop) (hk155 : ∀ (p : PM) (v2 : Int32) (v5 : Int32) (v6 : Int32) (d1 d3 d4 d7 : ZV), Gr 0 p → kg155 p v2 v5 v6 → ZJ 0 127 155 [zR 8 1, d1, zI v2, d3, d4, zI v5, zI v6, d7] [] p (hwV (kv155 p v2 v5 v6))) (kv170 : PM → Int32 → Int32 → Int32 → Int32 → PM) (kg170 : PM → Int32 → Int32 → Int32 → Int32 → Prop) (hk170 : ∀ (p : PM) (v2 : Int32) (v5 : Int32) (v6 : Int32) (v7 : Int32) (d1 d3 d4 : ZV), Gr 0 p → kg170 p v2 v5 v6 v7 → ZJ 0 127 170 [zR 8 1, d1, zI v2, d3, d4, zI v5, zI v6, zI v7] [] p (hwV (kv170 p v2 v5 v6 v7))) : ∀ (p : PM) (v2 : Int32) (v5 : Int32) (v6 : Int32) (v7 : Int32) (d1 d3 d4 : ZV), Gr 0 p → bg8_giveShares_170 kg155 kg170 p v2 v5 v6 v7 → ZJ 0 127 170 [zR 8 1, d1, zI v2, d3, d4, zI v5, zI v6, zI v7] [] p (hwV (bv8_giveShares_170 kv155 kv170 p v2 v5 v6 v7)) := by
  intro p v2 v5 v6 v7 d1 d3 d4 hg H
  exact rwV (n := 3000) (q := 170) (la := [zR 8 1, d1, zI v2, d3, d4, zI v5, zI v6, zI v7]) (sa := []) (ks := [fun _ _ s => s, fun _ _ s => s, fun la sa s => kv155 s (ai la 2) (ai la 5) (ai la 6), fun la sa s => kv170 s (ai la 2) (ai la 5) (ai la 6) (ai la 7)]) (gs := [fun _ _ _ => False, fun _ _ _ => False, fun la sa s => zsw (tc2 la [(108, 1), (2, 0), (0, 0), (2, 0), (2, 0), (0, 0), (0, 0), (2, 0)] && tc2 sa []) False (kg155 s (ai la 2) (ai la 5) (ai la 6)), fun la sa s => zsw (tc2 la [(108, 1), (2, 0), (0, 0), (2, 0), (2, 0), (0, 0), (0, 0), (0, 0)] && tc2 sa []) False (kg170 s (ai la 2) (ai la 5) (ai la 6) (ai la 7))]) (fcons o209 (fnil)) tab127 pc127 ⟨fun _ _ _ _ H => H.elim, fun _ _ _ _ H => H.elim, fun la sa s hg H => zcut H fun H => hk155 s (ai la 2) (ai la 5) (ai la 6) (zld la 1) (zld la 3) (zld la 4) (zld la 7) hg H, fun la sa s hg H => zcut H fun H => hk170 s (ai la 2) (ai la 5) (ai la 6) (ai la 7) (zld la 1) (zld la 3) (zld la 4) hg H, trivial⟩ hg H
theorem t8_giveShares_170 (kv155 : PM → Int32 → Int32 → Int32 → PM) (kg155 : PM → Int32 → Int32 → Int32 → Prop) (hk155 : ∀ (p : PM) (v2 : Int32) (v5 : Int32) (v6 : Int32) (d1 d3 d4 d7 : ZV), Gr 0 p → kg155 p v2 v5 v6 → ZJ 0 127 155 [zR 8 1, d1, zI v2, d3, d4, zI v5, zI v6, d7] [] p (hwV (kv155 p v2 v5 v6))) : ∀ (n : Nat), ∀ (p : PM) (v2 : Int32) (v5 : Int32) (v6 : Int32) (v7 : Int32) (d1 d3 d4 : ZV), Gr 0 p → g8_giveShares_170 kg155 n p v2 v5 v6 v7 → ZJ 0 127 170 [zR 8 1, d1, zI v2, d3, d4, zI v5, zI v6, zI v7] [] p (hwV (v8_giveShares_170 kv155 n p v2 v5 v6 v7)) := by
  intro n
  induction n with
  | zero =>
    intro p v2 v5 v6 v7 d1 d3 d4 hg H
    exact H.elim
  | succ n ih => exact r8_giveShares_170 v14_min_7cf53 g14_min_7cf53 ok209 kv155 kg155 hk155 (v8_giveShares_170 kv155 n) (g8_giveShares_170 kg155 n) ih
set_option maxRecDepth 100000 in
theorem r8_giveShares_155 (F209 : PM → Int32 → Int32 → Int32) (G209 : PM → Int32 → Int32 → Prop) (o209 : CalOK 0 (CC209 F209 G209)) (kv170 : PM → Int32 → Int32 → Int32 → Int32 → PM) (kg170 : PM → Int32 → Int32 → Int32 → Int32 → Prop) (hk170 : ∀ (p : PM) (v2 : Int32) (v5 : Int32) (v6 : Int32) (v7 : Int32) (d1 d3 d4 : ZV), Gr 0 p → kg170 p v2 v5 v6 v7 → ZJ 0 127 170 [zR 8 1, d1, zI v2, d3, d4, zI v5, zI v6, zI v7] [] p (hwV (kv170 p v2 v5 v6 v7))) : ∀ (p : PM) (v2 : Int32) (v5 : Int32) (v6 : Int32) (d1 d3 d4 d7 : ZV), Gr 0 p → bg8_giveShares_155 kg170 p v2 v5 v6 → ZJ 0 127 155 [zR 8 1, d1, zI v2, d3, d4, zI v5, zI v6, d7] [] p (hwV (bv8_giveShares_155 kv170 p v2 v5 v6)) := by
  intro p v2 v5 v6 d1 d3 d4 d7 hg H
  exact rwV (n := 3000) (q := 155) (la := [zR 8 1, d1, zI v2, d3, d4, zI v5, zI v6, d7]) (sa := []) (ks := [fun _ _ s => s, fun _ _ s => s, fun _ _ s => s, fun la sa s => kv170 s (ai la 2) (ai la 5) (ai la 6) (ai la 7)]) (gs := [fun _ _ _ => False, fun _ _ _ => False, fun _ _ _ => False, fun la sa s => zsw (tc2 la [(108, 1), (2, 0), (0, 0), (2, 0), (2, 0), (0, 0), (0, 0), (0, 0)] && tc2 sa []) False (kg170 s (ai la 2) (ai la 5) (ai la 6) (ai la 7))]) (fcons o209 (fnil)) tab127 pc127 ⟨fun _ _ _ _ H => H.elim, fun _ _ _ _ H => H.elim, fun _ _ _ _ H => H.elim, fun la sa s hg H => zcut H fun H => hk170 s (ai la 2) (ai la 5) (ai la 6) (ai la 7) (zld la 1) (zld la 3) (zld la 4) hg H, trivial⟩ hg H
theorem t8_giveShares_155 : ∀ (n : Nat), ∀ (p : PM) (v2 : Int32) (v5 : Int32) (v6 : Int32) (d1 d3 d4 d7 : ZV), Gr 0 p → g8_giveShares_155 n p v2 v5 v6 → ZJ 0 127 155 [zR 8 1, d1, zI v2, d3, d4, zI v5, zI v6, d7] [] p (hwV (v8_giveShares_155 n p v2 v5 v6)) := by
  intro n
  induction n with
  | zero =>
    intro p v2 v5 v6 d1 d3 d4 d7 hg H
    exact H.elim
  | succ n ih => exact r8_giveShares_155 v14_min_7cf53 g14_min_7cf53 ok209 (v8_giveShares_170 (v8_giveShares_155 n) FU) (g8_giveShares_170 (g8_giveShares_155 n) FU) (t8_giveShares_170 (v8_giveShares_155 n) (g8_giveShares_155 n) ih FU)
set_option maxRecDepth 100000 in
theorem r8_giveShares_72 (F209 : PM → Int32 → Int32 → Int32) (G209 : PM → Int32 → Int32 → Prop) (o209 : CalOK 0 (CC209 F209 G209)) (kv72 : PM → Int32 → Int32 → Int32 → Int32 → Int32 → PM) (kg72 : PM → Int32 → Int32 → Int32 → Int32 → Int32 → Prop) (hk72 : ∀ (p : PM) (v2 : Int32) (v3 : Int32) (v4 : Int32) (v5 : Int32) (v6 : Int32) (d1 d7 : ZV), Gr 0 p → kg72 p v2 v3 v4 v5 v6 → ZJ 0 127 72 [zR 8 1, d1, zI v2, zI v3, zI v4, zI v5, zI v6, d7] [] p (hwV (kv72 p v2 v3 v4 v5 v6))) (kv155 : PM → Int32 → Int32 → Int32 → PM) (kg155 : PM → Int32 → Int32 → Int32 → Prop) (hk155 : ∀ (p : PM) (v2 : Int32) (v5 : Int32) (v6 : Int32) (d1 d3 d4 d7 : ZV), Gr 0 p → kg155 p v2 v5 v6 → ZJ 0 127 155 [zR 8 1, d1, zI v2, d3, d4, zI v5, zI v6, d7] [] p (hwV (kv155 p v2 v5 v6))) : ∀ (p : PM) (v2 : Int32) (v3 : Int32) (v4 : Int32) (v5 : Int32) (v6 : Int32) (d1 d7 : ZV), Gr 0 p → bg8_giveShares_72 kg72 kg155 p v2 v3 v4 v5 v6 → ZJ 0 127 72 [zR 8 1, d1, zI v2, zI v3, zI v4, zI v5, zI v6, d7] [] p (hwV (bv8_giveShares_72 kv72 kv155 p v2 v3 v4 v5 v6)) := by
  intro p v2 v3 v4 v5 v6 d1 d7 hg H
  exact rwV (n := 3000) (q := 72) (la := [zR 8 1, d1, zI v2, zI v3, zI v4, zI v5, zI v6, d7]) (sa := []) (ks := [fun _ _ s => s, fun la sa s => kv72 s (ai la 2) (ai la 3) (ai la 4) (ai la 5) (ai la 6), fun la sa s => kv155 s (ai la 2) (ai la 5) (ai la 6), fun _ _ s => s]) (gs := [fun _ _ _ => False, fun la sa s => zsw (tc2 la [(108, 1), (2, 0), (0, 0), (0, 0), (0, 0), (0, 0), (0, 0), (2, 0)] && tc2 sa []) False (kg72 s (ai la 2) (ai la 3) (ai la 4) (ai la 5) (ai la 6)), fun la sa s => zsw (tc2 la [(108, 1), (2, 0), (0, 0), (2, 0), (2, 0), (0, 0), (0, 0), (2, 0)] && tc2 sa []) False (kg155 s (ai la 2) (ai la 5) (ai la 6)), fun _ _ _ => False]) (fcons o209 (fnil)) tab127 pc127 ⟨fun _ _ _ _ H => H.elim, fun la sa s hg H => zcut H fun H => hk72 s (ai la 2) (ai la 3) (ai la 4) (ai la 5) (ai la 6) (zld la 1) (zld la 7) hg H, fun la sa s hg H => zcut H fun H => hk155 s (ai la 2) (ai la 5) (ai la 6) (zld la 1) (zld la 3) (zld la 4) (zld la 7) hg H, fun _ _ _ _ H => H.elim, trivial⟩ hg H
theorem t8_giveShares_72 : ∀ (n : Nat), ∀ (p : PM) (v2 : Int32) (v3 : Int32) (v4 : Int32) (v5 : Int32) (v6 : Int32) (d1 d7 : ZV), Gr 0 p → g8_giveShares_72 n p v2 v3 v4 v5 v6 → ZJ 0 127 72 [zR 8 1, d1, zI v2, zI v3, zI v4, zI v5, zI v6, d7] [] p (hwV (v8_giveShares_72 n p v2 v3 v4 v5 v6)) := by
  intro n
  induction n with
  | zero =>
    intro p v2 v3 v4 v5 v6 d1 d7 hg H
    exact H.elim
  | succ n ih => exact r8_giveShares_72 v14_min_7cf53 g14_min_7cf53 ok209 (v8_giveShares_72 n) (g8_giveShares_72 n) ih (v8_giveShares_155 FU) (g8_giveShares_155 FU) (t8_giveShares_155 FU)
set_option maxRecDepth 100000 in
theorem r8_giveShares_5 (F209 : PM → Int32 → Int32 → Int32) (G209 : PM → Int32 → Int32 → Prop) (o209 : CalOK 0 (CC209 F209 G209)) (kv5 : PM → Int32 → Int32 → Int32 → Int32 → PM) (kg5 : PM → Int32 → Int32 → Int32 → Int32 → Prop) (hk5 : ∀ (p : PM) (v1 : Int32) (v2 : Int32) (v3 : Int32) (v4 : Int32) (d5 d6 d7 : ZV), Gr 0 p → kg5 p v1 v2 v3 v4 → ZJ 0 127 5 [zR 8 1, zI v1, zI v2, zI v3, zI v4, d5, d6, d7] [] p (hwV (kv5 p v1 v2 v3 v4))) (kv72 : PM → Int32 → Int32 → Int32 → Int32 → Int32 → PM) (kg72 : PM → Int32 → Int32 → Int32 → Int32 → Int32 → Prop) (hk72 : ∀ (p : PM) (v2 : Int32) (v3 : Int32) (v4 : Int32) (v5 : Int32) (v6 : Int32) (d1 d7 : ZV), Gr 0 p → kg72 p v2 v3 v4 v5 v6 → ZJ 0 127 72 [zR 8 1, d1, zI v2, zI v3, zI v4, zI v5, zI v6, d7] [] p (hwV (kv72 p v2 v3 v4 v5 v6))) : ∀ (p : PM) (v1 : Int32) (v2 : Int32) (v3 : Int32) (v4 : Int32) (d5 d6 d7 : ZV), Gr 0 p → bg8_giveShares_5 F209 G209 kg5 kg72 p v1 v2 v3 v4 → ZJ 0 127 5 [zR 8 1, zI v1, zI v2, zI v3, zI v4, d5, d6, d7] [] p (hwV (bv8_giveShares_5 F209 kv5 kv72 p v1 v2 v3 v4)) := by
  intro p v1 v2 v3 v4 d5 d6 d7 hg H
  exact rwV (n := 3000) (q := 5) (la := [zR 8 1, zI v1, zI v2, zI v3, zI v4, d5, d6, d7]) (sa := []) (ks := [fun la sa s => kv5 s (ai la 1) (ai la 2) (ai la 3) (ai la 4), fun la sa s => kv72 s (ai la 2) (ai la 3) (ai la 4) (ai la 5) (ai la 6), fun _ _ s => s, fun _ _ s => s]) (gs := [fun la sa s => zsw (tc2 la [(108, 1), (0, 0), (0, 0), (0, 0), (0, 0), (2, 0), (2, 0), (2, 0)] && tc2 sa []) False (kg5 s (ai la 1) (ai la 2) (ai la 3) (ai la 4)), fun la sa s => zsw (tc2 la [(108, 1), (2, 0), (0, 0), (0, 0), (0, 0), (0, 0), (0, 0), (2, 0)] && tc2 sa []) False (kg72 s (ai la 2) (ai la 3) (ai la 4) (ai la 5) (ai la 6)), fun _ _ _ => False, fun _ _ _ => False]) (fcons o209 (fnil)) tab127 pc127 ⟨fun la sa s hg H => zcut H fun H => hk5 s (ai la 1) (ai la 2) (ai la 3) (ai la 4) (zld la 5) (zld la 6) (zld la 7) hg H, fun la sa s hg H => zcut H fun H => hk72 s (ai la 2) (ai la 3) (ai la 4) (ai la 5) (ai la 6) (zld la 1) (zld la 7) hg H, fun _ _ _ _ H => H.elim, fun _ _ _ _ H => H.elim, trivial⟩ hg H
theorem t8_giveShares_5 : ∀ (n : Nat), ∀ (p : PM) (v1 : Int32) (v2 : Int32) (v3 : Int32) (v4 : Int32) (d5 d6 d7 : ZV), Gr 0 p → g8_giveShares_5 n p v1 v2 v3 v4 → ZJ 0 127 5 [zR 8 1, zI v1, zI v2, zI v3, zI v4, d5, d6, d7] [] p (hwV (v8_giveShares_5 n p v1 v2 v3 v4)) := by
  intro n
  induction n with
  | zero =>
    intro p v1 v2 v3 v4 d5 d6 d7 hg H
    exact H.elim
  | succ n ih => exact r8_giveShares_5 v14_min_7cf53 g14_min_7cf53 ok209 (v8_giveShares_5 n) (g8_giveShares_5 n) ih (v8_giveShares_72 FU) (g8_giveShares_72 FU) (t8_giveShares_72 FU)
set_option maxRecDepth 100000 in
theorem r8_giveShares (F209 : PM → Int32 → Int32 → Int32) (G209 : PM → Int32 → Int32 → Prop) (o209 : CalOK 0 (CC209 F209 G209)) (kv5 : PM → Int32 → Int32 → Int32 → Int32 → PM) (kg5 : PM → Int32 → Int32 → Int32 → Int32 → Prop) (hk5 : ∀ (p : PM) (v1 : Int32) (v2 : Int32) (v3 : Int32) (v4 : Int32) (d5 d6 d7 : ZV), Gr 0 p → kg5 p v1 v2 v3 v4 → ZJ 0 127 5 [zR 8 1, zI v1, zI v2, zI v3, zI v4, d5, d6, d7] [] p (hwV (kv5 p v1 v2 v3 v4))) : ∀ (p : PM) (v1 : Int32) (v2 : Int32), Gr 0 p → bg8_giveShares kg5 p v1 v2 → ZJ 0 127 0 [zR 8 1, zI v1, zI v2, zJ, zJ, zJ, zJ, zJ] [] p (hwV (bv8_giveShares kv5 p v1 v2)) := by
  intro p v1 v2  hg H
  exact rwV (n := 3000) (q := 0) (la := [zR 8 1, zI v1, zI v2, zJ, zJ, zJ, zJ, zJ]) (sa := []) (ks := [fun la sa s => kv5 s (ai la 1) (ai la 2) (ai la 3) (ai la 4), fun _ _ s => s, fun _ _ s => s, fun _ _ s => s]) (gs := [fun la sa s => zsw (tc2 la [(108, 1), (0, 0), (0, 0), (0, 0), (0, 0), (2, 0), (2, 0), (2, 0)] && tc2 sa []) False (kg5 s (ai la 1) (ai la 2) (ai la 3) (ai la 4)), fun _ _ _ => False, fun _ _ _ => False, fun _ _ _ => False]) (fcons o209 (fnil)) tab127 pc127 ⟨fun la sa s hg H => zcut H fun H => hk5 s (ai la 1) (ai la 2) (ai la 3) (ai la 4) (zld la 5) (zld la 6) (zld la 7) hg H, fun _ _ _ _ H => H.elim, fun _ _ _ _ H => H.elim, fun _ _ _ _ H => H.elim, trivial⟩ hg H
theorem t8_giveShares : ∀ (p : PM) (v1 : Int32) (v2 : Int32), Gr 0 p → g8_giveShares p v1 v2 → ZJ 0 127 0 [zR 8 1, zI v1, zI v2, zJ, zJ, zJ, zJ, zJ] [] p (hwV (v8_giveShares p v1 v2)) := r8_giveShares v14_min_7cf53 g14_min_7cf53 ok209 (v8_giveShares_5 FU) (g8_giveShares_5 FU) (t8_giveShares_5 FU)
def CC127 (F : PM → Int32 → Int32 → PM) (G : PM → Int32 → Int32 → Prop) : Cal := (127, [11, 0, 0], 0, false, fun as p => (zJ, (F p (ai as 1) (ai as 2))), fun as p => zsw (tc2 as [(108, 1), (0, 0), (0, 0)]) False (G p (ai as 1) (ai as 2)))
set_option maxRecDepth 100000 in
theorem okr127 (F : PM → Int32 → Int32 → PM) (G : PM → Int32 → Int32 → Prop) (h : ∀ (p : PM) (v1 : Int32) (v2 : Int32), Gr 0 p → G p v1 v2 → ZJ 0 127 0 [zR 8 1, zI v1, zI v2, zJ, zJ, zJ, zJ, zJ] [] p (hwV (F p v1 v2))) : CalOK 0 (CC127 F G) := cal_ok (m := 8) (by unfold mL; rw [mX_127]) (fun as p hg H => h p (ai as 1) (ai as 2) hg H)
theorem ok127 : CalOK 0 (CC127 v8_giveShares g8_giveShares) := okr127 v8_giveShares g8_giveShares t8_giveShares
