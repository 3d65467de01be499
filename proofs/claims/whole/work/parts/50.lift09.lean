/-! methods as functions over one part, by program (wip/whole/lift.py) -/
noncomputable def bv12_firstIn_134 (p : PM) (kv6 : Int32 → Int32 → Int32 → Int32 → Int32 → Int32) (v1 : Int32) (v2 : Int32) (v3 : Int32) (v4 : Int32) (v5 : Int32) : Int32 :=
  if (p.1 15 5 (v5).toNatClampNeg) = 0 then (
    if (p.1 13 25 (v5).toNatClampNeg) = (p.1 13 25 (v4).toNatClampNeg) then (
      if (p.1 13 23 (v5).toNatClampNeg) < (p.1 13 23 (v4).toNatClampNeg) then (
        kv6 v1 v2 v3 v5 (v5 + (cn 1)))
      else (
        kv6 v1 v2 v3 v4 (v5 + (cn 1))))
    else (
      kv6 v1 v2 v3 v4 (v5 + (cn 1))))
  else (
    if (p.1 13 23 (v5).toNatClampNeg) < (p.1 13 23 (v4).toNatClampNeg) then (
      kv6 v1 v2 v3 v5 (v5 + (cn 1)))
    else (
      kv6 v1 v2 v3 v4 (v5 + (cn 1))))
noncomputable def v12_firstIn_134 (p : PM) (kv6 : Int32 → Int32 → Int32 → Int32 → Int32 → Int32) (v1 : Int32) (v2 : Int32) (v3 : Int32) (v4 : Int32) (v5 : Int32) : Int32 := bv12_firstIn_134 p kv6 v1 v2 v3 v4 v5
noncomputable def bg12_firstIn_134 (p : PM) (kg6 : Int32 → Int32 → Int32 → Int32 → Int32 → Prop) (v1 : Int32) (v2 : Int32) (v3 : Int32) (v4 : Int32) (v5 : Int32) : Prop :=
  (inb v5 44) ∧ (
  if (p.1 15 5 (v5).toNatClampNeg) = 0 then (
    (inb v5 44) ∧ (
    (inb v4 44) ∧ (
    if (p.1 13 25 (v5).toNatClampNeg) = (p.1 13 25 (v4).toNatClampNeg) then (
      (inb v5 44) ∧ (
      (inb v4 44) ∧ (
      if (p.1 13 23 (v5).toNatClampNeg) < (p.1 13 23 (v4).toNatClampNeg) then (
        kg6 v1 v2 v3 v5 (v5 + (cn 1)))
      else (
        kg6 v1 v2 v3 v4 (v5 + (cn 1))))))
    else (
      kg6 v1 v2 v3 v4 (v5 + (cn 1))))))
  else (
    (inb v5 44) ∧ (
    (inb v4 44) ∧ (
    if (p.1 13 23 (v5).toNatClampNeg) < (p.1 13 23 (v4).toNatClampNeg) then (
      kg6 v1 v2 v3 v5 (v5 + (cn 1)))
    else (
      kg6 v1 v2 v3 v4 (v5 + (cn 1)))))))
noncomputable def g12_firstIn_134 (p : PM) (kg6 : Int32 → Int32 → Int32 → Int32 → Int32 → Prop) (v1 : Int32) (v2 : Int32) (v3 : Int32) (v4 : Int32) (v5 : Int32) : Prop := bg12_firstIn_134 p kg6 v1 v2 v3 v4 v5
noncomputable def bv12_firstIn_54 (p : PM) (F239 : PM → Int32 → Int32 → Int32 → Int32) (kv6 : Int32 → Int32 → Int32 → Int32 → Int32 → Int32) (kv134 : Int32 → Int32 → Int32 → Int32 → Int32 → Int32) (v1 : Int32) (v2 : Int32) (v3 : Int32) (v4 : Int32) (v5 : Int32) (s0 : Int32) : Int32 :=
  if s0 = 0 then (
    kv6 v1 v2 v3 v4 (v5 + (cn 1)))
  else (
    if v4 < 0 then (
      kv6 v1 v2 v3 v5 (v5 + (cn 1)))
    else (
      if (p.1 15 5 (v5).toNatClampNeg) = 0 then (
        if (p.1 15 5 (v5).toNatClampNeg) = (p.1 15 5 (v4).toNatClampNeg) then (
          if (p.1 15 5 (v5).toNatClampNeg) = 0 then (
            if (F239 p (p.1 13 25 (v5).toNatClampNeg) (p.1 13 25 (v4).toNatClampNeg) v2) = 0 then (
              kv134 v1 v2 v3 v4 v5)
            else (
              kv6 v1 v2 v3 v5 (v5 + (cn 1))))
          else (
            kv134 v1 v2 v3 v4 v5))
        else (
          kv6 v1 v2 v3 v4 (v5 + (cn 1))))
      else (
        if (p.1 15 5 (v4).toNatClampNeg) = 0 then (
          kv6 v1 v2 v3 v5 (v5 + (cn 1)))
        else (
          if (p.1 15 5 (v5).toNatClampNeg) = (p.1 15 5 (v4).toNatClampNeg) then (
            if (p.1 15 5 (v5).toNatClampNeg) = 0 then (
              if (F239 p (p.1 13 25 (v5).toNatClampNeg) (p.1 13 25 (v4).toNatClampNeg) v2) = 0 then (
                kv134 v1 v2 v3 v4 v5)
              else (
                kv6 v1 v2 v3 v5 (v5 + (cn 1))))
            else (
              kv134 v1 v2 v3 v4 v5))
          else (
            kv6 v1 v2 v3 v4 (v5 + (cn 1)))))))
noncomputable def v12_firstIn_54 (p : PM) (kv6 : Int32 → Int32 → Int32 → Int32 → Int32 → Int32) (v1 : Int32) (v2 : Int32) (v3 : Int32) (v4 : Int32) (v5 : Int32) (s0 : Int32) : Int32 := bv12_firstIn_54 p v12_isBetter kv6 (v12_firstIn_134 p kv6) v1 v2 v3 v4 v5 s0
noncomputable def bg12_firstIn_54 (p : PM) (F239 : PM → Int32 → Int32 → Int32 → Int32) (G239 : PM → Int32 → Int32 → Int32 → Prop) (kg6 : Int32 → Int32 → Int32 → Int32 → Int32 → Prop) (kg134 : Int32 → Int32 → Int32 → Int32 → Int32 → Prop) (v1 : Int32) (v2 : Int32) (v3 : Int32) (v4 : Int32) (v5 : Int32) (s0 : Int32) : Prop :=
  if s0 = 0 then (
    kg6 v1 v2 v3 v4 (v5 + (cn 1)))
  else (
    if v4 < 0 then (
      kg6 v1 v2 v3 v5 (v5 + (cn 1)))
    else (
      (inb v5 44) ∧ (
      if (p.1 15 5 (v5).toNatClampNeg) = 0 then (
        (inb v5 44) ∧ (
        (inb v4 44) ∧ (
        if (p.1 15 5 (v5).toNatClampNeg) = (p.1 15 5 (v4).toNatClampNeg) then (
          (inb v5 44) ∧ (
          if (p.1 15 5 (v5).toNatClampNeg) = 0 then (
            (inb v5 44) ∧ (
            (inb v4 44) ∧ (
            (G239 p (p.1 13 25 (v5).toNatClampNeg) (p.1 13 25 (v4).toNatClampNeg) v2) ∧ (
            if (F239 p (p.1 13 25 (v5).toNatClampNeg) (p.1 13 25 (v4).toNatClampNeg) v2) = 0 then (
              kg134 v1 v2 v3 v4 v5)
            else (
              kg6 v1 v2 v3 v5 (v5 + (cn 1)))))))
          else (
            kg134 v1 v2 v3 v4 v5)))
        else (
          kg6 v1 v2 v3 v4 (v5 + (cn 1))))))
      else (
        (inb v4 44) ∧ (
        if (p.1 15 5 (v4).toNatClampNeg) = 0 then (
          kg6 v1 v2 v3 v5 (v5 + (cn 1)))
        else (
          (inb v5 44) ∧ (
          (inb v4 44) ∧ (
          if (p.1 15 5 (v5).toNatClampNeg) = (p.1 15 5 (v4).toNatClampNeg) then (
            (inb v5 44) ∧ (
            if (p.1 15 5 (v5).toNatClampNeg) = 0 then (
              (inb v5 44) ∧ (
              (inb v4 44) ∧ (
              (G239 p (p.1 13 25 (v5).toNatClampNeg) (p.1 13 25 (v4).toNatClampNeg) v2) ∧ (
              if (F239 p (p.1 13 25 (v5).toNatClampNeg) (p.1 13 25 (v4).toNatClampNeg) v2) = 0 then (
                kg134 v1 v2 v3 v4 v5)
              else (
                kg6 v1 v2 v3 v5 (v5 + (cn 1)))))))
            else (
              kg134 v1 v2 v3 v4 v5)))
          else (
            kg6 v1 v2 v3 v4 (v5 + (cn 1)))))))))))
noncomputable def g12_firstIn_54 (p : PM) (kg6 : Int32 → Int32 → Int32 → Int32 → Int32 → Prop) (v1 : Int32) (v2 : Int32) (v3 : Int32) (v4 : Int32) (v5 : Int32) (s0 : Int32) : Prop := bg12_firstIn_54 p v12_isBetter g12_isBetter kg6 (g12_firstIn_134 p kg6) v1 v2 v3 v4 v5 s0
noncomputable def bv12_firstIn_6 (p : PM) (F238 : PM → Int32 → Int32 → Int32 → Int32) (F239 : PM → Int32 → Int32 → Int32 → Int32) (kv54 : Int32 → Int32 → Int32 → Int32 → Int32 → Int32 → Int32) (v1 : Int32) (v2 : Int32) (v3 : Int32) (v4 : Int32) (v5 : Int32) : Int32 :=
  if v5 < (cn 44) then (
    if (F238 p v5 v1 v2) = 0 then (
      kv54 v1 v2 v3 v4 v5 (cn 0))
    else (
      if (p.1 15 5 (v5).toNatClampNeg) = 0 then (
        if (F239 p v3 (p.1 13 25 (v5).toNatClampNeg) v2) = 0 then (
          kv54 v1 v2 v3 v4 v5 (cn 1))
        else (
          kv54 v1 v2 v3 v4 v5 (cn 0)))
      else (
        kv54 v1 v2 v3 v4 v5 (cn 1))))
  else (
    v4)
noncomputable def v12_firstIn_6 (p : PM) (n : Nat) : Int32 → Int32 → Int32 → Int32 → Int32 → Int32 := Nat.rec (motive := fun _ => Int32 → Int32 → Int32 → Int32 → Int32 → Int32) (fun _ _ _ _ _ => 0) (fun _ ih => bv12_firstIn_6 p v12_isThere v12_isBetter (v12_firstIn_54 p ih)) n
theorem ev12_firstIn_6 (p : PM) (n : Nat) (v1 : Int32) (v2 : Int32) (v3 : Int32) (v4 : Int32) (v5 : Int32) : v12_firstIn_6 p (n + 1) v1 v2 v3 v4 v5 = bv12_firstIn_6 p v12_isThere v12_isBetter (v12_firstIn_54 p (v12_firstIn_6 p n)) v1 v2 v3 v4 v5 := rfl
noncomputable def bg12_firstIn_6 (p : PM) (F238 : PM → Int32 → Int32 → Int32 → Int32) (G238 : PM → Int32 → Int32 → Int32 → Prop) (F239 : PM → Int32 → Int32 → Int32 → Int32) (G239 : PM → Int32 → Int32 → Int32 → Prop) (kg54 : Int32 → Int32 → Int32 → Int32 → Int32 → Int32 → Prop) (v1 : Int32) (v2 : Int32) (v3 : Int32) (v4 : Int32) (v5 : Int32) : Prop :=
  if v5 < (cn 44) then (
    (G238 p v5 v1 v2) ∧ (
    if (F238 p v5 v1 v2) = 0 then (
      kg54 v1 v2 v3 v4 v5 (cn 0))
    else (
      (inb v5 44) ∧ (
      if (p.1 15 5 (v5).toNatClampNeg) = 0 then (
        (inb v5 44) ∧ (
        (G239 p v3 (p.1 13 25 (v5).toNatClampNeg) v2) ∧ (
        if (F239 p v3 (p.1 13 25 (v5).toNatClampNeg) v2) = 0 then (
          kg54 v1 v2 v3 v4 v5 (cn 1))
        else (
          kg54 v1 v2 v3 v4 v5 (cn 0)))))
      else (
        kg54 v1 v2 v3 v4 v5 (cn 1))))))
  else (
    True)
noncomputable def g12_firstIn_6 (p : PM) (n : Nat) : Int32 → Int32 → Int32 → Int32 → Int32 → Prop := Nat.rec (motive := fun _ => Int32 → Int32 → Int32 → Int32 → Int32 → Prop) (fun _ _ _ _ _ => False) (fun _ ih => bg12_firstIn_6 p v12_isThere g12_isThere v12_isBetter g12_isBetter (g12_firstIn_54 p ih)) n
theorem eg12_firstIn_6 (p : PM) (n : Nat) (v1 : Int32) (v2 : Int32) (v3 : Int32) (v4 : Int32) (v5 : Int32) : g12_firstIn_6 p (n + 1) v1 v2 v3 v4 v5 = bg12_firstIn_6 p v12_isThere g12_isThere v12_isBetter g12_isBetter (g12_firstIn_54 p (g12_firstIn_6 p n)) v1 v2 v3 v4 v5 := rfl
noncomputable def bv12_firstIn (p : PM) (kv6 : Int32 → Int32 → Int32 → Int32 → Int32 → Int32) (v1 : Int32) (v2 : Int32) (v3 : Int32) : Int32 :=
  kv6 v1 v2 v3 (cn (-1)) (cn 0)
noncomputable def v12_firstIn (p : PM) (v1 : Int32) (v2 : Int32) (v3 : Int32) : Int32 := bv12_firstIn p (v12_firstIn_6 p FU) v1 v2 v3
noncomputable def bg12_firstIn (p : PM) (kg6 : Int32 → Int32 → Int32 → Int32 → Int32 → Prop) (v1 : Int32) (v2 : Int32) (v3 : Int32) : Prop :=
  kg6 v1 v2 v3 (cn (-1)) (cn 0)
noncomputable def g12_firstIn (p : PM) (v1 : Int32) (v2 : Int32) (v3 : Int32) : Prop := bg12_firstIn p (g12_firstIn_6 p FU) v1 v2 v3
def R270 : List Row := [(0, .iconst (-1), 1, 0, (0, 0, 0, 0, 0, -1)), (1, .istore 4, 2, 0, (0, 0, 0, 0, 0, 0)), (3, .iconst 0, 1, 0, (0, 0, 0, 0, 0, 0)), (4, .istore 5, 2, 0, (0, 0, 0, 0, 0, 0)), (6, .iload 5, 2, 1, (0, 0, 0, 0, 0, 0)), (8, .bipush 44, 2, 0, (0, 0, 0, 0, 0, 44)), (10, .if_icmp .ge 195, 3, 0, (0, 0, 0, 0, 0, 0)), (13, .aload_n 0, 1, 0, (0, 0, 0, 0, 0, 0)), (14, .iload 5, 2, 0, (0, 0, 0, 0, 0, 0)), (16, .iload_n 1, 1, 0, (0, 0, 0, 0, 0, 0)), (17, .iload_n 2, 1, 0, (0, 0, 0, 0, 0, 0)), (18, .invokevirtual 244, 3, 0, (0, 4, 0, 0, 1, 0)), (21, .ifCond .eq 32, 3, 0, (0, 0, 0, 0, 0, 0)), (24, .aload_n 0, 1, 0, (0, 0, 0, 0, 0, 0)), (25, .getfield 78, 3, 0, (12, 25, 18, 2, 5, 0)), (28, .iload 5, 2, 0, (0, 0, 0, 0, 0, 0)), (30, .baload, 1, 0, (15, 44, 0, 0, 0, 0)), (31, .ifCond .ne 18, 3, 0, (0, 0, 0, 0, 0, 0)), (34, .iload_n 3, 1, 0, (0, 0, 0, 0, 0, 0)), (35, .aload_n 0, 1, 0, (0, 0, 0, 0, 0, 0)), (36, .getfield 102, 3, 0, (12, 33, 16, 2, 25, 0)), (39, .iload 5, 2, 0, (0, 0, 0, 0, 0, 0)), (41, .iaload, 1, 0, (13, 44, 0, 0, 0, 0)), (42, .iload_n 2, 1, 0, (0, 0, 0, 0, 0, 0)), (43, .invokestatic 248, 3, 0, (1, 3, 0, 0, 0, 0)), (46, .ifCond .ne 7, 3, 0, (0, 0, 0, 0, 0, 0)), (49, .iconst 1, 1, 0, (0, 0, 0, 0, 0, 1)), (50, .goto 4, 3, 0, (0, 0, 0, 0, 0, 0)), (53, .iconst 0, 1, 0, (0, 0, 0, 0, 0, 0)), (54, .istore 6, 2, 2, (0, 0, 0, 0, 0, 0)), (56, .iload 6, 2, 0, (0, 0, 0, 0, 0, 0)), (58, .ifCond .eq 124, 3, 0, (0, 0, 0, 0, 0, 0)), (61, .iload 4, 2, 0, (0, 0, 0, 0, 0, 0)), (63, .ifCond .lt 115, 3, 0, (0, 0, 0, 0, 0, 0)), (66, .aload_n 0, 1, 0, (0, 0, 0, 0, 0, 0)), (67, .getfield 78, 3, 0, (12, 25, 18, 2, 5, 0)), (70, .iload 5, 2, 0, (0, 0, 0, 0, 0, 0)), (72, .baload, 1, 0, (15, 44, 0, 0, 0, 0)), (73, .ifCond .eq 13, 3, 0, (0, 0, 0, 0, 0, 0)), (76, .aload_n 0, 1, 0, (0, 0, 0, 0, 0, 0)), (77, .getfield 78, 3, 0, (12, 25, 18, 2, 5, 0)), (80, .iload 4, 2, 0, (0, 0, 0, 0, 0, 0)), (82, .baload, 1, 0, (15, 44, 0, 0, 0, 0)), (83, .ifCond .eq 95, 3, 0, (0, 0, 0, 0, 0, 0)), (86, .aload_n 0, 1, 0, (0, 0, 0, 0, 0, 0)), (87, .getfield 78, 3, 0, (12, 25, 18, 2, 5, 0)), (90, .iload 5, 2, 0, (0, 0, 0, 0, 0, 0)), (92, .baload, 1, 0, (15, 44, 0, 0, 0, 0)), (93, .aload_n 0, 1, 0, (0, 0, 0, 0, 0, 0)), (94, .getfield 78, 3, 0, (12, 25, 18, 2, 5, 0)), (97, .iload 4, 2, 0, (0, 0, 0, 0, 0, 0)), (99, .baload, 1, 0, (15, 44, 0, 0, 0, 0)), (100, .if_icmp .ne 82, 3, 0, (0, 0, 0, 0, 0, 0)), (103, .aload_n 0, 1, 0, (0, 0, 0, 0, 0, 0)), (104, .getfield 78, 3, 0, (12, 25, 18, 2, 5, 0)), (107, .iload 5, 2, 0, (0, 0, 0, 0, 0, 0)), (109, .baload, 1, 0, (15, 44, 0, 0, 0, 0)), (110, .ifCond .ne 24, 3, 0, (0, 0, 0, 0, 0, 0)), (113, .aload_n 0, 1, 0, (0, 0, 0, 0, 0, 0)), (114, .getfield 102, 3, 0, (12, 33, 16, 2, 25, 0)), (117, .iload 5, 2, 0, (0, 0, 0, 0, 0, 0)), (119, .iaload, 1, 0, (13, 44, 0, 0, 0, 0)), (120, .aload_n 0, 1, 0, (0, 0, 0, 0, 0, 0)), (121, .getfield 102, 3, 0, (12, 33, 16, 2, 25, 0)), (124, .iload 4, 2, 0, (0, 0, 0, 0, 0, 0)), (126, .iaload, 1, 0, (13, 44, 0, 0, 0, 0)), (127, .iload_n 2, 1, 0, (0, 0, 0, 0, 0, 0)), (128, .invokestatic 248, 3, 0, (1, 3, 0, 0, 0, 0)), (131, .ifCond .ne 47, 3, 0, (0, 0, 0, 0, 0, 0)), (134, .aload_n 0, 1, 3, (0, 0, 0, 0, 0, 0)), (135, .getfield 78, 3, 0, (12, 25, 18, 2, 5, 0)), (138, .iload 5, 2, 0, (0, 0, 0, 0, 0, 0)), (140, .baload, 1, 0, (15, 44, 0, 0, 0, 0)), (141, .ifCond .ne 20, 3, 0, (0, 0, 0, 0, 0, 0)), (144, .aload_n 0, 1, 0, (0, 0, 0, 0, 0, 0)), (145, .getfield 102, 3, 0, (12, 33, 16, 2, 25, 0)), (148, .iload 5, 2, 0, (0, 0, 0, 0, 0, 0)), (150, .iaload, 1, 0, (13, 44, 0, 0, 0, 0)), (151, .aload_n 0, 1, 0, (0, 0, 0, 0, 0, 0)), (152, .getfield 102, 3, 0, (12, 33, 16, 2, 25, 0)), (155, .iload 4, 2, 0, (0, 0, 0, 0, 0, 0)), (157, .iaload, 1, 0, (13, 44, 0, 0, 0, 0)), (158, .if_icmp .ne 24, 3, 0, (0, 0, 0, 0, 0, 0)), (161, .aload_n 0, 1, 0, (0, 0, 0, 0, 0, 0)), (162, .getfield 96, 3, 0, (12, 31, 16, 2, 23, 0)), (165, .iload 5, 2, 0, (0, 0, 0, 0, 0, 0)), (167, .iaload, 1, 0, (13, 44, 0, 0, 0, 0)), (168, .aload_n 0, 1, 0, (0, 0, 0, 0, 0, 0)), (169, .getfield 96, 3, 0, (12, 31, 16, 2, 23, 0)), (172, .iload 4, 2, 0, (0, 0, 0, 0, 0, 0)), (174, .iaload, 1, 0, (13, 44, 0, 0, 0, 0)), (175, .if_icmp .ge 7, 3, 0, (0, 0, 0, 0, 0, 0)), (178, .iconst 1, 1, 0, (0, 0, 0, 0, 0, 1)), (179, .goto 4, 3, 0, (0, 0, 0, 0, 0, 0)), (182, .iconst 0, 1, 0, (0, 0, 0, 0, 0, 0)), (183, .istore 7, 2, 0, (0, 0, 0, 0, 0, 0)), (185, .iload 7, 2, 0, (0, 0, 0, 0, 0, 0)), (187, .ifCond .eq 8, 3, 0, (0, 0, 0, 0, 0, 0)), (190, .iload 5, 2, 0, (0, 0, 0, 0, 0, 0)), (192, .goto 5, 3, 0, (0, 0, 0, 0, 0, 0)), (195, .iload 4, 2, 0, (0, 0, 0, 0, 0, 0)), (197, .istore 4, 2, 0, (0, 0, 0, 0, 0, 0)), (199, .iinc 5 1, 3, 0, (0, 0, 0, 0, 0, 1)), (202, .goto (-196), 3, 0, (0, 0, 0, 0, 0, 0)), (205, .iload 4, 2, 0, (0, 0, 0, 0, 0, 0)), (207, .ireturn, 1, 0, (0, 0, 0, 0, 0, 0))]
set_option maxRecDepth 100000 in
theorem rk270 : R270.all (rok 2 270 1 [(238, [15, 0, 0, 0]), (239, [0, 0, 0])]) = true := by decide +kernel
set_option maxRecDepth 100000 in
theorem tab270 {F238 : PM → Int32 → Int32 → Int32 → Int32} {G238 : PM → Int32 → Int32 → Int32 → Prop} {F239 : PM → Int32 → Int32 → Int32 → Int32} {G239 : PM → Int32 → Int32 → Int32 → Prop} : TabOK 2 270 1 [CC238 F238 G238, CC239 F239 G239] R270 := tab_ok (K := K270) rfl rfl (fun h => d270 h) rk270 (by decide +kernel)
set_option maxRecDepth 100000 in
theorem pc270 : cutpc [6, 54, 134] R270 = true := by decide +kernel
set_option maxRecDepth 100000 in
theorem r12_firstIn_134 (p : PM) (hg : Gr 2 p) (F238 : PM → Int32 → Int32 → Int32 → Int32) (G238 : PM → Int32 → Int32 → Int32 → Prop) (o238 : CalOK 2 (CC238 F238 G238)) (F239 : PM → Int32 → Int32 → Int32 → Int32) (G239 : PM → Int32 → Int32 → Int32 → Prop) (o239 : CalOK 2 (CC239 F239 G239)) (kv6 : Int32 → Int32 → Int32 → Int32 → Int32 → Int32) (kg6 : Int32 → Int32 → Int32 → Int32 → Int32 → Prop) (hk6 : ∀ (v1 : Int32) (v2 : Int32) (v3 : Int32) (v4 : Int32) (v5 : Int32) (d6 d7 : ZV), kg6 v1 v2 v3 v4 v5 → ZJ 2 270 6 [zR 12 1, zI v1, zI v2, zI v3, zI v4, zI v5, d6, d7] [] p (hoI p (kv6 v1 v2 v3 v4 v5))) : ∀ (v1 : Int32) (v2 : Int32) (v3 : Int32) (v4 : Int32) (v5 : Int32) (d6 d7 : ZV), bg12_firstIn_134 p kg6 v1 v2 v3 v4 v5 → ZJ 2 270 134 [zR 12 1, zI v1, zI v2, zI v3, zI v4, zI v5, d6, d7] [] p (hoI p (bv12_firstIn_134 p kv6 v1 v2 v3 v4 v5)) := by
  intro v1 v2 v3 v4 v5 d6 d7 H
  exact roI (n := 3000) (q := 134) (la := [zR 12 1, zI v1, zI v2, zI v3, zI v4, zI v5, d6, d7]) (sa := []) (ks := [fun la sa _ => kv6 (ai la 1) (ai la 2) (ai la 3) (ai la 4) (ai la 5), fun _ _ _ => 0, fun _ _ _ => 0]) (gs := [fun la sa _ => zsw (tc2 la [(112, 1), (0, 0), (0, 0), (0, 0), (0, 0), (0, 0), (2, 0), (2, 0)] && tc2 sa []) False (kg6 (ai la 1) (ai la 2) (ai la 3) (ai la 4) (ai la 5)), fun _ _ _ => False, fun _ _ _ => False]) (fcons o238 (fcons o239 (fnil))) tab270 pc270 ⟨fun la sa s hg H => zcut H fun H => hk6 (ai la 1) (ai la 2) (ai la 3) (ai la 4) (ai la 5) (zld la 6) (zld la 7) H, fun _ _ _ _ H => H.elim, fun _ _ _ _ H => H.elim, trivial⟩ hg H
theorem t12_firstIn_134 (p : PM) (hg : Gr 2 p) (kv6 : Int32 → Int32 → Int32 → Int32 → Int32 → Int32) (kg6 : Int32 → Int32 → Int32 → Int32 → Int32 → Prop) (hk6 : ∀ (v1 : Int32) (v2 : Int32) (v3 : Int32) (v4 : Int32) (v5 : Int32) (d6 d7 : ZV), kg6 v1 v2 v3 v4 v5 → ZJ 2 270 6 [zR 12 1, zI v1, zI v2, zI v3, zI v4, zI v5, d6, d7] [] p (hoI p (kv6 v1 v2 v3 v4 v5))) : ∀ (v1 : Int32) (v2 : Int32) (v3 : Int32) (v4 : Int32) (v5 : Int32) (d6 d7 : ZV), g12_firstIn_134 p kg6 v1 v2 v3 v4 v5 → ZJ 2 270 134 [zR 12 1, zI v1, zI v2, zI v3, zI v4, zI v5, d6, d7] [] p (hoI p (v12_firstIn_134 p kv6 v1 v2 v3 v4 v5)) := r12_firstIn_134 p hg v12_isThere g12_isThere ok238 v12_isBetter g12_isBetter ok239 kv6 kg6 hk6
set_option maxRecDepth 100000 in
theorem r12_firstIn_54 (p : PM) (hg : Gr 2 p) (F238 : PM → Int32 → Int32 → Int32 → Int32) (G238 : PM → Int32 → Int32 → Int32 → Prop) (o238 : CalOK 2 (CC238 F238 G238)) (F239 : PM → Int32 → Int32 → Int32 → Int32) (G239 : PM → Int32 → Int32 → Int32 → Prop) (o239 : CalOK 2 (CC239 F239 G239)) (kv6 : Int32 → Int32 → Int32 → Int32 → Int32 → Int32) (kg6 : Int32 → Int32 → Int32 → Int32 → Int32 → Prop) (hk6 : ∀ (v1 : Int32) (v2 : Int32) (v3 : Int32) (v4 : Int32) (v5 : Int32) (d6 d7 : ZV), kg6 v1 v2 v3 v4 v5 → ZJ 2 270 6 [zR 12 1, zI v1, zI v2, zI v3, zI v4, zI v5, d6, d7] [] p (hoI p (kv6 v1 v2 v3 v4 v5))) (kv134 : Int32 → Int32 → Int32 → Int32 → Int32 → Int32) (kg134 : Int32 → Int32 → Int32 → Int32 → Int32 → Prop) (hk134 : ∀ (v1 : Int32) (v2 : Int32) (v3 : Int32) (v4 : Int32) (v5 : Int32) (d6 d7 : ZV), kg134 v1 v2 v3 v4 v5 → ZJ 2 270 134 [zR 12 1, zI v1, zI v2, zI v3, zI v4, zI v5, d6, d7] [] p (hoI p (kv134 v1 v2 v3 v4 v5))) : ∀ (v1 : Int32) (v2 : Int32) (v3 : Int32) (v4 : Int32) (v5 : Int32) (s0 : Int32) (d6 d7 : ZV), bg12_firstIn_54 p F239 G239 kg6 kg134 v1 v2 v3 v4 v5 s0 → ZJ 2 270 54 [zR 12 1, zI v1, zI v2, zI v3, zI v4, zI v5, d6, d7] [zI s0] p (hoI p (bv12_firstIn_54 p F239 kv6 kv134 v1 v2 v3 v4 v5 s0)) := by
  intro v1 v2 v3 v4 v5 s0 d6 d7 H
  exact roI (n := 3000) (q := 54) (la := [zR 12 1, zI v1, zI v2, zI v3, zI v4, zI v5, d6, d7]) (sa := [zI s0]) (ks := [fun la sa _ => kv6 (ai la 1) (ai la 2) (ai la 3) (ai la 4) (ai la 5), fun _ _ _ => 0, fun la sa _ => kv134 (ai la 1) (ai la 2) (ai la 3) (ai la 4) (ai la 5)]) (gs := [fun la sa _ => zsw (tc2 la [(112, 1), (0, 0), (0, 0), (0, 0), (0, 0), (0, 0), (2, 0), (2, 0)] && tc2 sa []) False (kg6 (ai la 1) (ai la 2) (ai la 3) (ai la 4) (ai la 5)), fun _ _ _ => False, fun la sa _ => zsw (tc2 la [(112, 1), (0, 0), (0, 0), (0, 0), (0, 0), (0, 0), (2, 0), (2, 0)] && tc2 sa []) False (kg134 (ai la 1) (ai la 2) (ai la 3) (ai la 4) (ai la 5))]) (fcons o238 (fcons o239 (fnil))) tab270 pc270 ⟨fun la sa s hg H => zcut H fun H => hk6 (ai la 1) (ai la 2) (ai la 3) (ai la 4) (ai la 5) (zld la 6) (zld la 7) H, fun _ _ _ _ H => H.elim, fun la sa s hg H => zcut H fun H => hk134 (ai la 1) (ai la 2) (ai la 3) (ai la 4) (ai la 5) (zld la 6) (zld la 7) H, trivial⟩ hg H
theorem t12_firstIn_54 (p : PM) (hg : Gr 2 p) (kv6 : Int32 → Int32 → Int32 → Int32 → Int32 → Int32) (kg6 : Int32 → Int32 → Int32 → Int32 → Int32 → Prop) (hk6 : ∀ (v1 : Int32) (v2 : Int32) (v3 : Int32) (v4 : Int32) (v5 : Int32) (d6 d7 : ZV), kg6 v1 v2 v3 v4 v5 → ZJ 2 270 6 [zR 12 1, zI v1, zI v2, zI v3, zI v4, zI v5, d6, d7] [] p (hoI p (kv6 v1 v2 v3 v4 v5))) : ∀ (v1 : Int32) (v2 : Int32) (v3 : Int32) (v4 : Int32) (v5 : Int32) (s0 : Int32) (d6 d7 : ZV), g12_firstIn_54 p kg6 v1 v2 v3 v4 v5 s0 → ZJ 2 270 54 [zR 12 1, zI v1, zI v2, zI v3, zI v4, zI v5, d6, d7] [zI s0] p (hoI p (v12_firstIn_54 p kv6 v1 v2 v3 v4 v5 s0)) := r12_firstIn_54 p hg v12_isThere g12_isThere ok238 v12_isBetter g12_isBetter ok239 kv6 kg6 hk6 (v12_firstIn_134 p kv6) (g12_firstIn_134 p kg6) (t12_firstIn_134 p hg kv6 kg6 hk6)
set_option maxRecDepth 100000 in
theorem r12_firstIn_6 (p : PM) (hg : Gr 2 p) (F238 : PM → Int32 → Int32 → Int32 → Int32) (G238 : PM → Int32 → Int32 → Int32 → Prop) (o238 : CalOK 2 (CC238 F238 G238)) (F239 : PM → Int32 → Int32 → Int32 → Int32) (G239 : PM → Int32 → Int32 → Int32 → Prop) (o239 : CalOK 2 (CC239 F239 G239)) (kv54 : Int32 → Int32 → Int32 → Int32 → Int32 → Int32 → Int32) (kg54 : Int32 → Int32 → Int32 → Int32 → Int32 → Int32 → Prop) (hk54 : ∀ (v1 : Int32) (v2 : Int32) (v3 : Int32) (v4 : Int32) (v5 : Int32) (s0 : Int32) (d6 d7 : ZV), kg54 v1 v2 v3 v4 v5 s0 → ZJ 2 270 54 [zR 12 1, zI v1, zI v2, zI v3, zI v4, zI v5, d6, d7] [zI s0] p (hoI p (kv54 v1 v2 v3 v4 v5 s0))) : ∀ (v1 : Int32) (v2 : Int32) (v3 : Int32) (v4 : Int32) (v5 : Int32) (d6 d7 : ZV), bg12_firstIn_6 p F238 G238 F239 G239 kg54 v1 v2 v3 v4 v5 → ZJ 2 270 6 [zR 12 1, zI v1, zI v2, zI v3, zI v4, zI v5, d6, d7] [] p (hoI p (bv12_firstIn_6 p F238 F239 kv54 v1 v2 v3 v4 v5)) := by
  intro v1 v2 v3 v4 v5 d6 d7 H
  exact roI (n := 3000) (q := 6) (la := [zR 12 1, zI v1, zI v2, zI v3, zI v4, zI v5, d6, d7]) (sa := []) (ks := [fun _ _ _ => 0, fun la sa _ => kv54 (ai la 1) (ai la 2) (ai la 3) (ai la 4) (ai la 5) (ai sa 0), fun _ _ _ => 0]) (gs := [fun _ _ _ => False, fun la sa _ => zsw (tc2 la [(112, 1), (0, 0), (0, 0), (0, 0), (0, 0), (0, 0), (2, 0), (2, 0)] && tc2 sa [(0, 0)]) False (kg54 (ai la 1) (ai la 2) (ai la 3) (ai la 4) (ai la 5) (ai sa 0)), fun _ _ _ => False]) (fcons o238 (fcons o239 (fnil))) tab270 pc270 ⟨fun _ _ _ _ H => H.elim, fun la sa s hg H => zcut H fun H => hk54 (ai la 1) (ai la 2) (ai la 3) (ai la 4) (ai la 5) (ai sa 0) (zld la 6) (zld la 7) H, fun _ _ _ _ H => H.elim, trivial⟩ hg H
theorem t12_firstIn_6 (p : PM) (hg : Gr 2 p) : ∀ (n : Nat), ∀ (v1 : Int32) (v2 : Int32) (v3 : Int32) (v4 : Int32) (v5 : Int32) (d6 d7 : ZV), g12_firstIn_6 p n v1 v2 v3 v4 v5 → ZJ 2 270 6 [zR 12 1, zI v1, zI v2, zI v3, zI v4, zI v5, d6, d7] [] p (hoI p (v12_firstIn_6 p n v1 v2 v3 v4 v5)) := by
  intro n
  induction n with
  | zero =>
    intro v1 v2 v3 v4 v5 d6 d7 H
    exact H.elim
  | succ n ih => exact r12_firstIn_6 p hg v12_isThere g12_isThere ok238 v12_isBetter g12_isBetter ok239 (v12_firstIn_54 p (v12_firstIn_6 p n)) (g12_firstIn_54 p (g12_firstIn_6 p n)) (t12_firstIn_54 p hg (v12_firstIn_6 p n) (g12_firstIn_6 p n) ih)
set_option maxRecDepth 100000 in
theorem r12_firstIn (p : PM) (hg : Gr 2 p) (F238 : PM → Int32 → Int32 → Int32 → Int32) (G238 : PM → Int32 → Int32 → Int32 → Prop) (o238 : CalOK 2 (CC238 F238 G238)) (F239 : PM → Int32 → Int32 → Int32 → Int32) (G239 : PM → Int32 → Int32 → Int32 → Prop) (o239 : CalOK 2 (CC239 F239 G239)) (kv6 : Int32 → Int32 → Int32 → Int32 → Int32 → Int32) (kg6 : Int32 → Int32 → Int32 → Int32 → Int32 → Prop) (hk6 : ∀ (v1 : Int32) (v2 : Int32) (v3 : Int32) (v4 : Int32) (v5 : Int32) (d6 d7 : ZV), kg6 v1 v2 v3 v4 v5 → ZJ 2 270 6 [zR 12 1, zI v1, zI v2, zI v3, zI v4, zI v5, d6, d7] [] p (hoI p (kv6 v1 v2 v3 v4 v5))) : ∀ (v1 : Int32) (v2 : Int32) (v3 : Int32), bg12_firstIn p kg6 v1 v2 v3 → ZJ 2 270 0 [zR 12 1, zI v1, zI v2, zI v3, zJ, zJ, zJ, zJ] [] p (hoI p (bv12_firstIn p kv6 v1 v2 v3)) := by
  intro v1 v2 v3  H
  exact roI (n := 3000) (q := 0) (la := [zR 12 1, zI v1, zI v2, zI v3, zJ, zJ, zJ, zJ]) (sa := []) (ks := [fun la sa _ => kv6 (ai la 1) (ai la 2) (ai la 3) (ai la 4) (ai la 5), fun _ _ _ => 0, fun _ _ _ => 0]) (gs := [fun la sa _ => zsw (tc2 la [(112, 1), (0, 0), (0, 0), (0, 0), (0, 0), (0, 0), (2, 0), (2, 0)] && tc2 sa []) False (kg6 (ai la 1) (ai la 2) (ai la 3) (ai la 4) (ai la 5)), fun _ _ _ => False, fun _ _ _ => False]) (fcons o238 (fcons o239 (fnil))) tab270 pc270 ⟨fun la sa s hg H => zcut H fun H => hk6 (ai la 1) (ai la 2) (ai la 3) (ai la 4) (ai la 5) (zld la 6) (zld la 7) H, fun _ _ _ _ H => H.elim, fun _ _ _ _ H => H.elim, trivial⟩ hg H
theorem t12_firstIn (p : PM) (hg : Gr 2 p) : ∀ (v1 : Int32) (v2 : Int32) (v3 : Int32), g12_firstIn p v1 v2 v3 → ZJ 2 270 0 [zR 12 1, zI v1, zI v2, zI v3, zJ, zJ, zJ, zJ] [] p (hoI p (v12_firstIn p v1 v2 v3)) := r12_firstIn p hg v12_isThere g12_isThere ok238 v12_isBetter g12_isBetter ok239 (v12_firstIn_6 p FU) (g12_firstIn_6 p FU) (t12_firstIn_6 p hg FU)
def CC270 (F : PM → Int32 → Int32 → Int32 → Int32) (G : PM → Int32 → Int32 → Int32 → Prop) : Cal := (270, [15, 0, 0, 0], 1, true, fun as p => (zI (F p (ai as 1) (ai as 2) (ai as 3)), p), fun as p => zsw (tc2 as [(112, 1), (0, 0), (0, 0), (0, 0)]) False (G p (ai as 1) (ai as 2) (ai as 3)))
set_option maxRecDepth 100000 in
theorem okr270 (F : PM → Int32 → Int32 → Int32 → Int32) (G : PM → Int32 → Int32 → Int32 → Prop) (h : ∀ (p : PM) (v1 : Int32) (v2 : Int32) (v3 : Int32), Gr 2 p → G p v1 v2 v3 → ZJ 2 270 0 [zR 12 1, zI v1, zI v2, zI v3, zJ, zJ, zJ, zJ] [] p (hoI p (F p v1 v2 v3))) : CalOK 2 (CC270 F G) := cal_ok (m := 8) (by unfold mL; rw [mX_270]) (fun as p hg H => h p (ai as 1) (ai as 2) (ai as 3) hg H)
theorem ok270 : CalOK 2 (CC270 v12_firstIn g12_firstIn) := okr270 v12_firstIn g12_firstIn (fun p v1 v2 v3 hg H => t12_firstIn p hg v1 v2 v3 H)
noncomputable def bv12_tradesAll_17 (F233 : PM → Int32 → Int32 → Int32 → Int32 → Int32 → PM) (F236 : PM → Int32 → Int32 → Int32 → PM) (F237 : PM → Int32 → PM) (F244 : PM → Int32 → Int32 → Int32) (F270 : PM → Int32 → Int32 → Int32 → Int32) (kv17 : PM → Int32 → Int32 → Int32 → Int32 → PM) (p : PM) (v1 : Int32) (v2 : Int32) (v3 : Int32) (v4 : Int32) : PM :=
  if v3 < 0 then (
    p)
  else (
    if v4 < 0 then (
      p)
    else (
      let x1 : Int32 := (F244 p (p.1 13 17 (v3).toNatClampNeg) (p.1 13 17 (v4).toNatClampNeg))
      let p2 : PM := F233 p v1 (p.1 13 15 (v3).toNatClampNeg) (p.1 13 15 (v4).toNatClampNeg) v2 x1
      let p3 : PM := F236 p2 v3 x1 (cn 0)
      let p4 : PM := F236 p3 v4 x1 (cn 0)
      let p5 : PM := F237 p4 v3
      let p6 : PM := F237 p5 v4
      let x7 : Int32 := (F270 p6 v1 (cn 1) v2)
      let x8 : Int32 := (F270 p6 v1 (cn 0) v2)
      kv17 p6 v1 v2 x7 x8))
noncomputable def v12_tradesAll_17 (n : Nat) : PM → Int32 → Int32 → Int32 → Int32 → PM := Nat.rec (motive := fun _ => PM → Int32 → Int32 → Int32 → Int32 → PM) (fun p _ _ _ _ => p) (fun _ ih => bv12_tradesAll_17 v12_deals v12_falls v12_guards v12_least v12_firstIn ih) n
theorem ev12_tradesAll_17 (n : Nat) (p : PM) (v1 : Int32) (v2 : Int32) (v3 : Int32) (v4 : Int32) : v12_tradesAll_17 (n + 1) p v1 v2 v3 v4 = bv12_tradesAll_17 v12_deals v12_falls v12_guards v12_least v12_firstIn (v12_tradesAll_17 n) p v1 v2 v3 v4 := rfl
noncomputable def bg12_tradesAll_17 (F233 : PM → Int32 → Int32 → Int32 → Int32 → Int32 → PM) (G233 : PM → Int32 → Int32 → Int32 → Int32 → Int32 → Prop) (F236 : PM → Int32 → Int32 → Int32 → PM) (G236 : PM → Int32 → Int32 → Int32 → Prop) (F237 : PM → Int32 → PM) (G237 : PM → Int32 → Prop) (F244 : PM → Int32 → Int32 → Int32) (G244 : PM → Int32 → Int32 → Prop) (F270 : PM → Int32 → Int32 → Int32 → Int32) (G270 : PM → Int32 → Int32 → Int32 → Prop) (kg17 : PM → Int32 → Int32 → Int32 → Int32 → Prop) (p : PM) (v1 : Int32) (v2 : Int32) (v3 : Int32) (v4 : Int32) : Prop :=
  if v3 < 0 then (
    True)
  else (
    if v4 < 0 then (
      True)
    else (
      (inb v3 44) ∧ (
      (inb v4 44) ∧ (
      (G244 p (p.1 13 17 (v3).toNatClampNeg) (p.1 13 17 (v4).toNatClampNeg)) ∧ (
      let x1 : Int32 := (F244 p (p.1 13 17 (v3).toNatClampNeg) (p.1 13 17 (v4).toNatClampNeg))
      (inb v3 44) ∧ (
      (inb v4 44) ∧ (
      (G233 p v1 (p.1 13 15 (v3).toNatClampNeg) (p.1 13 15 (v4).toNatClampNeg) v2 x1) ∧ (
      let p2 : PM := F233 p v1 (p.1 13 15 (v3).toNatClampNeg) (p.1 13 15 (v4).toNatClampNeg) v2 x1
      (G236 p2 v3 x1 (cn 0)) ∧ (
      let p3 : PM := F236 p2 v3 x1 (cn 0)
      (G236 p3 v4 x1 (cn 0)) ∧ (
      let p4 : PM := F236 p3 v4 x1 (cn 0)
      (G237 p4 v3) ∧ (
      let p5 : PM := F237 p4 v3
      (G237 p5 v4) ∧ (
      let p6 : PM := F237 p5 v4
      (G270 p6 v1 (cn 1) v2) ∧ (
      let x7 : Int32 := (F270 p6 v1 (cn 1) v2)
      (G270 p6 v1 (cn 0) v2) ∧ (
      let x8 : Int32 := (F270 p6 v1 (cn 0) v2)
      kg17 p6 v1 v2 x7 x8))))))))))))))
noncomputable def g12_tradesAll_17 (n : Nat) : PM → Int32 → Int32 → Int32 → Int32 → Prop := Nat.rec (motive := fun _ => PM → Int32 → Int32 → Int32 → Int32 → Prop) (fun _ _ _ _ _ => False) (fun _ ih => bg12_tradesAll_17 v12_deals g12_deals v12_falls g12_falls v12_guards g12_guards v12_least g12_least v12_firstIn g12_firstIn ih) n
theorem eg12_tradesAll_17 (n : Nat) (p : PM) (v1 : Int32) (v2 : Int32) (v3 : Int32) (v4 : Int32) : g12_tradesAll_17 (n + 1) p v1 v2 v3 v4 = bg12_tradesAll_17 v12_deals g12_deals v12_falls g12_falls v12_guards g12_guards v12_least g12_least v12_firstIn g12_firstIn (g12_tradesAll_17 n) p v1 v2 v3 v4 := rfl
noncomputable def bv12_tradesAll (F270 : PM → Int32 → Int32 → Int32 → Int32) (kv17 : PM → Int32 → Int32 → Int32 → Int32 → PM) (p : PM) (v1 : Int32) (v2 : Int32) : PM :=
  let x1 : Int32 := (F270 p v1 (cn 1) v2)
  let x2 : Int32 := (F270 p v1 (cn 0) v2)
  kv17 p v1 v2 x1 x2
noncomputable def v12_tradesAll (p : PM) (v1 : Int32) (v2 : Int32) : PM := bv12_tradesAll v12_firstIn (v12_tradesAll_17 FU) p v1 v2
noncomputable def bg12_tradesAll (F270 : PM → Int32 → Int32 → Int32 → Int32) (G270 : PM → Int32 → Int32 → Int32 → Prop) (kg17 : PM → Int32 → Int32 → Int32 → Int32 → Prop) (p : PM) (v1 : Int32) (v2 : Int32) : Prop :=
  (G270 p v1 (cn 1) v2) ∧ (
  let x1 : Int32 := (F270 p v1 (cn 1) v2)
  (G270 p v1 (cn 0) v2) ∧ (
  let x2 : Int32 := (F270 p v1 (cn 0) v2)
  kg17 p v1 v2 x1 x2))
noncomputable def g12_tradesAll (p : PM) (v1 : Int32) (v2 : Int32) : Prop := bg12_tradesAll v12_firstIn g12_firstIn (g12_tradesAll_17 FU) p v1 v2
def R271 : List Row := [(0, .aload_n 0, 1, 0, (0, 0, 0, 0, 0, 0)), (1, .iload_n 1, 1, 0, (0, 0, 0, 0, 0, 0)), (2, .iconst 1, 1, 0, (0, 0, 0, 0, 0, 1)), (3, .iload_n 2, 1, 0, (0, 0, 0, 0, 0, 0)), (4, .invokevirtual 381, 3, 0, (0, 4, 0, 0, 1, 0)), (7, .istore_n 3, 1, 0, (0, 0, 0, 0, 0, 0)), (8, .aload_n 0, 1, 0, (0, 0, 0, 0, 0, 0)), (9, .iload_n 1, 1, 0, (0, 0, 0, 0, 0, 0)), (10, .iconst 0, 1, 0, (0, 0, 0, 0, 0, 0)), (11, .iload_n 2, 1, 0, (0, 0, 0, 0, 0, 0)), (12, .invokevirtual 381, 3, 0, (0, 4, 0, 0, 1, 0)), (15, .istore 4, 2, 0, (0, 0, 0, 0, 0, 0)), (17, .iload_n 3, 1, 1, (0, 0, 0, 0, 0, 0)), (18, .ifCond .lt 96, 3, 0, (0, 0, 0, 0, 0, 0)), (21, .iload 4, 2, 0, (0, 0, 0, 0, 0, 0)), (23, .ifCond .lt 91, 3, 0, (0, 0, 0, 0, 0, 0)), (26, .aload_n 0, 1, 0, (0, 0, 0, 0, 0, 0)), (27, .aload_n 0, 1, 0, (0, 0, 0, 0, 0, 0)), (28, .getfield 75, 3, 0, (12, 24, 16, 2, 17, 0)), (31, .iload_n 3, 1, 0, (0, 0, 0, 0, 0, 0)), (32, .iaload, 1, 0, (13, 44, 0, 0, 0, 0)), (33, .aload_n 0, 1, 0, (0, 0, 0, 0, 0, 0)), (34, .getfield 75, 3, 0, (12, 24, 16, 2, 17, 0)), (37, .iload 4, 2, 0, (0, 0, 0, 0, 0, 0)), (39, .iaload, 1, 0, (13, 44, 0, 0, 0, 0)), (40, .invokevirtual 261, 3, 0, (1, 3, 0, 0, 1, 0)), (43, .istore 5, 2, 0, (0, 0, 0, 0, 0, 0)), (45, .aload_n 0, 1, 0, (0, 0, 0, 0, 0, 0)), (46, .iload_n 1, 1, 0, (0, 0, 0, 0, 0, 0)), (47, .aload_n 0, 1, 0, (0, 0, 0, 0, 0, 0)), (48, .getfield 66, 3, 0, (12, 21, 16, 2, 15, 0)), (51, .iload_n 3, 1, 0, (0, 0, 0, 0, 0, 0)), (52, .iaload, 1, 0, (13, 44, 0, 0, 0, 0)), (53, .aload_n 0, 1, 0, (0, 0, 0, 0, 0, 0)), (54, .getfield 66, 3, 0, (12, 21, 16, 2, 15, 0)), (57, .iload 4, 2, 0, (0, 0, 0, 0, 0, 0)), (59, .iaload, 1, 0, (13, 44, 0, 0, 0, 0)), (60, .iload_n 2, 1, 0, (0, 0, 0, 0, 0, 0)), (61, .iload 5, 2, 0, (0, 0, 0, 0, 0, 0)), (63, .invokevirtual 269, 3, 0, (2, 6, 0, 0, 1, 0)), (66, .aload_n 0, 1, 0, (0, 0, 0, 0, 0, 0)), (67, .iload_n 3, 1, 0, (0, 0, 0, 0, 0, 0)), (68, .iload 5, 2, 0, (0, 0, 0, 0, 0, 0)), (70, .iconst 0, 1, 0, (0, 0, 0, 0, 0, 0)), (71, .invokevirtual 273, 3, 0, (3, 4, 0, 0, 1, 0)), (74, .aload_n 0, 1, 0, (0, 0, 0, 0, 0, 0)), (75, .iload 4, 2, 0, (0, 0, 0, 0, 0, 0)), (77, .iload 5, 2, 0, (0, 0, 0, 0, 0, 0)), (79, .iconst 0, 1, 0, (0, 0, 0, 0, 0, 0)), (80, .invokevirtual 273, 3, 0, (3, 4, 0, 0, 1, 0)), (83, .aload_n 0, 1, 0, (0, 0, 0, 0, 0, 0)), (84, .iload_n 3, 1, 0, (0, 0, 0, 0, 0, 0)), (85, .invokevirtual 277, 3, 0, (4, 2, 0, 0, 1, 0)), (88, .aload_n 0, 1, 0, (0, 0, 0, 0, 0, 0)), (89, .iload 4, 2, 0, (0, 0, 0, 0, 0, 0)), (91, .invokevirtual 277, 3, 0, (4, 2, 0, 0, 1, 0)), (94, .aload_n 0, 1, 0, (0, 0, 0, 0, 0, 0)), (95, .iload_n 1, 1, 0, (0, 0, 0, 0, 0, 0)), (96, .iconst 1, 1, 0, (0, 0, 0, 0, 0, 1)), (97, .iload_n 2, 1, 0, (0, 0, 0, 0, 0, 0)), (98, .invokevirtual 381, 3, 0, (0, 4, 0, 0, 1, 0)), (101, .istore_n 3, 1, 0, (0, 0, 0, 0, 0, 0)), (102, .aload_n 0, 1, 0, (0, 0, 0, 0, 0, 0)), (103, .iload_n 1, 1, 0, (0, 0, 0, 0, 0, 0)), (104, .iconst 0, 1, 0, (0, 0, 0, 0, 0, 0)), (105, .iload_n 2, 1, 0, (0, 0, 0, 0, 0, 0)), (106, .invokevirtual 381, 3, 0, (0, 4, 0, 0, 1, 0)), (109, .istore 4, 2, 0, (0, 0, 0, 0, 0, 0)), (111, .goto (-94), 3, 0, (0, 0, 0, 0, 0, 0)), (114, .return_, 1, 0, (0, 0, 0, 0, 0, 0))]
set_option maxRecDepth 100000 in
theorem rk271 : R271.all (rok 2 271 0 [(270, [15, 0, 0, 0]), (244, [15, 0, 0]), (233, [15, 0, 0, 0, 0, 0]), (236, [15, 0, 0, 0]), (237, [15, 0])]) = true := by decide +kernel
set_option maxRecDepth 100000 in
theorem tab271 {F270 : PM → Int32 → Int32 → Int32 → Int32} {G270 : PM → Int32 → Int32 → Int32 → Prop} {F244 : PM → Int32 → Int32 → Int32} {G244 : PM → Int32 → Int32 → Prop} {F233 : PM → Int32 → Int32 → Int32 → Int32 → Int32 → PM} {G233 : PM → Int32 → Int32 → Int32 → Int32 → Int32 → Prop} {F236 : PM → Int32 → Int32 → Int32 → PM} {G236 : PM → Int32 → Int32 → Int32 → Prop} {F237 : PM → Int32 → PM} {G237 : PM → Int32 → Prop} : TabOK 2 271 0 [CC270 F270 G270, CC244 F244 G244, CC233 F233 G233, CC236 F236 G236, CC237 F237 G237] R271 := tab_ok (K := K271) rfl rfl (fun h => d271 h) rk271 (by decide +kernel)
set_option maxRecDepth 100000 in
theorem pc271 : cutpc [17] R271 = true := by decide +kernel
set_option maxRecDepth 100000 in
theorem r12_tradesAll_17 (F270 : PM → Int32 → Int32 → Int32 → Int32) (G270 : PM → Int32 → Int32 → Int32 → Prop) (o270 : CalOK 2 (CC270 F270 G270)) (F244 : PM → Int32 → Int32 → Int32) (G244 : PM → Int32 → Int32 → Prop) (o244 : CalOK 2 (CC244 F244 G244)) (F233 : PM → Int32 → Int32 → Int32 → Int32 → Int32 → PM) (G233 : PM → Int32 → Int32 → Int32 → Int32 → Int32 → Prop) (o233 : CalOK 2 (CC233 F233 G233)) (F236 : PM → Int32 → Int32 → Int32 → PM) (G236 : PM → Int32 → Int32 → Int32 → Prop) (o236 : CalOK 2 (CC236 F236 G236)) (F237 : PM → Int32 → PM) (G237 : PM → Int32 → Prop) (o237 : CalOK 2 (CC237 F237 G237)) (kv17 : PM → Int32 → Int32 → Int32 → Int32 → PM) (kg17 : PM → Int32 → Int32 → Int32 → Int32 → Prop) (hk17 : ∀ (p : PM) (v1 : Int32) (v2 : Int32) (v3 : Int32) (v4 : Int32) (d5 : ZV), Gr 2 p → kg17 p v1 v2 v3 v4 → ZJ 2 271 17 [zR 12 1, zI v1, zI v2, zI v3, zI v4, d5] [] p (hwV (kv17 p v1 v2 v3 v4))) : ∀ (p : PM) (v1 : Int32) (v2 : Int32) (v3 : Int32) (v4 : Int32) (d5 : ZV), Gr 2 p → bg12_tradesAll_17 F233 G233 F236 G236 F237 G237 F244 G244 F270 G270 kg17 p v1 v2 v3 v4 → ZJ 2 271 17 [zR 12 1, zI v1, zI v2, zI v3, zI v4, d5] [] p (hwV (bv12_tradesAll_17 F233 F236 F237 F244 F270 kv17 p v1 v2 v3 v4)) := by
  intro p v1 v2 v3 v4 d5 hg H
  exact rwV (n := 3000) (q := 17) (la := [zR 12 1, zI v1, zI v2, zI v3, zI v4, d5]) (sa := []) (ks := [fun la sa s => kv17 s (ai la 1) (ai la 2) (ai la 3) (ai la 4)]) (gs := [fun la sa s => zsw (tc2 la [(112, 1), (0, 0), (0, 0), (0, 0), (0, 0), (2, 0)] && tc2 sa []) False (kg17 s (ai la 1) (ai la 2) (ai la 3) (ai la 4))]) (fcons o270 (fcons o244 (fcons o233 (fcons o236 (fcons o237 (fnil)))))) tab271 pc271 ⟨fun la sa s hg H => zcut H fun H => hk17 s (ai la 1) (ai la 2) (ai la 3) (ai la 4) (zld la 5) hg H, trivial⟩ hg H
theorem t12_tradesAll_17 : ∀ (n : Nat), ∀ (p : PM) (v1 : Int32) (v2 : Int32) (v3 : Int32) (v4 : Int32) (d5 : ZV), Gr 2 p → g12_tradesAll_17 n p v1 v2 v3 v4 → ZJ 2 271 17 [zR 12 1, zI v1, zI v2, zI v3, zI v4, d5] [] p (hwV (v12_tradesAll_17 n p v1 v2 v3 v4)) := by
  intro n
  induction n with
  | zero =>
    intro p v1 v2 v3 v4 d5 hg H
    exact H.elim
  | succ n ih => exact r12_tradesAll_17 v12_firstIn g12_firstIn ok270 v12_least g12_least ok244 v12_deals g12_deals ok233 v12_falls g12_falls ok236 v12_guards g12_guards ok237 (v12_tradesAll_17 n) (g12_tradesAll_17 n) ih
set_option maxRecDepth 100000 in
theorem r12_tradesAll (F270 : PM → Int32 → Int32 → Int32 → Int32) (G270 : PM → Int32 → Int32 → Int32 → Prop) (o270 : CalOK 2 (CC270 F270 G270)) (F244 : PM → Int32 → Int32 → Int32) (G244 : PM → Int32 → Int32 → Prop) (o244 : CalOK 2 (CC244 F244 G244)) (F233 : PM → Int32 → Int32 → Int32 → Int32 → Int32 → PM) (G233 : PM → Int32 → Int32 → Int32 → Int32 → Int32 → Prop) (o233 : CalOK 2 (CC233 F233 G233)) (F236 : PM → Int32 → Int32 → Int32 → PM) (G236 : PM → Int32 → Int32 → Int32 → Prop) (o236 : CalOK 2 (CC236 F236 G236)) (F237 : PM → Int32 → PM) (G237 : PM → Int32 → Prop) (o237 : CalOK 2 (CC237 F237 G237)) (kv17 : PM → Int32 → Int32 → Int32 → Int32 → PM) (kg17 : PM → Int32 → Int32 → Int32 → Int32 → Prop) (hk17 : ∀ (p : PM) (v1 : Int32) (v2 : Int32) (v3 : Int32) (v4 : Int32) (d5 : ZV), Gr 2 p → kg17 p v1 v2 v3 v4 → ZJ 2 271 17 [zR 12 1, zI v1, zI v2, zI v3, zI v4, d5] [] p (hwV (kv17 p v1 v2 v3 v4))) : ∀ (p : PM) (v1 : Int32) (v2 : Int32), Gr 2 p → bg12_tradesAll F270 G270 kg17 p v1 v2 → ZJ 2 271 0 [zR 12 1, zI v1, zI v2, zJ, zJ, zJ] [] p (hwV (bv12_tradesAll F270 kv17 p v1 v2)) := by
  intro p v1 v2  hg H
  exact rwV (n := 3000) (q := 0) (la := [zR 12 1, zI v1, zI v2, zJ, zJ, zJ]) (sa := []) (ks := [fun la sa s => kv17 s (ai la 1) (ai la 2) (ai la 3) (ai la 4)]) (gs := [fun la sa s => zsw (tc2 la [(112, 1), (0, 0), (0, 0), (0, 0), (0, 0), (2, 0)] && tc2 sa []) False (kg17 s (ai la 1) (ai la 2) (ai la 3) (ai la 4))]) (fcons o270 (fcons o244 (fcons o233 (fcons o236 (fcons o237 (fnil)))))) tab271 pc271 ⟨fun la sa s hg H => zcut H fun H => hk17 s (ai la 1) (ai la 2) (ai la 3) (ai la 4) (zld la 5) hg H, trivial⟩ hg H
theorem t12_tradesAll : ∀ (p : PM) (v1 : Int32) (v2 : Int32), Gr 2 p → g12_tradesAll p v1 v2 → ZJ 2 271 0 [zR 12 1, zI v1, zI v2, zJ, zJ, zJ] [] p (hwV (v12_tradesAll p v1 v2)) := r12_tradesAll v12_firstIn g12_firstIn ok270 v12_least g12_least ok244 v12_deals g12_deals ok233 v12_falls g12_falls ok236 v12_guards g12_guards ok237 (v12_tradesAll_17 FU) (g12_tradesAll_17 FU) (t12_tradesAll_17 FU)
def CC271 (F : PM → Int32 → Int32 → PM) (G : PM → Int32 → Int32 → Prop) : Cal := (271, [15, 0, 0], 0, false, fun as p => (zJ, (F p (ai as 1) (ai as 2))), fun as p => zsw (tc2 as [(112, 1), (0, 0), (0, 0)]) False (G p (ai as 1) (ai as 2)))
set_option maxRecDepth 100000 in
theorem okr271 (F : PM → Int32 → Int32 → PM) (G : PM → Int32 → Int32 → Prop) (h : ∀ (p : PM) (v1 : Int32) (v2 : Int32), Gr 2 p → G p v1 v2 → ZJ 2 271 0 [zR 12 1, zI v1, zI v2, zJ, zJ, zJ] [] p (hwV (F p v1 v2))) : CalOK 2 (CC271 F G) := cal_ok (m := 6) (by unfold mL; rw [mX_271]) (fun as p hg H => h p (ai as 1) (ai as 2) hg H)
theorem ok271 : CalOK 2 (CC271 v12_tradesAll g12_tradesAll) := okr271 v12_tradesAll g12_tradesAll t12_tradesAll
noncomputable def bv12_endsAuction_92 (F227 : PM → Int32 → PM) (F267 : PM → PM) (kv92 : PM → Int32 → Int32 → PM) (p : PM) (v1 : Int32) (v2 : Int32) : PM :=
  if v2 < (cn 44) then (
    if (p.1 15 3 (v2).toNatClampNeg) = 0 then (
      kv92 p v1 (v2 + (cn 1)))
    else (
      if (p.1 13 16 (v2).toNatClampNeg) = v1 then (
        if (p.1 13 24 (v2).toNatClampNeg) = (cn 1) then (
          if (p.1 15 5 (v2).toNatClampNeg) = 0 then (
            let p4 : PM := pI p 15 3 (v2).toNatClampNeg (cn 1)
            if (p4.1 13 19 (v2).toNatClampNeg) = (cn 1) then (
              let p5 : PM := F227 p4 v2
              kv92 p5 v1 (v2 + (cn 1)))
            else (
              kv92 p4 v1 (v2 + (cn 1))))
          else (
            let p2 : PM := pI p 15 3 (v2).toNatClampNeg (cn 0)
            if (p2.1 13 19 (v2).toNatClampNeg) = (cn 1) then (
              let p3 : PM := F227 p2 v2
              kv92 p3 v1 (v2 + (cn 1)))
            else (
              kv92 p2 v1 (v2 + (cn 1)))))
        else (
          kv92 p v1 (v2 + (cn 1))))
      else (
        kv92 p v1 (v2 + (cn 1)))))
  else (
    let p1 : PM := F267 p
    p1)
noncomputable def v12_endsAuction_92 (n : Nat) : PM → Int32 → Int32 → PM := Nat.rec (motive := fun _ => PM → Int32 → Int32 → PM) (fun p _ _ => p) (fun _ ih => bv12_endsAuction_92 v12_showsAnew v12_works ih) n
theorem ev12_endsAuction_92 (n : Nat) (p : PM) (v1 : Int32) (v2 : Int32) : v12_endsAuction_92 (n + 1) p v1 v2 = bv12_endsAuction_92 v12_showsAnew v12_works (v12_endsAuction_92 n) p v1 v2 := rfl
noncomputable def bg12_endsAuction_92 (F227 : PM → Int32 → PM) (G227 : PM → Int32 → Prop) (F267 : PM → PM) (G267 : PM → Prop) (kg92 : PM → Int32 → Int32 → Prop) (p : PM) (v1 : Int32) (v2 : Int32) : Prop :=
  if v2 < (cn 44) then (
    (inb v2 44) ∧ (
    if (p.1 15 3 (v2).toNatClampNeg) = 0 then (
      kg92 p v1 (v2 + (cn 1)))
    else (
      (inb v2 44) ∧ (
      if (p.1 13 16 (v2).toNatClampNeg) = v1 then (
        (inb v2 44) ∧ (
        if (p.1 13 24 (v2).toNatClampNeg) = (cn 1) then (
          (inb v2 44) ∧ (
          if (p.1 15 5 (v2).toNatClampNeg) = 0 then (
            (inb v2 44) ∧ (
            let p4 : PM := pI p 15 3 (v2).toNatClampNeg (cn 1)
            (inb v2 44) ∧ (
            if (p4.1 13 19 (v2).toNatClampNeg) = (cn 1) then (
              (G227 p4 v2) ∧ (
              let p5 : PM := F227 p4 v2
              kg92 p5 v1 (v2 + (cn 1))))
            else (
              kg92 p4 v1 (v2 + (cn 1))))))
          else (
            (inb v2 44) ∧ (
            let p2 : PM := pI p 15 3 (v2).toNatClampNeg (cn 0)
            (inb v2 44) ∧ (
            if (p2.1 13 19 (v2).toNatClampNeg) = (cn 1) then (
              (G227 p2 v2) ∧ (
              let p3 : PM := F227 p2 v2
              kg92 p3 v1 (v2 + (cn 1))))
            else (
              kg92 p2 v1 (v2 + (cn 1))))))))
        else (
          kg92 p v1 (v2 + (cn 1)))))
      else (
        kg92 p v1 (v2 + (cn 1)))))))
  else (
    (G267 p) ∧ (
    let p1 : PM := F267 p
    True))
noncomputable def g12_endsAuction_92 (n : Nat) : PM → Int32 → Int32 → Prop := Nat.rec (motive := fun _ => PM → Int32 → Int32 → Prop) (fun _ _ _ => False) (fun _ ih => bg12_endsAuction_92 v12_showsAnew g12_showsAnew v12_works g12_works ih) n
theorem eg12_endsAuction_92 (n : Nat) (p : PM) (v1 : Int32) (v2 : Int32) : g12_endsAuction_92 (n + 1) p v1 v2 = bg12_endsAuction_92 v12_showsAnew g12_showsAnew v12_works g12_works (g12_endsAuction_92 n) p v1 v2 := rfl
noncomputable def bv12_endsAuction (F220 : PM → Int32 → Int32 → Int32) (F269 : PM → Int32 → PM) (F271 : PM → Int32 → Int32 → PM) (kv92 : PM → Int32 → Int32 → PM) (p : PM) (v1 : Int32) : PM :=
  let p1 : PM := F269 p v1
  if (p1.1 12 1 65) = (cn (-100000)) then (
    if (p1.1 12 1 65) = (cn (-100000)) then (
      let p2 : PM := pI p1 13 12 (v1).toNatClampNeg (cn (-100000))
      kv92 p2 v1 (cn 0))
    else (
      let p3 : PM := F271 p1 v1 (p1.1 12 1 65)
      let p4 : PM := pI p3 13 11 (v1).toNatClampNeg (p1.1 12 1 65)
      let p5 : PM := pI p4 13 12 (v1).toNatClampNeg (cn (-100000))
      kv92 p5 v1 (cn 0)))
  else (
    if (F220 p1 v1 (p1.1 12 1 65)) = 0 then (
      if (p1.1 15 2 (v1).toNatClampNeg) = 0 then (
        let p14 : PM := pI p1 15 2 (v1).toNatClampNeg (cn 1)
        let p15 : PM := pI p14 13 12 (v1).toNatClampNeg ((p14.1 12 1 17) + (cn 5))
        p15)
      else (
        if (p1.1 12 1 65) = (cn (-100000)) then (
          let p10 : PM := pI p1 13 12 (v1).toNatClampNeg (cn (-100000))
          kv92 p10 v1 (cn 0))
        else (
          let p11 : PM := F271 p1 v1 (p1.1 12 1 65)
          let p12 : PM := pI p11 13 11 (v1).toNatClampNeg (p1.1 12 1 65)
          let p13 : PM := pI p12 13 12 (v1).toNatClampNeg (cn (-100000))
          kv92 p13 v1 (cn 0))))
    else (
      if (p1.1 12 1 65) = (cn (-100000)) then (
        let p6 : PM := pI p1 13 12 (v1).toNatClampNeg (cn (-100000))
        kv92 p6 v1 (cn 0))
      else (
        let p7 : PM := F271 p1 v1 (p1.1 12 1 65)
        let p8 : PM := pI p7 13 11 (v1).toNatClampNeg (p1.1 12 1 65)
        let p9 : PM := pI p8 13 12 (v1).toNatClampNeg (cn (-100000))
        kv92 p9 v1 (cn 0))))
noncomputable def v12_endsAuction (p : PM) (v1 : Int32) : PM := bv12_endsAuction v12_isNear v12_finds v12_tradesAll (v12_endsAuction_92 FU) p v1
noncomputable def bg12_endsAuction (F220 : PM → Int32 → Int32 → Int32) (G220 : PM → Int32 → Int32 → Prop) (F269 : PM → Int32 → PM) (G269 : PM → Int32 → Prop) (F271 : PM → Int32 → Int32 → PM) (G271 : PM → Int32 → Int32 → Prop) (kg92 : PM → Int32 → Int32 → Prop) (p : PM) (v1 : Int32) : Prop :=
  (G269 p v1) ∧ (
  let p1 : PM := F269 p v1
  if (p1.1 12 1 65) = (cn (-100000)) then (
    if (p1.1 12 1 65) = (cn (-100000)) then (
      (inb v1 6) ∧ (
      let p2 : PM := pI p1 13 12 (v1).toNatClampNeg (cn (-100000))
      kg92 p2 v1 (cn 0)))
    else (
      (G271 p1 v1 (p1.1 12 1 65)) ∧ (
      let p3 : PM := F271 p1 v1 (p1.1 12 1 65)
      (inb v1 6) ∧ (
      let p4 : PM := pI p3 13 11 (v1).toNatClampNeg (p1.1 12 1 65)
      (inb v1 6) ∧ (
      let p5 : PM := pI p4 13 12 (v1).toNatClampNeg (cn (-100000))
      kg92 p5 v1 (cn 0))))))
  else (
    (G220 p1 v1 (p1.1 12 1 65)) ∧ (
    if (F220 p1 v1 (p1.1 12 1 65)) = 0 then (
      (inb v1 6) ∧ (
      if (p1.1 15 2 (v1).toNatClampNeg) = 0 then (
        (inb v1 6) ∧ (
        let p14 : PM := pI p1 15 2 (v1).toNatClampNeg (cn 1)
        (inb v1 6) ∧ (
        let p15 : PM := pI p14 13 12 (v1).toNatClampNeg ((p14.1 12 1 17) + (cn 5))
        True)))
      else (
        if (p1.1 12 1 65) = (cn (-100000)) then (
          (inb v1 6) ∧ (
          let p10 : PM := pI p1 13 12 (v1).toNatClampNeg (cn (-100000))
          kg92 p10 v1 (cn 0)))
        else (
          (G271 p1 v1 (p1.1 12 1 65)) ∧ (
          let p11 : PM := F271 p1 v1 (p1.1 12 1 65)
          (inb v1 6) ∧ (
          let p12 : PM := pI p11 13 11 (v1).toNatClampNeg (p1.1 12 1 65)
          (inb v1 6) ∧ (
          let p13 : PM := pI p12 13 12 (v1).toNatClampNeg (cn (-100000))
          kg92 p13 v1 (cn 0))))))))
    else (
      if (p1.1 12 1 65) = (cn (-100000)) then (
        (inb v1 6) ∧ (
        let p6 : PM := pI p1 13 12 (v1).toNatClampNeg (cn (-100000))
        kg92 p6 v1 (cn 0)))
      else (
        (G271 p1 v1 (p1.1 12 1 65)) ∧ (
        let p7 : PM := F271 p1 v1 (p1.1 12 1 65)
        (inb v1 6) ∧ (
        let p8 : PM := pI p7 13 11 (v1).toNatClampNeg (p1.1 12 1 65)
        (inb v1 6) ∧ (
        let p9 : PM := pI p8 13 12 (v1).toNatClampNeg (cn (-100000))
        kg92 p9 v1 (cn 0)))))))))
noncomputable def g12_endsAuction (p : PM) (v1 : Int32) : Prop := bg12_endsAuction v12_isNear g12_isNear v12_finds g12_finds v12_tradesAll g12_tradesAll (g12_endsAuction_92 FU) p v1
def R272 : List Row := [(0, .aload_n 0, 1, 0, (0, 0, 0, 0, 0, 0)), (1, .iload_n 1, 1, 0, (0, 0, 0, 0, 0, 0)), (2, .invokevirtual 384, 3, 0, (0, 2, 0, 0, 1, 0)), (5, .aload_n 0, 1, 0, (0, 0, 0, 0, 0, 0)), (6, .getfield 372, 3, 0, (12, 65, 0, 1, 0, 0)), (9, .ldc 184, 2, 0, (0, 0, 0, 0, 0, -100000)), (11, .if_icmp .eq 44, 3, 0, (0, 0, 0, 0, 0, 0)), (14, .aload_n 0, 1, 0, (0, 0, 0, 0, 0, 0)), (15, .iload_n 1, 1, 0, (0, 0, 0, 0, 0, 0)), (16, .aload_n 0, 1, 0, (0, 0, 0, 0, 0, 0)), (17, .getfield 372, 3, 0, (12, 65, 0, 1, 0, 0)), (20, .invokevirtual 305, 3, 0, (2, 3, 0, 0, 1, 0)), (23, .ifCond .ne 32, 3, 0, (0, 0, 0, 0, 0, 0)), (26, .aload_n 0, 1, 0, (0, 0, 0, 0, 0, 0)), (27, .getfield 57, 3, 0, (12, 16, 18, 2, 2, 0)), (30, .iload_n 1, 1, 0, (0, 0, 0, 0, 0, 0)), (31, .baload, 1, 0, (15, 6, 0, 0, 0, 0)), (32, .ifCond .ne 23, 3, 0, (0, 0, 0, 0, 0, 0)), (35, .aload_n 0, 1, 0, (0, 0, 0, 0, 0, 0)), (36, .getfield 57, 3, 0, (12, 16, 18, 2, 2, 0)), (39, .iload_n 1, 1, 0, (0, 0, 0, 0, 0, 0)), (40, .iconst 1, 1, 0, (0, 0, 0, 0, 0, 1)), (41, .bastore, 1, 0, (15, 6, 0, 0, 0, 0)), (42, .aload_n 0, 1, 0, (0, 0, 0, 0, 0, 0)), (43, .getfield 51, 3, 0, (12, 14, 16, 2, 12, 0)), (46, .iload_n 1, 1, 0, (0, 0, 0, 0, 0, 0)), (47, .aload_n 0, 1, 0, (0, 0, 0, 0, 0, 0)), (48, .getfield 194, 3, 0, (12, 17, 0, 1, 0, 0)), (51, .iconst 5, 1, 0, (0, 0, 0, 0, 0, 5)), (52, .iadd, 1, 0, (0, 0, 0, 0, 0, 0)), (53, .iastore, 1, 0, (13, 6, 0, 0, 0, 0)), (54, .return_, 1, 0, (0, 0, 0, 0, 0, 0)), (55, .aload_n 0, 1, 0, (0, 0, 0, 0, 0, 0)), (56, .getfield 372, 3, 0, (12, 65, 0, 1, 0, 0)), (59, .ldc 184, 2, 0, (0, 0, 0, 0, 0, -100000)), (61, .if_icmp .eq 21, 3, 0, (0, 0, 0, 0, 0, 0)), (64, .aload_n 0, 1, 0, (0, 0, 0, 0, 0, 0)), (65, .getfield 372, 3, 0, (12, 65, 0, 1, 0, 0)), (68, .istore_n 2, 1, 0, (0, 0, 0, 0, 0, 0)), (69, .aload_n 0, 1, 0, (0, 0, 0, 0, 0, 0)), (70, .iload_n 1, 1, 0, (0, 0, 0, 0, 0, 0)), (71, .iload_n 2, 1, 0, (0, 0, 0, 0, 0, 0)), (72, .invokevirtual 387, 3, 0, (1, 3, 0, 0, 1, 0)), (75, .aload_n 0, 1, 0, (0, 0, 0, 0, 0, 0)), (76, .getfield 48, 3, 0, (12, 13, 16, 2, 11, 0)), (79, .iload_n 1, 1, 0, (0, 0, 0, 0, 0, 0)), (80, .iload_n 2, 1, 0, (0, 0, 0, 0, 0, 0)), (81, .iastore, 1, 0, (13, 6, 0, 0, 0, 0)), (82, .aload_n 0, 1, 0, (0, 0, 0, 0, 0, 0)), (83, .getfield 51, 3, 0, (12, 14, 16, 2, 12, 0)), (86, .iload_n 1, 1, 0, (0, 0, 0, 0, 0, 0)), (87, .ldc 184, 2, 0, (0, 0, 0, 0, 0, -100000)), (89, .iastore, 1, 0, (13, 6, 0, 0, 0, 0)), (90, .iconst 0, 1, 0, (0, 0, 0, 0, 0, 0)), (91, .istore_n 2, 1, 0, (0, 0, 0, 0, 0, 0)), (92, .iload_n 2, 1, 1, (0, 0, 0, 0, 0, 0)), (93, .bipush 44, 2, 0, (0, 0, 0, 0, 0, 44)), (95, .if_icmp .ge 73, 3, 0, (0, 0, 0, 0, 0, 0)), (98, .aload_n 0, 1, 0, (0, 0, 0, 0, 0, 0)), (99, .getfield 60, 3, 0, (12, 19, 18, 2, 3, 0)), (102, .iload_n 2, 1, 0, (0, 0, 0, 0, 0, 0)), (103, .baload, 1, 0, (15, 44, 0, 0, 0, 0)), (104, .ifCond .eq 58, 3, 0, (0, 0, 0, 0, 0, 0)), (107, .aload_n 0, 1, 0, (0, 0, 0, 0, 0, 0)), (108, .getfield 69, 3, 0, (12, 22, 16, 2, 16, 0)), (111, .iload_n 2, 1, 0, (0, 0, 0, 0, 0, 0)), (112, .iaload, 1, 0, (13, 44, 0, 0, 0, 0)), (113, .iload_n 1, 1, 0, (0, 0, 0, 0, 0, 0)), (114, .if_icmp .ne 48, 3, 0, (0, 0, 0, 0, 0, 0)), (117, .aload_n 0, 1, 0, (0, 0, 0, 0, 0, 0)), (118, .getfield 99, 3, 0, (12, 32, 16, 2, 24, 0)), (121, .iload_n 2, 1, 0, (0, 0, 0, 0, 0, 0)), (122, .iaload, 1, 0, (13, 44, 0, 0, 0, 0)), (123, .iconst 1, 1, 0, (0, 0, 0, 0, 0, 1)), (124, .if_icmp .ne 38, 3, 0, (0, 0, 0, 0, 0, 0)), (127, .aload_n 0, 1, 0, (0, 0, 0, 0, 0, 0)), (128, .getfield 60, 3, 0, (12, 19, 18, 2, 3, 0)), (131, .iload_n 2, 1, 0, (0, 0, 0, 0, 0, 0)), (132, .aload_n 0, 1, 0, (0, 0, 0, 0, 0, 0)), (133, .getfield 78, 3, 0, (12, 25, 18, 2, 5, 0)), (136, .iload_n 2, 1, 0, (0, 0, 0, 0, 0, 0)), (137, .baload, 1, 0, (15, 44, 0, 0, 0, 0)), (138, .ifCond .ne 7, 3, 0, (0, 0, 0, 0, 0, 0)), (141, .iconst 1, 1, 0, (0, 0, 0, 0, 0, 1)), (142, .goto 4, 3, 0, (0, 0, 0, 0, 0, 0)), (145, .iconst 0, 1, 0, (0, 0, 0, 0, 0, 0)), (146, .bastore, 1, 0, (15, 44, 0, 0, 0, 0)), (147, .aload_n 0, 1, 0, (0, 0, 0, 0, 0, 0)), (148, .getfield 84, 3, 0, (12, 27, 16, 2, 19, 0)), (151, .iload_n 2, 1, 0, (0, 0, 0, 0, 0, 0)), (152, .iaload, 1, 0, (13, 44, 0, 0, 0, 0)), (153, .iconst 1, 1, 0, (0, 0, 0, 0, 0, 1)), (154, .if_icmp .ne 8, 3, 0, (0, 0, 0, 0, 0, 0)), (157, .aload_n 0, 1, 0, (0, 0, 0, 0, 0, 0)), (158, .iload_n 2, 1, 0, (0, 0, 0, 0, 0, 0)), (159, .invokevirtual 217, 3, 0, (4, 2, 0, 0, 1, 0)), (162, .iinc 2 1, 3, 0, (0, 0, 0, 0, 0, 1)), (165, .goto (-73), 3, 0, (0, 0, 0, 0, 0, 0)), (168, .aload_n 0, 1, 0, (0, 0, 0, 0, 0, 0)), (169, .invokevirtual 390, 3, 0, (3, 1, 0, 0, 1, 0)), (172, .return_, 1, 0, (0, 0, 0, 0, 0, 0))]
set_option maxRecDepth 100000 in
theorem rk272 : R272.all (rok 2 272 0 [(269, [15, 0]), (271, [15, 0, 0]), (220, [15, 0, 0]), (267, [15]), (227, [15, 0])]) = true := by decide +kernel
set_option maxRecDepth 100000 in
theorem tab272 {F269 : PM → Int32 → PM} {G269 : PM → Int32 → Prop} {F271 : PM → Int32 → Int32 → PM} {G271 : PM → Int32 → Int32 → Prop} {F220 : PM → Int32 → Int32 → Int32} {G220 : PM → Int32 → Int32 → Prop} {F267 : PM → PM} {G267 : PM → Prop} {F227 : PM → Int32 → PM} {G227 : PM → Int32 → Prop} : TabOK 2 272 0 [CC269 F269 G269, CC271 F271 G271, CC220 F220 G220, CC267 F267 G267, CC227 F227 G227] R272 := tab_ok (K := K272) rfl rfl (fun h => d272 h) rk272 (by decide +kernel)
set_option maxRecDepth 100000 in
theorem pc272 : cutpc [92] R272 = true := by decide +kernel
set_option maxRecDepth 100000 in
theorem r12_endsAuction_92 (F269 : PM → Int32 → PM) (G269 : PM → Int32 → Prop) (o269 : CalOK 2 (CC269 F269 G269)) (F271 : PM → Int32 → Int32 → PM) (G271 : PM → Int32 → Int32 → Prop) (o271 : CalOK 2 (CC271 F271 G271)) (F220 : PM → Int32 → Int32 → Int32) (G220 : PM → Int32 → Int32 → Prop) (o220 : CalOK 2 (CC220 F220 G220)) (F267 : PM → PM) (G267 : PM → Prop) (o267 : CalOK 2 (CC267 F267 G267)) (F227 : PM → Int32 → PM) (G227 : PM → Int32 → Prop) (o227 : CalOK 2 (CC227 F227 G227)) (kv92 : PM → Int32 → Int32 → PM) (kg92 : PM → Int32 → Int32 → Prop) (hk92 : ∀ (p : PM) (v1 : Int32) (v2 : Int32), Gr 2 p → kg92 p v1 v2 → ZJ 2 272 92 [zR 12 1, zI v1, zI v2] [] p (hwV (kv92 p v1 v2))) : ∀ (p : PM) (v1 : Int32) (v2 : Int32), Gr 2 p → bg12_endsAuction_92 F227 G227 F267 G267 kg92 p v1 v2 → ZJ 2 272 92 [zR 12 1, zI v1, zI v2] [] p (hwV (bv12_endsAuction_92 F227 F267 kv92 p v1 v2)) := by
  intro p v1 v2  hg H
  exact rwV (n := 3000) (q := 92) (la := [zR 12 1, zI v1, zI v2]) (sa := []) (ks := [fun la sa s => kv92 s (ai la 1) (ai la 2)]) (gs := [fun la sa s => zsw (tc2 la [(112, 1), (0, 0), (0, 0)] && tc2 sa []) False (kg92 s (ai la 1) (ai la 2))]) (fcons o269 (fcons o271 (fcons o220 (fcons o267 (fcons o227 (fnil)))))) tab272 pc272 ⟨fun la sa s hg H => zcut H fun H => hk92 s (ai la 1) (ai la 2) hg H, trivial⟩ hg H
theorem t12_endsAuction_92 : ∀ (n : Nat), ∀ (p : PM) (v1 : Int32) (v2 : Int32), Gr 2 p → g12_endsAuction_92 n p v1 v2 → ZJ 2 272 92 [zR 12 1, zI v1, zI v2] [] p (hwV (v12_endsAuction_92 n p v1 v2)) := by
  intro n
  induction n with
  | zero =>
    intro p v1 v2  hg H
    exact H.elim
  | succ n ih => exact r12_endsAuction_92 v12_finds g12_finds ok269 v12_tradesAll g12_tradesAll ok271 v12_isNear g12_isNear ok220 v12_works g12_works ok267 v12_showsAnew g12_showsAnew ok227 (v12_endsAuction_92 n) (g12_endsAuction_92 n) ih
set_option maxRecDepth 100000 in
theorem r12_endsAuction (F269 : PM → Int32 → PM) (G269 : PM → Int32 → Prop) (o269 : CalOK 2 (CC269 F269 G269)) (F271 : PM → Int32 → Int32 → PM) (G271 : PM → Int32 → Int32 → Prop) (o271 : CalOK 2 (CC271 F271 G271)) (F220 : PM → Int32 → Int32 → Int32) (G220 : PM → Int32 → Int32 → Prop) (o220 : CalOK 2 (CC220 F220 G220)) (F267 : PM → PM) (G267 : PM → Prop) (o267 : CalOK 2 (CC267 F267 G267)) (F227 : PM → Int32 → PM) (G227 : PM → Int32 → Prop) (o227 : CalOK 2 (CC227 F227 G227)) (kv92 : PM → Int32 → Int32 → PM) (kg92 : PM → Int32 → Int32 → Prop) (hk92 : ∀ (p : PM) (v1 : Int32) (v2 : Int32), Gr 2 p → kg92 p v1 v2 → ZJ 2 272 92 [zR 12 1, zI v1, zI v2] [] p (hwV (kv92 p v1 v2))) : ∀ (p : PM) (v1 : Int32), Gr 2 p → bg12_endsAuction F220 G220 F269 G269 F271 G271 kg92 p v1 → ZJ 2 272 0 [zR 12 1, zI v1, zJ] [] p (hwV (bv12_endsAuction F220 F269 F271 kv92 p v1)) := by
  intro p v1  hg H
  exact rwV (n := 3000) (q := 0) (la := [zR 12 1, zI v1, zJ]) (sa := []) (ks := [fun la sa s => kv92 s (ai la 1) (ai la 2)]) (gs := [fun la sa s => zsw (tc2 la [(112, 1), (0, 0), (0, 0)] && tc2 sa []) False (kg92 s (ai la 1) (ai la 2))]) (fcons o269 (fcons o271 (fcons o220 (fcons o267 (fcons o227 (fnil)))))) tab272 pc272 ⟨fun la sa s hg H => zcut H fun H => hk92 s (ai la 1) (ai la 2) hg H, trivial⟩ hg H
theorem t12_endsAuction : ∀ (p : PM) (v1 : Int32), Gr 2 p → g12_endsAuction p v1 → ZJ 2 272 0 [zR 12 1, zI v1, zJ] [] p (hwV (v12_endsAuction p v1)) := r12_endsAuction v12_finds g12_finds ok269 v12_tradesAll g12_tradesAll ok271 v12_isNear g12_isNear ok220 v12_works g12_works ok267 v12_showsAnew g12_showsAnew ok227 (v12_endsAuction_92 FU) (g12_endsAuction_92 FU) (t12_endsAuction_92 FU)
def CC272 (F : PM → Int32 → PM) (G : PM → Int32 → Prop) : Cal := (272, [15, 0], 0, false, fun as p => (zJ, (F p (ai as 1))), fun as p => zsw (tc2 as [(112, 1), (0, 0)]) False (G p (ai as 1)))
set_option maxRecDepth 100000 in
theorem okr272 (F : PM → Int32 → PM) (G : PM → Int32 → Prop) (h : ∀ (p : PM) (v1 : Int32), Gr 2 p → G p v1 → ZJ 2 272 0 [zR 12 1, zI v1, zJ] [] p (hwV (F p v1))) : CalOK 2 (CC272 F G) := cal_ok (m := 3) (by unfold mL; rw [mX_272]) (fun as p hg H => h p (ai as 1) hg H)
theorem ok272 : CalOK 2 (CC272 v12_endsAuction g12_endsAuction) := okr272 v12_endsAuction g12_endsAuction t12_endsAuction
noncomputable def bv12_hasQuote_6 (p : PM) (kv6 : Int32 → Int32 → Int32 → Int32 → Int32 → Int32) (v1 : Int32) (v2 : Int32) (v3 : Int32) (v4 : Int32) (v5 : Int32) : Int32 :=
  if v5 < (cn 44) then (
    if v4 = 0 then (
      if (p.1 15 3 (v5).toNatClampNeg) = 0 then (
        kv6 v1 v2 v3 (cn 0) (v5 + (cn 1)))
      else (
        if (p.1 13 19 (v5).toNatClampNeg) = (cn 4) then (
          if (p.1 13 15 (v5).toNatClampNeg) = v1 then (
            if (p.1 13 16 (v5).toNatClampNeg) = v2 then (
              if (p.1 15 4 (v5).toNatClampNeg) = v3 then (
                kv6 v1 v2 v3 (cn 1) (v5 + (cn 1)))
              else (
                kv6 v1 v2 v3 (cn 0) (v5 + (cn 1))))
            else (
              kv6 v1 v2 v3 (cn 0) (v5 + (cn 1))))
          else (
            kv6 v1 v2 v3 (cn 0) (v5 + (cn 1))))
        else (
          kv6 v1 v2 v3 (cn 0) (v5 + (cn 1)))))
    else (
      kv6 v1 v2 v3 (cn 1) (v5 + (cn 1))))
  else (
    v4)
noncomputable def v12_hasQuote_6 (p : PM) (n : Nat) : Int32 → Int32 → Int32 → Int32 → Int32 → Int32 := Nat.rec (motive := fun _ => Int32 → Int32 → Int32 → Int32 → Int32 → Int32) (fun _ _ _ _ _ => 0) (fun _ ih => bv12_hasQuote_6 p ih) n
theorem ev12_hasQuote_6 (p : PM) (n : Nat) (v1 : Int32) (v2 : Int32) (v3 : Int32) (v4 : Int32) (v5 : Int32) : v12_hasQuote_6 p (n + 1) v1 v2 v3 v4 v5 = bv12_hasQuote_6 p (v12_hasQuote_6 p n) v1 v2 v3 v4 v5 := rfl
noncomputable def bg12_hasQuote_6 (p : PM) (kg6 : Int32 → Int32 → Int32 → Int32 → Int32 → Prop) (v1 : Int32) (v2 : Int32) (v3 : Int32) (v4 : Int32) (v5 : Int32) : Prop :=
  if v5 < (cn 44) then (
    if v4 = 0 then (
      (inb v5 44) ∧ (
      if (p.1 15 3 (v5).toNatClampNeg) = 0 then (
        kg6 v1 v2 v3 (cn 0) (v5 + (cn 1)))
      else (
        (inb v5 44) ∧ (
        if (p.1 13 19 (v5).toNatClampNeg) = (cn 4) then (
          (inb v5 44) ∧ (
          if (p.1 13 15 (v5).toNatClampNeg) = v1 then (
            (inb v5 44) ∧ (
            if (p.1 13 16 (v5).toNatClampNeg) = v2 then (
              (inb v5 44) ∧ (
              if (p.1 15 4 (v5).toNatClampNeg) = v3 then (
                kg6 v1 v2 v3 (cn 1) (v5 + (cn 1)))
              else (
                kg6 v1 v2 v3 (cn 0) (v5 + (cn 1)))))
            else (
              kg6 v1 v2 v3 (cn 0) (v5 + (cn 1)))))
          else (
            kg6 v1 v2 v3 (cn 0) (v5 + (cn 1)))))
        else (
          kg6 v1 v2 v3 (cn 0) (v5 + (cn 1)))))))
    else (
      kg6 v1 v2 v3 (cn 1) (v5 + (cn 1))))
  else (
    (b01 v4) ∧ (
    True))
noncomputable def g12_hasQuote_6 (p : PM) (n : Nat) : Int32 → Int32 → Int32 → Int32 → Int32 → Prop := Nat.rec (motive := fun _ => Int32 → Int32 → Int32 → Int32 → Int32 → Prop) (fun _ _ _ _ _ => False) (fun _ ih => bg12_hasQuote_6 p ih) n
theorem eg12_hasQuote_6 (p : PM) (n : Nat) (v1 : Int32) (v2 : Int32) (v3 : Int32) (v4 : Int32) (v5 : Int32) : g12_hasQuote_6 p (n + 1) v1 v2 v3 v4 v5 = bg12_hasQuote_6 p (g12_hasQuote_6 p n) v1 v2 v3 v4 v5 := rfl
noncomputable def bv12_hasQuote (p : PM) (kv6 : Int32 → Int32 → Int32 → Int32 → Int32 → Int32) (v1 : Int32) (v2 : Int32) (v3 : Int32) : Int32 :=
  kv6 v1 v2 v3 (cn 0) (cn 0)
noncomputable def v12_hasQuote (p : PM) (v1 : Int32) (v2 : Int32) (v3 : Int32) : Int32 := bv12_hasQuote p (v12_hasQuote_6 p FU) v1 v2 v3
noncomputable def bg12_hasQuote (p : PM) (kg6 : Int32 → Int32 → Int32 → Int32 → Int32 → Prop) (v1 : Int32) (v2 : Int32) (v3 : Int32) : Prop :=
  kg6 v1 v2 v3 (cn 0) (cn 0)
noncomputable def g12_hasQuote (p : PM) (v1 : Int32) (v2 : Int32) (v3 : Int32) : Prop := bg12_hasQuote p (g12_hasQuote_6 p FU) v1 v2 v3
def R273 : List Row := [(0, .iconst 0, 1, 0, (0, 0, 0, 0, 0, 0)), (1, .istore 4, 2, 0, (0, 0, 0, 0, 0, 0)), (3, .iconst 0, 1, 0, (0, 0, 0, 0, 0, 0)), (4, .istore 5, 2, 0, (0, 0, 0, 0, 0, 0)), (6, .iload 5, 2, 1, (0, 0, 0, 0, 0, 0)), (8, .bipush 44, 2, 0, (0, 0, 0, 0, 0, 44)), (10, .if_icmp .ge 75, 3, 0, (0, 0, 0, 0, 0, 0)), (13, .iload 4, 2, 0, (0, 0, 0, 0, 0, 0)), (15, .ifCond .ne 57, 3, 0, (0, 0, 0, 0, 0, 0)), (18, .aload_n 0, 1, 0, (0, 0, 0, 0, 0, 0)), (19, .getfield 60, 3, 0, (12, 19, 18, 2, 3, 0)), (22, .iload 5, 2, 0, (0, 0, 0, 0, 0, 0)), (24, .baload, 1, 0, (15, 44, 0, 0, 0, 0)), (25, .ifCond .eq 51, 3, 0, (0, 0, 0, 0, 0, 0)), (28, .aload_n 0, 1, 0, (0, 0, 0, 0, 0, 0)), (29, .getfield 84, 3, 0, (12, 27, 16, 2, 19, 0)), (32, .iload 5, 2, 0, (0, 0, 0, 0, 0, 0)), (34, .iaload, 1, 0, (13, 44, 0, 0, 0, 0)), (35, .iconst 4, 1, 0, (0, 0, 0, 0, 0, 4)), (36, .if_icmp .ne 40, 3, 0, (0, 0, 0, 0, 0, 0)), (39, .aload_n 0, 1, 0, (0, 0, 0, 0, 0, 0)), (40, .getfield 66, 3, 0, (12, 21, 16, 2, 15, 0)), (43, .iload 5, 2, 0, (0, 0, 0, 0, 0, 0)), (45, .iaload, 1, 0, (13, 44, 0, 0, 0, 0)), (46, .iload_n 1, 1, 0, (0, 0, 0, 0, 0, 0)), (47, .if_icmp .ne 29, 3, 0, (0, 0, 0, 0, 0, 0)), (50, .aload_n 0, 1, 0, (0, 0, 0, 0, 0, 0)), (51, .getfield 69, 3, 0, (12, 22, 16, 2, 16, 0)), (54, .iload 5, 2, 0, (0, 0, 0, 0, 0, 0)), (56, .iaload, 1, 0, (13, 44, 0, 0, 0, 0)), (57, .iload_n 2, 1, 0, (0, 0, 0, 0, 0, 0)), (58, .if_icmp .ne 18, 3, 0, (0, 0, 0, 0, 0, 0)), (61, .aload_n 0, 1, 0, (0, 0, 0, 0, 0, 0)), (62, .getfield 72, 3, 0, (12, 23, 18, 2, 4, 0)), (65, .iload 5, 2, 0, (0, 0, 0, 0, 0, 0)), (67, .baload, 1, 0, (15, 44, 0, 0, 0, 0)), (68, .iload_n 3, 1, 0, (0, 0, 0, 0, 0, 0)), (69, .if_icmp .ne 7, 3, 0, (0, 0, 0, 0, 0, 0)), (72, .iconst 1, 1, 0, (0, 0, 0, 0, 0, 1)), (73, .goto 4, 3, 0, (0, 0, 0, 0, 0, 0)), (76, .iconst 0, 1, 0, (0, 0, 0, 0, 0, 0)), (77, .istore 4, 2, 0, (0, 0, 0, 0, 0, 0)), (79, .iinc 5 1, 3, 0, (0, 0, 0, 0, 0, 1)), (82, .goto (-76), 3, 0, (0, 0, 0, 0, 0, 0)), (85, .iload 4, 2, 0, (0, 0, 0, 0, 0, 0)), (87, .ireturn, 1, 0, (1, 0, 0, 0, 0, 0))]
set_option maxRecDepth 100000 in
theorem rk273 : R273.all (rok 2 273 1 []) = true := by decide +kernel
set_option maxRecDepth 100000 in
theorem tab273 : TabOK 2 273 1 [] R273 := tab_ok (K := K273) rfl rfl (fun h => d273 h) rk273 (by decide +kernel)
set_option maxRecDepth 100000 in
theorem pc273 : cutpc [6] R273 = true := by decide +kernel
set_option maxRecDepth 100000 in
theorem r12_hasQuote_6 (p : PM) (hg : Gr 2 p) (kv6 : Int32 → Int32 → Int32 → Int32 → Int32 → Int32) (kg6 : Int32 → Int32 → Int32 → Int32 → Int32 → Prop) (hk6 : ∀ (v1 : Int32) (v2 : Int32) (v3 : Int32) (v4 : Int32) (v5 : Int32), kg6 v1 v2 v3 v4 v5 → ZJ 2 273 6 [zR 12 1, zI v1, zI v2, zI v3, zI v4, zI v5] [] p (hoI p (kv6 v1 v2 v3 v4 v5))) : ∀ (v1 : Int32) (v2 : Int32) (v3 : Int32) (v4 : Int32) (v5 : Int32), bg12_hasQuote_6 p kg6 v1 v2 v3 v4 v5 → ZJ 2 273 6 [zR 12 1, zI v1, zI v2, zI v3, zI v4, zI v5] [] p (hoI p (bv12_hasQuote_6 p kv6 v1 v2 v3 v4 v5)) := by
  intro v1 v2 v3 v4 v5  H
  exact roI (n := 3000) (q := 6) (la := [zR 12 1, zI v1, zI v2, zI v3, zI v4, zI v5]) (sa := []) (ks := [fun la sa _ => kv6 (ai la 1) (ai la 2) (ai la 3) (ai la 4) (ai la 5)]) (gs := [fun la sa _ => zsw (tc2 la [(112, 1), (0, 0), (0, 0), (0, 0), (0, 0), (0, 0)] && tc2 sa []) False (kg6 (ai la 1) (ai la 2) (ai la 3) (ai la 4) (ai la 5))]) (fnil) tab273 pc273 ⟨fun la sa s hg H => zcut H fun H => hk6 (ai la 1) (ai la 2) (ai la 3) (ai la 4) (ai la 5) H, trivial⟩ hg H
theorem t12_hasQuote_6 (p : PM) (hg : Gr 2 p) : ∀ (n : Nat), ∀ (v1 : Int32) (v2 : Int32) (v3 : Int32) (v4 : Int32) (v5 : Int32), g12_hasQuote_6 p n v1 v2 v3 v4 v5 → ZJ 2 273 6 [zR 12 1, zI v1, zI v2, zI v3, zI v4, zI v5] [] p (hoI p (v12_hasQuote_6 p n v1 v2 v3 v4 v5)) := by
  intro n
  induction n with
  | zero =>
    intro v1 v2 v3 v4 v5  H
    exact H.elim
  | succ n ih => exact r12_hasQuote_6 p hg (v12_hasQuote_6 p n) (g12_hasQuote_6 p n) ih
set_option maxRecDepth 100000 in
theorem r12_hasQuote (p : PM) (hg : Gr 2 p) (kv6 : Int32 → Int32 → Int32 → Int32 → Int32 → Int32) (kg6 : Int32 → Int32 → Int32 → Int32 → Int32 → Prop) (hk6 : ∀ (v1 : Int32) (v2 : Int32) (v3 : Int32) (v4 : Int32) (v5 : Int32), kg6 v1 v2 v3 v4 v5 → ZJ 2 273 6 [zR 12 1, zI v1, zI v2, zI v3, zI v4, zI v5] [] p (hoI p (kv6 v1 v2 v3 v4 v5))) : ∀ (v1 : Int32) (v2 : Int32) (v3 : Int32), bg12_hasQuote p kg6 v1 v2 v3 → ZJ 2 273 0 [zR 12 1, zI v1, zI v2, zI v3, zJ, zJ] [] p (hoI p (bv12_hasQuote p kv6 v1 v2 v3)) := by
  intro v1 v2 v3  H
  exact roI (n := 3000) (q := 0) (la := [zR 12 1, zI v1, zI v2, zI v3, zJ, zJ]) (sa := []) (ks := [fun la sa _ => kv6 (ai la 1) (ai la 2) (ai la 3) (ai la 4) (ai la 5)]) (gs := [fun la sa _ => zsw (tc2 la [(112, 1), (0, 0), (0, 0), (0, 0), (0, 0), (0, 0)] && tc2 sa []) False (kg6 (ai la 1) (ai la 2) (ai la 3) (ai la 4) (ai la 5))]) (fnil) tab273 pc273 ⟨fun la sa s hg H => zcut H fun H => hk6 (ai la 1) (ai la 2) (ai la 3) (ai la 4) (ai la 5) H, trivial⟩ hg H
theorem t12_hasQuote (p : PM) (hg : Gr 2 p) : ∀ (v1 : Int32) (v2 : Int32) (v3 : Int32), g12_hasQuote p v1 v2 v3 → ZJ 2 273 0 [zR 12 1, zI v1, zI v2, zI v3, zJ, zJ] [] p (hoI p (v12_hasQuote p v1 v2 v3)) := r12_hasQuote p hg (v12_hasQuote_6 p FU) (g12_hasQuote_6 p FU) (t12_hasQuote_6 p hg FU)
def CC273 (F : PM → Int32 → Int32 → Int32 → Int32) (G : PM → Int32 → Int32 → Int32 → Prop) : Cal := (273, [15, 0, 0, 0], 1, true, fun as p => (zI (F p (ai as 1) (ai as 2) (ai as 3)), p), fun as p => zsw (tc2 as [(112, 1), (0, 0), (0, 0), (0, 0)]) False (G p (ai as 1) (ai as 2) (ai as 3)))
set_option maxRecDepth 100000 in
theorem okr273 (F : PM → Int32 → Int32 → Int32 → Int32) (G : PM → Int32 → Int32 → Int32 → Prop) (h : ∀ (p : PM) (v1 : Int32) (v2 : Int32) (v3 : Int32), Gr 2 p → G p v1 v2 v3 → ZJ 2 273 0 [zR 12 1, zI v1, zI v2, zI v3, zJ, zJ] [] p (hoI p (F p v1 v2 v3))) : CalOK 2 (CC273 F G) := cal_ok (m := 6) (by unfold mL; rw [mX_273]) (fun as p hg H => h p (ai as 1) (ai as 2) (ai as 3) hg H)
theorem ok273 : CalOK 2 (CC273 v12_hasQuote g12_hasQuote) := okr273 v12_hasQuote g12_hasQuote (fun p v1 v2 v3 hg H => t12_hasQuote p hg v1 v2 v3 H)
noncomputable def bv12_passes_28 (F218 : PM → Int32 → Int32) (F273 : PM → Int32 → Int32 → Int32 → Int32) (kv19 : PM → Int32 → Int32 → Int32 → PM) (kv28 : PM → Int32 → Int32 → Int32 → Int32 → PM) (p : PM) (v1 : Int32) (v2 : Int32) (v3 : Int32) (v4 : Int32) : PM :=
  if v4 < (cn 6) then (
    if (F218 p v4) = 0 then (
      let p1 : PM := pI p 13 5 (v3).toNatClampNeg ((p.1 13 5 (v3).toNatClampNeg) + (cn 0))
      kv28 p1 v1 v2 v3 (v4 + (cn 1)))
    else (
      if (F273 p v3 v4 (cn 1)) = 0 then (
        let p2 : PM := pI p 13 5 (v3).toNatClampNeg ((p.1 13 5 (v3).toNatClampNeg) + (cn 0))
        kv28 p2 v1 v2 v3 (v4 + (cn 1)))
      else (
        if (F273 p v3 v4 (cn 0)) = 0 then (
          let p3 : PM := pI p 13 5 (v3).toNatClampNeg ((p.1 13 5 (v3).toNatClampNeg) + (cn 0))
          kv28 p3 v1 v2 v3 (v4 + (cn 1)))
        else (
          let p4 : PM := pI p 13 5 (v3).toNatClampNeg ((p.1 13 5 (v3).toNatClampNeg) + (cn 1))
          kv28 p4 v1 v2 v3 (v4 + (cn 1))))))
  else (
    kv19 p v1 v2 (v3 + (cn 1)))
noncomputable def v12_passes_28 (kv2 : PM → Int32 → Int32 → PM) (kv19 : PM → Int32 → Int32 → Int32 → PM) (n : Nat) : PM → Int32 → Int32 → Int32 → Int32 → PM := Nat.rec (motive := fun _ => PM → Int32 → Int32 → Int32 → Int32 → PM) (fun p _ _ _ _ => p) (fun _ ih => bv12_passes_28 v12_isOpen v12_hasQuote kv19 ih) n
theorem ev12_passes_28 (kv2 : PM → Int32 → Int32 → PM) (kv19 : PM → Int32 → Int32 → Int32 → PM) (n : Nat) (p : PM) (v1 : Int32) (v2 : Int32) (v3 : Int32) (v4 : Int32) : v12_passes_28 kv2 kv19 (n + 1) p v1 v2 v3 v4 = bv12_passes_28 v12_isOpen v12_hasQuote kv19 (v12_passes_28 kv2 kv19 n) p v1 v2 v3 v4 := rfl
noncomputable def bg12_passes_28 (F218 : PM → Int32 → Int32) (G218 : PM → Int32 → Prop) (F273 : PM → Int32 → Int32 → Int32 → Int32) (G273 : PM → Int32 → Int32 → Int32 → Prop) (kg19 : PM → Int32 → Int32 → Int32 → Prop) (kg28 : PM → Int32 → Int32 → Int32 → Int32 → Prop) (p : PM) (v1 : Int32) (v2 : Int32) (v3 : Int32) (v4 : Int32) : Prop :=
  if v4 < (cn 6) then (
    (inb v3 8) ∧ (
    (G218 p v4) ∧ (
    if (F218 p v4) = 0 then (
      (inb v3 8) ∧ (
      let p1 : PM := pI p 13 5 (v3).toNatClampNeg ((p.1 13 5 (v3).toNatClampNeg) + (cn 0))
      kg28 p1 v1 v2 v3 (v4 + (cn 1))))
    else (
      (G273 p v3 v4 (cn 1)) ∧ (
      if (F273 p v3 v4 (cn 1)) = 0 then (
        (inb v3 8) ∧ (
        let p2 : PM := pI p 13 5 (v3).toNatClampNeg ((p.1 13 5 (v3).toNatClampNeg) + (cn 0))
        kg28 p2 v1 v2 v3 (v4 + (cn 1))))
      else (
        (G273 p v3 v4 (cn 0)) ∧ (
        if (F273 p v3 v4 (cn 0)) = 0 then (
          (inb v3 8) ∧ (
          let p3 : PM := pI p 13 5 (v3).toNatClampNeg ((p.1 13 5 (v3).toNatClampNeg) + (cn 0))
          kg28 p3 v1 v2 v3 (v4 + (cn 1))))
        else (
          (inb v3 8) ∧ (
          let p4 : PM := pI p 13 5 (v3).toNatClampNeg ((p.1 13 5 (v3).toNatClampNeg) + (cn 1))
          kg28 p4 v1 v2 v3 (v4 + (cn 1)))))))))))
  else (
    kg19 p v1 v2 (v3 + (cn 1)))
noncomputable def g12_passes_28 (kg2 : PM → Int32 → Int32 → Prop) (kg19 : PM → Int32 → Int32 → Int32 → Prop) (n : Nat) : PM → Int32 → Int32 → Int32 → Int32 → Prop := Nat.rec (motive := fun _ => PM → Int32 → Int32 → Int32 → Int32 → Prop) (fun _ _ _ _ _ => False) (fun _ ih => bg12_passes_28 v12_isOpen g12_isOpen v12_hasQuote g12_hasQuote kg19 ih) n
theorem eg12_passes_28 (kg2 : PM → Int32 → Int32 → Prop) (kg19 : PM → Int32 → Int32 → Int32 → Prop) (n : Nat) (p : PM) (v1 : Int32) (v2 : Int32) (v3 : Int32) (v4 : Int32) : g12_passes_28 kg2 kg19 (n + 1) p v1 v2 v3 v4 = bg12_passes_28 v12_isOpen g12_isOpen v12_hasQuote g12_hasQuote kg19 (g12_passes_28 kg2 kg19 n) p v1 v2 v3 v4 := rfl
noncomputable def bv12_passes_94 (F272 : PM → Int32 → PM) (kv2 : PM → Int32 → Int32 → PM) (kv94 : PM → Int32 → Int32 → Int32 → PM) (p : PM) (v1 : Int32) (v2 : Int32) (v3 : Int32) : PM :=
  if v3 < (cn 6) then (
    if (p.1 13 12 (v3).toNatClampNeg) = (p.1 12 1 17) then (
      let p1 : PM := F272 p v3
      kv94 p1 v1 v2 (v3 + (cn 1)))
    else (
      kv94 p v1 v2 (v3 + (cn 1))))
  else (
    kv2 p v1 (v2 + (cn 1)))
noncomputable def v12_passes_94 (kv2 : PM → Int32 → Int32 → PM) (n : Nat) : PM → Int32 → Int32 → Int32 → PM := Nat.rec (motive := fun _ => PM → Int32 → Int32 → Int32 → PM) (fun p _ _ _ => p) (fun _ ih => bv12_passes_94 v12_endsAuction kv2 ih) n
theorem ev12_passes_94 (kv2 : PM → Int32 → Int32 → PM) (n : Nat) (p : PM) (v1 : Int32) (v2 : Int32) (v3 : Int32) : v12_passes_94 kv2 (n + 1) p v1 v2 v3 = bv12_passes_94 v12_endsAuction kv2 (v12_passes_94 kv2 n) p v1 v2 v3 := rfl
noncomputable def bg12_passes_94 (F272 : PM → Int32 → PM) (G272 : PM → Int32 → Prop) (kg2 : PM → Int32 → Int32 → Prop) (kg94 : PM → Int32 → Int32 → Int32 → Prop) (p : PM) (v1 : Int32) (v2 : Int32) (v3 : Int32) : Prop :=
  if v3 < (cn 6) then (
    (inb v3 6) ∧ (
    if (p.1 13 12 (v3).toNatClampNeg) = (p.1 12 1 17) then (
      (G272 p v3) ∧ (
      let p1 : PM := F272 p v3
      kg94 p1 v1 v2 (v3 + (cn 1))))
    else (
      kg94 p v1 v2 (v3 + (cn 1)))))
  else (
    kg2 p v1 (v2 + (cn 1)))
noncomputable def g12_passes_94 (kg2 : PM → Int32 → Int32 → Prop) (n : Nat) : PM → Int32 → Int32 → Int32 → Prop := Nat.rec (motive := fun _ => PM → Int32 → Int32 → Int32 → Prop) (fun _ _ _ _ => False) (fun _ ih => bg12_passes_94 v12_endsAuction g12_endsAuction kg2 ih) n
theorem eg12_passes_94 (kg2 : PM → Int32 → Int32 → Prop) (n : Nat) (p : PM) (v1 : Int32) (v2 : Int32) (v3 : Int32) : g12_passes_94 kg2 (n + 1) p v1 v2 v3 = bg12_passes_94 v12_endsAuction g12_endsAuction kg2 (g12_passes_94 kg2 n) p v1 v2 v3 := rfl
noncomputable def bv12_passes_19 (kv28 : PM → Int32 → Int32 → Int32 → Int32 → PM) (kv94 : PM → Int32 → Int32 → Int32 → PM) (p : PM) (v1 : Int32) (v2 : Int32) (v3 : Int32) : PM :=
  if v3 < (cn 8) then (
    kv28 p v1 v2 v3 (cn 0))
  else (
    kv94 p v1 v2 (cn 0))
noncomputable def v12_passes_19 (kv2 : PM → Int32 → Int32 → PM) (n : Nat) : PM → Int32 → Int32 → Int32 → PM := Nat.rec (motive := fun _ => PM → Int32 → Int32 → Int32 → PM) (fun p _ _ _ => p) (fun _ ih => bv12_passes_19 (v12_passes_28 kv2 ih FU) (v12_passes_94 kv2 FU)) n
theorem ev12_passes_19 (kv2 : PM → Int32 → Int32 → PM) (n : Nat) (p : PM) (v1 : Int32) (v2 : Int32) (v3 : Int32) : v12_passes_19 kv2 (n + 1) p v1 v2 v3 = bv12_passes_19 (v12_passes_28 kv2 (v12_passes_19 kv2 n) FU) (v12_passes_94 kv2 FU) p v1 v2 v3 := rfl
noncomputable def bg12_passes_19 (kg28 : PM → Int32 → Int32 → Int32 → Int32 → Prop) (kg94 : PM → Int32 → Int32 → Int32 → Prop) (p : PM) (v1 : Int32) (v2 : Int32) (v3 : Int32) : Prop :=
  if v3 < (cn 8) then (
    kg28 p v1 v2 v3 (cn 0))
  else (
    kg94 p v1 v2 (cn 0))
noncomputable def g12_passes_19 (kg2 : PM → Int32 → Int32 → Prop) (n : Nat) : PM → Int32 → Int32 → Int32 → Prop := Nat.rec (motive := fun _ => PM → Int32 → Int32 → Int32 → Prop) (fun _ _ _ _ => False) (fun _ ih => bg12_passes_19 (g12_passes_28 kg2 ih FU) (g12_passes_94 kg2 FU)) n
theorem eg12_passes_19 (kg2 : PM → Int32 → Int32 → Prop) (n : Nat) (p : PM) (v1 : Int32) (v2 : Int32) (v3 : Int32) : g12_passes_19 kg2 (n + 1) p v1 v2 v3 = bg12_passes_19 (g12_passes_28 kg2 (g12_passes_19 kg2 n) FU) (g12_passes_94 kg2 FU) p v1 v2 v3 := rfl
noncomputable def bv12_passes_2 (kv19 : PM → Int32 → Int32 → Int32 → PM) (p : PM) (v1 : Int32) (v2 : Int32) : PM :=
  if v2 < v1 then (
    let p1 : PM := pI p 12 1 17 ((p.1 12 1 17) + (cn 1))
    kv19 p1 v1 v2 (cn 0))
  else (
    p)
noncomputable def v12_passes_2 (n : Nat) : PM → Int32 → Int32 → PM := Nat.rec (motive := fun _ => PM → Int32 → Int32 → PM) (fun p _ _ => p) (fun _ ih => bv12_passes_2 (v12_passes_19 ih FU)) n
theorem ev12_passes_2 (n : Nat) (p : PM) (v1 : Int32) (v2 : Int32) : v12_passes_2 (n + 1) p v1 v2 = bv12_passes_2 (v12_passes_19 (v12_passes_2 n) FU) p v1 v2 := rfl
noncomputable def bg12_passes_2 (kg19 : PM → Int32 → Int32 → Int32 → Prop) (p : PM) (v1 : Int32) (v2 : Int32) : Prop :=
  if v2 < v1 then (
    let p1 : PM := pI p 12 1 17 ((p.1 12 1 17) + (cn 1))
    kg19 p1 v1 v2 (cn 0))
  else (
    True)
noncomputable def g12_passes_2 (n : Nat) : PM → Int32 → Int32 → Prop := Nat.rec (motive := fun _ => PM → Int32 → Int32 → Prop) (fun _ _ _ => False) (fun _ ih => bg12_passes_2 (g12_passes_19 ih FU)) n
theorem eg12_passes_2 (n : Nat) (p : PM) (v1 : Int32) (v2 : Int32) : g12_passes_2 (n + 1) p v1 v2 = bg12_passes_2 (g12_passes_19 (g12_passes_2 n) FU) p v1 v2 := rfl
noncomputable def bv12_passes (kv2 : PM → Int32 → Int32 → PM) (p : PM) (v1 : Int32) : PM :=
  kv2 p v1 (cn 0)
noncomputable def v12_passes (p : PM) (v1 : Int32) : PM := bv12_passes (v12_passes_2 FU) p v1
noncomputable def bg12_passes (kg2 : PM → Int32 → Int32 → Prop) (p : PM) (v1 : Int32) : Prop :=
  kg2 p v1 (cn 0)
noncomputable def g12_passes (p : PM) (v1 : Int32) : Prop := bg12_passes (g12_passes_2 FU) p v1
def R274 : List Row := [(0, .iconst 0, 1, 0, (0, 0, 0, 0, 0, 0)), (1, .istore_n 2, 1, 0, (0, 0, 0, 0, 0, 0)), (2, .iload_n 2, 1, 1, (0, 0, 0, 0, 0, 0)), (3, .iload_n 1, 1, 0, (0, 0, 0, 0, 0, 0)), (4, .if_icmp .ge 126, 3, 0, (0, 0, 0, 0, 0, 0)), (7, .aload_n 0, 1, 0, (0, 0, 0, 0, 0, 0)), (8, .dup, 1, 0, (0, 0, 0, 0, 0, 0)), (9, .getfield 194, 3, 0, (12, 17, 0, 1, 0, 0)), (12, .iconst 1, 1, 0, (0, 0, 0, 0, 0, 1)), (13, .iadd, 1, 0, (0, 0, 0, 0, 0, 0)), (14, .putfield 194, 3, 0, (12, 17, 0, 1, 0, 0)), (17, .iconst 0, 1, 0, (0, 0, 0, 0, 0, 0)), (18, .istore_n 3, 1, 0, (0, 0, 0, 0, 0, 0)), (19, .iload_n 3, 1, 2, (0, 0, 0, 0, 0, 0)), (20, .bipush 8, 2, 0, (0, 0, 0, 0, 0, 8)), (22, .if_icmp .ge 70, 3, 0, (0, 0, 0, 0, 0, 0)), (25, .iconst 0, 1, 0, (0, 0, 0, 0, 0, 0)), (26, .istore 4, 2, 0, (0, 0, 0, 0, 0, 0)), (28, .iload 4, 2, 3, (0, 0, 0, 0, 0, 0)), (30, .bipush 6, 2, 0, (0, 0, 0, 0, 0, 6)), (32, .if_icmp .ge 54, 3, 0, (0, 0, 0, 0, 0, 0)), (35, .aload_n 0, 1, 0, (0, 0, 0, 0, 0, 0)), (36, .getfield 30, 3, 0, (12, 7, 16, 2, 5, 0)), (39, .iload_n 3, 1, 0, (0, 0, 0, 0, 0, 0)), (40, .dup2, 1, 0, (0, 0, 0, 0, 0, 0)), (41, .iaload, 1, 0, (13, 8, 0, 0, 0, 0)), (42, .aload_n 0, 1, 0, (0, 0, 0, 0, 0, 0)), (43, .iload 4, 2, 0, (0, 0, 0, 0, 0, 0)), (45, .invokevirtual 328, 3, 0, (1, 2, 0, 0, 1, 0)), (48, .ifCond .eq 29, 3, 0, (0, 0, 0, 0, 0, 0)), (51, .aload_n 0, 1, 0, (0, 0, 0, 0, 0, 0)), (52, .iload_n 3, 1, 0, (0, 0, 0, 0, 0, 0)), (53, .iload 4, 2, 0, (0, 0, 0, 0, 0, 0)), (55, .iconst 1, 1, 0, (0, 0, 0, 0, 0, 1)), (56, .invokevirtual 393, 3, 0, (2, 4, 0, 0, 1, 0)), (59, .ifCond .eq 18, 3, 0, (0, 0, 0, 0, 0, 0)), (62, .aload_n 0, 1, 0, (0, 0, 0, 0, 0, 0)), (63, .iload_n 3, 1, 0, (0, 0, 0, 0, 0, 0)), (64, .iload 4, 2, 0, (0, 0, 0, 0, 0, 0)), (66, .iconst 0, 1, 0, (0, 0, 0, 0, 0, 0)), (67, .invokevirtual 393, 3, 0, (2, 4, 0, 0, 1, 0)), (70, .ifCond .eq 7, 3, 0, (0, 0, 0, 0, 0, 0)), (73, .iconst 1, 1, 0, (0, 0, 0, 0, 0, 1)), (74, .goto 4, 3, 0, (0, 0, 0, 0, 0, 0)), (77, .iconst 0, 1, 0, (0, 0, 0, 0, 0, 0)), (78, .iadd, 1, 0, (0, 0, 0, 0, 0, 0)), (79, .iastore, 1, 0, (13, 8, 0, 0, 0, 0)), (80, .iinc 4 1, 3, 0, (0, 0, 0, 0, 0, 1)), (83, .goto (-55), 3, 0, (0, 0, 0, 0, 0, 0)), (86, .iinc 3 1, 3, 0, (0, 0, 0, 0, 0, 1)), (89, .goto (-70), 3, 0, (0, 0, 0, 0, 0, 0)), (92, .iconst 0, 1, 0, (0, 0, 0, 0, 0, 0)), (93, .istore_n 3, 1, 0, (0, 0, 0, 0, 0, 0)), (94, .iload_n 3, 1, 4, (0, 0, 0, 0, 0, 0)), (95, .bipush 6, 2, 0, (0, 0, 0, 0, 0, 6)), (97, .if_icmp .ge 27, 3, 0, (0, 0, 0, 0, 0, 0)), (100, .aload_n 0, 1, 0, (0, 0, 0, 0, 0, 0)), (101, .getfield 51, 3, 0, (12, 14, 16, 2, 12, 0)), (104, .iload_n 3, 1, 0, (0, 0, 0, 0, 0, 0)), (105, .iaload, 1, 0, (13, 6, 0, 0, 0, 0)), (106, .aload_n 0, 1, 0, (0, 0, 0, 0, 0, 0)), (107, .getfield 194, 3, 0, (12, 17, 0, 1, 0, 0)), (110, .if_icmp .ne 8, 3, 0, (0, 0, 0, 0, 0, 0)), (113, .aload_n 0, 1, 0, (0, 0, 0, 0, 0, 0)), (114, .iload_n 3, 1, 0, (0, 0, 0, 0, 0, 0)), (115, .invokevirtual 396, 3, 0, (0, 2, 0, 0, 1, 0)), (118, .iinc 3 1, 3, 0, (0, 0, 0, 0, 0, 1)), (121, .goto (-27), 3, 0, (0, 0, 0, 0, 0, 0)), (124, .iinc 2 1, 3, 0, (0, 0, 0, 0, 0, 1)), (127, .goto (-125), 3, 0, (0, 0, 0, 0, 0, 0)), (130, .return_, 1, 0, (0, 0, 0, 0, 0, 0))]
set_option maxRecDepth 100000 in
theorem rk274 : R274.all (rok 2 274 0 [(272, [15, 0]), (218, [15, 0]), (273, [15, 0, 0, 0])]) = true := by decide +kernel
set_option maxRecDepth 100000 in
theorem tab274 {F272 : PM → Int32 → PM} {G272 : PM → Int32 → Prop} {F218 : PM → Int32 → Int32} {G218 : PM → Int32 → Prop} {F273 : PM → Int32 → Int32 → Int32 → Int32} {G273 : PM → Int32 → Int32 → Int32 → Prop} : TabOK 2 274 0 [CC272 F272 G272, CC218 F218 G218, CC273 F273 G273] R274 := tab_ok (K := K274) rfl rfl (fun h => d274 h) rk274 (by decide +kernel)
set_option maxRecDepth 100000 in
theorem pc274 : cutpc [2, 19, 28, 94] R274 = true := by decide +kernel
set_option maxRecDepth 100000 in
theorem r12_passes_28 (F272 : PM → Int32 → PM) (G272 : PM → Int32 → Prop) (o272 : CalOK 2 (CC272 F272 G272)) (F218 : PM → Int32 → Int32) (G218 : PM → Int32 → Prop) (o218 : CalOK 2 (CC218 F218 G218)) (F273 : PM → Int32 → Int32 → Int32 → Int32) (G273 : PM → Int32 → Int32 → Int32 → Prop) (o273 : CalOK 2 (CC273 F273 G273)) (kv19 : PM → Int32 → Int32 → Int32 → PM) (kg19 : PM → Int32 → Int32 → Int32 → Prop) (hk19 : ∀ (p : PM) (v1 : Int32) (v2 : Int32) (v3 : Int32) (d4 : ZV), Gr 2 p → kg19 p v1 v2 v3 → ZJ 2 274 19 [zR 12 1, zI v1, zI v2, zI v3, d4] [] p (hwV (kv19 p v1 v2 v3))) (kv28 : PM → Int32 → Int32 → Int32 → Int32 → PM) (kg28 : PM → Int32 → Int32 → Int32 → Int32 → Prop) (hk28 : ∀ (p : PM) (v1 : Int32) (v2 : Int32) (v3 : Int32) (v4 : Int32), Gr 2 p → kg28 p v1 v2 v3 v4 → ZJ 2 274 28 [zR 12 1, zI v1, zI v2, zI v3, zI v4] [] p (hwV (kv28 p v1 v2 v3 v4))) : ∀ (p : PM) (v1 : Int32) (v2 : Int32) (v3 : Int32) (v4 : Int32), Gr 2 p → bg12_passes_28 F218 G218 F273 G273 kg19 kg28 p v1 v2 v3 v4 → ZJ 2 274 28 [zR 12 1, zI v1, zI v2, zI v3, zI v4] [] p (hwV (bv12_passes_28 F218 F273 kv19 kv28 p v1 v2 v3 v4)) := by
  intro p v1 v2 v3 v4  hg H
  exact rwV (n := 3000) (q := 28) (la := [zR 12 1, zI v1, zI v2, zI v3, zI v4]) (sa := []) (ks := [fun _ _ s => s, fun la sa s => kv19 s (ai la 1) (ai la 2) (ai la 3), fun la sa s => kv28 s (ai la 1) (ai la 2) (ai la 3) (ai la 4), fun _ _ s => s]) (gs := [fun _ _ _ => False, fun la sa s => zsw (tc2 la [(112, 1), (0, 0), (0, 0), (0, 0), (2, 0)] && tc2 sa []) False (kg19 s (ai la 1) (ai la 2) (ai la 3)), fun la sa s => zsw (tc2 la [(112, 1), (0, 0), (0, 0), (0, 0), (0, 0)] && tc2 sa []) False (kg28 s (ai la 1) (ai la 2) (ai la 3) (ai la 4)), fun _ _ _ => False]) (fcons o272 (fcons o218 (fcons o273 (fnil)))) tab274 pc274 ⟨fun _ _ _ _ H => H.elim, fun la sa s hg H => zcut H fun H => hk19 s (ai la 1) (ai la 2) (ai la 3) (zld la 4) hg H, fun la sa s hg H => zcut H fun H => hk28 s (ai la 1) (ai la 2) (ai la 3) (ai la 4) hg H, fun _ _ _ _ H => H.elim, trivial⟩ hg H
theorem t12_passes_28 (kv2 : PM → Int32 → Int32 → PM) (kg2 : PM → Int32 → Int32 → Prop) (hk2 : ∀ (p : PM) (v1 : Int32) (v2 : Int32) (d3 d4 : ZV), Gr 2 p → kg2 p v1 v2 → ZJ 2 274 2 [zR 12 1, zI v1, zI v2, d3, d4] [] p (hwV (kv2 p v1 v2))) (kv19 : PM → Int32 → Int32 → Int32 → PM) (kg19 : PM → Int32 → Int32 → Int32 → Prop) (hk19 : ∀ (p : PM) (v1 : Int32) (v2 : Int32) (v3 : Int32) (d4 : ZV), Gr 2 p → kg19 p v1 v2 v3 → ZJ 2 274 19 [zR 12 1, zI v1, zI v2, zI v3, d4] [] p (hwV (kv19 p v1 v2 v3))) : ∀ (n : Nat), ∀ (p : PM) (v1 : Int32) (v2 : Int32) (v3 : Int32) (v4 : Int32), Gr 2 p → g12_passes_28 kg2 kg19 n p v1 v2 v3 v4 → ZJ 2 274 28 [zR 12 1, zI v1, zI v2, zI v3, zI v4] [] p (hwV (v12_passes_28 kv2 kv19 n p v1 v2 v3 v4)) := by
  intro n
  induction n with
  | zero =>
    intro p v1 v2 v3 v4  hg H
    exact H.elim
  | succ n ih => exact r12_passes_28 v12_endsAuction g12_endsAuction ok272 v12_isOpen g12_isOpen ok218 v12_hasQuote g12_hasQuote ok273 kv19 kg19 hk19 (v12_passes_28 kv2 kv19 n) (g12_passes_28 kg2 kg19 n) ih
set_option maxRecDepth 100000 in
theorem r12_passes_94 (F272 : PM → Int32 → PM) (G272 : PM → Int32 → Prop) (o272 : CalOK 2 (CC272 F272 G272)) (F218 : PM → Int32 → Int32) (G218 : PM → Int32 → Prop) (o218 : CalOK 2 (CC218 F218 G218)) (F273 : PM → Int32 → Int32 → Int32 → Int32) (G273 : PM → Int32 → Int32 → Int32 → Prop) (o273 : CalOK 2 (CC273 F273 G273)) (kv2 : PM → Int32 → Int32 → PM) (kg2 : PM → Int32 → Int32 → Prop) (hk2 : ∀ (p : PM) (v1 : Int32) (v2 : Int32) (d3 d4 : ZV), Gr 2 p → kg2 p v1 v2 → ZJ 2 274 2 [zR 12 1, zI v1, zI v2, d3, d4] [] p (hwV (kv2 p v1 v2))) (kv94 : PM → Int32 → Int32 → Int32 → PM) (kg94 : PM → Int32 → Int32 → Int32 → Prop) (hk94 : ∀ (p : PM) (v1 : Int32) (v2 : Int32) (v3 : Int32) (d4 : ZV), Gr 2 p → kg94 p v1 v2 v3 → ZJ 2 274 94 [zR 12 1, zI v1, zI v2, zI v3, d4] [] p (hwV (kv94 p v1 v2 v3))) : ∀ (p : PM) (v1 : Int32) (v2 : Int32) (v3 : Int32) (d4 : ZV), Gr 2 p → bg12_passes_94 F272 G272 kg2 kg94 p v1 v2 v3 → ZJ 2 274 94 [zR 12 1, zI v1, zI v2, zI v3, d4] [] p (hwV (bv12_passes_94 F272 kv2 kv94 p v1 v2 v3)) := by
  intro p v1 v2 v3 d4 hg H
  exact rwV (n := 3000) (q := 94) (la := [zR 12 1, zI v1, zI v2, zI v3, d4]) (sa := []) (ks := [fun la sa s => kv2 s (ai la 1) (ai la 2), fun _ _ s => s, fun _ _ s => s, fun la sa s => kv94 s (ai la 1) (ai la 2) (ai la 3)]) (gs := [fun la sa s => zsw (tc2 la [(112, 1), (0, 0), (0, 0), (2, 0), (2, 0)] && tc2 sa []) False (kg2 s (ai la 1) (ai la 2)), fun _ _ _ => False, fun _ _ _ => False, fun la sa s => zsw (tc2 la [(112, 1), (0, 0), (0, 0), (0, 0), (2, 0)] && tc2 sa []) False (kg94 s (ai la 1) (ai la 2) (ai la 3))]) (fcons o272 (fcons o218 (fcons o273 (fnil)))) tab274 pc274 ⟨fun la sa s hg H => zcut H fun H => hk2 s (ai la 1) (ai la 2) (zld la 3) (zld la 4) hg H, fun _ _ _ _ H => H.elim, fun _ _ _ _ H => H.elim, fun la sa s hg H => zcut H fun H => hk94 s (ai la 1) (ai la 2) (ai la 3) (zld la 4) hg H, trivial⟩ hg H
theorem t12_passes_94 (kv2 : PM → Int32 → Int32 → PM) (kg2 : PM → Int32 → Int32 → Prop) (hk2 : ∀ (p : PM) (v1 : Int32) (v2 : Int32) (d3 d4 : ZV), Gr 2 p → kg2 p v1 v2 → ZJ 2 274 2 [zR 12 1, zI v1, zI v2, d3, d4] [] p (hwV (kv2 p v1 v2))) : ∀ (n : Nat), ∀ (p : PM) (v1 : Int32) (v2 : Int32) (v3 : Int32) (d4 : ZV), Gr 2 p → g12_passes_94 kg2 n p v1 v2 v3 → ZJ 2 274 94 [zR 12 1, zI v1, zI v2, zI v3, d4] [] p (hwV (v12_passes_94 kv2 n p v1 v2 v3)) := by
  intro n
  induction n with
  | zero =>
    intro p v1 v2 v3 d4 hg H
    exact H.elim
  | succ n ih => exact r12_passes_94 v12_endsAuction g12_endsAuction ok272 v12_isOpen g12_isOpen ok218 v12_hasQuote g12_hasQuote ok273 kv2 kg2 hk2 (v12_passes_94 kv2 n) (g12_passes_94 kg2 n) ih
set_option maxRecDepth 100000 in
theorem r12_passes_19 (F272 : PM → Int32 → PM) (G272 : PM → Int32 → Prop) (o272 : CalOK 2 (CC272 F272 G272)) (F218 : PM → Int32 → Int32) (G218 : PM → Int32 → Prop) (o218 : CalOK 2 (CC218 F218 G218)) (F273 : PM → Int32 → Int32 → Int32 → Int32) (G273 : PM → Int32 → Int32 → Int32 → Prop) (o273 : CalOK 2 (CC273 F273 G273)) (kv28 : PM → Int32 → Int32 → Int32 → Int32 → PM) (kg28 : PM → Int32 → Int32 → Int32 → Int32 → Prop) (hk28 : ∀ (p : PM) (v1 : Int32) (v2 : Int32) (v3 : Int32) (v4 : Int32), Gr 2 p → kg28 p v1 v2 v3 v4 → ZJ 2 274 28 [zR 12 1, zI v1, zI v2, zI v3, zI v4] [] p (hwV (kv28 p v1 v2 v3 v4))) (kv94 : PM → Int32 → Int32 → Int32 → PM) (kg94 : PM → Int32 → Int32 → Int32 → Prop) (hk94 : ∀ (p : PM) (v1 : Int32) (v2 : Int32) (v3 : Int32) (d4 : ZV), Gr 2 p → kg94 p v1 v2 v3 → ZJ 2 274 94 [zR 12 1, zI v1, zI v2, zI v3, d4] [] p (hwV (kv94 p v1 v2 v3))) : ∀ (p : PM) (v1 : Int32) (v2 : Int32) (v3 : Int32) (d4 : ZV), Gr 2 p → bg12_passes_19 kg28 kg94 p v1 v2 v3 → ZJ 2 274 19 [zR 12 1, zI v1, zI v2, zI v3, d4] [] p (hwV (bv12_passes_19 kv28 kv94 p v1 v2 v3)) := by
  intro p v1 v2 v3 d4 hg H
  exact rwV (n := 3000) (q := 19) (la := [zR 12 1, zI v1, zI v2, zI v3, d4]) (sa := []) (ks := [fun _ _ s => s, fun _ _ s => s, fun la sa s => kv28 s (ai la 1) (ai la 2) (ai la 3) (ai la 4), fun la sa s => kv94 s (ai la 1) (ai la 2) (ai la 3)]) (gs := [fun _ _ _ => False, fun _ _ _ => False, fun la sa s => zsw (tc2 la [(112, 1), (0, 0), (0, 0), (0, 0), (0, 0)] && tc2 sa []) False (kg28 s (ai la 1) (ai la 2) (ai la 3) (ai la 4)), fun la sa s => zsw (tc2 la [(112, 1), (0, 0), (0, 0), (0, 0), (2, 0)] && tc2 sa []) False (kg94 s (ai la 1) (ai la 2) (ai la 3))]) (fcons o272 (fcons o218 (fcons o273 (fnil)))) tab274 pc274 ⟨fun _ _ _ _ H => H.elim, fun _ _ _ _ H => H.elim, fun la sa s hg H => zcut H fun H => hk28 s (ai la 1) (ai la 2) (ai la 3) (ai la 4) hg H, fun la sa s hg H => zcut H fun H => hk94 s (ai la 1) (ai la 2) (ai la 3) (zld la 4) hg H, trivial⟩ hg H
theorem t12_passes_19 (kv2 : PM → Int32 → Int32 → PM) (kg2 : PM → Int32 → Int32 → Prop) (hk2 : ∀ (p : PM) (v1 : Int32) (v2 : Int32) (d3 d4 : ZV), Gr 2 p → kg2 p v1 v2 → ZJ 2 274 2 [zR 12 1, zI v1, zI v2, d3, d4] [] p (hwV (kv2 p v1 v2))) : ∀ (n : Nat), ∀ (p : PM) (v1 : Int32) (v2 : Int32) (v3 : Int32) (d4 : ZV), Gr 2 p → g12_passes_19 kg2 n p v1 v2 v3 → ZJ 2 274 19 [zR 12 1, zI v1, zI v2, zI v3, d4] [] p (hwV (v12_passes_19 kv2 n p v1 v2 v3)) := by
  intro n
  induction n with
  | zero =>
    intro p v1 v2 v3 d4 hg H
    exact H.elim
  | succ n ih => exact r12_passes_19 v12_endsAuction g12_endsAuction ok272 v12_isOpen g12_isOpen ok218 v12_hasQuote g12_hasQuote ok273 (v12_passes_28 kv2 (v12_passes_19 kv2 n) FU) (g12_passes_28 kg2 (g12_passes_19 kg2 n) FU) (t12_passes_28 kv2 kg2 hk2 (v12_passes_19 kv2 n) (g12_passes_19 kg2 n) ih FU) (v12_passes_94 kv2 FU) (g12_passes_94 kg2 FU) (t12_passes_94 kv2 kg2 hk2 FU)
set_option maxRecDepth 100000 in
theorem r12_passes_2 (F272 : PM → Int32 → PM) (G272 : PM → Int32 → Prop) (o272 : CalOK 2 (CC272 F272 G272)) (F218 : PM → Int32 → Int32) (G218 : PM → Int32 → Prop) (o218 : CalOK 2 (CC218 F218 G218)) (F273 : PM → Int32 → Int32 → Int32 → Int32) (G273 : PM → Int32 → Int32 → Int32 → Prop) (o273 : CalOK 2 (CC273 F273 G273)) (kv19 : PM → Int32 → Int32 → Int32 → PM) (kg19 : PM → Int32 → Int32 → Int32 → Prop) (hk19 : ∀ (p : PM) (v1 : Int32) (v2 : Int32) (v3 : Int32) (d4 : ZV), Gr 2 p → kg19 p v1 v2 v3 → ZJ 2 274 19 [zR 12 1, zI v1, zI v2, zI v3, d4] [] p (hwV (kv19 p v1 v2 v3))) : ∀ (p : PM) (v1 : Int32) (v2 : Int32) (d3 d4 : ZV), Gr 2 p → bg12_passes_2 kg19 p v1 v2 → ZJ 2 274 2 [zR 12 1, zI v1, zI v2, d3, d4] [] p (hwV (bv12_passes_2 kv19 p v1 v2)) := by
  intro p v1 v2 d3 d4 hg H
  exact rwV (n := 3000) (q := 2) (la := [zR 12 1, zI v1, zI v2, d3, d4]) (sa := []) (ks := [fun _ _ s => s, fun la sa s => kv19 s (ai la 1) (ai la 2) (ai la 3), fun _ _ s => s, fun _ _ s => s]) (gs := [fun _ _ _ => False, fun la sa s => zsw (tc2 la [(112, 1), (0, 0), (0, 0), (0, 0), (2, 0)] && tc2 sa []) False (kg19 s (ai la 1) (ai la 2) (ai la 3)), fun _ _ _ => False, fun _ _ _ => False]) (fcons o272 (fcons o218 (fcons o273 (fnil)))) tab274 pc274 ⟨fun _ _ _ _ H => H.elim, fun la sa s hg H => zcut H fun H => hk19 s (ai la 1) (ai la 2) (ai la 3) (zld la 4) hg H, fun _ _ _ _ H => H.elim, fun _ _ _ _ H => H.elim, trivial⟩ hg H
theorem t12_passes_2 : ∀ (n : Nat), ∀ (p : PM) (v1 : Int32) (v2 : Int32) (d3 d4 : ZV), Gr 2 p → g12_passes_2 n p v1 v2 → ZJ 2 274 2 [zR 12 1, zI v1, zI v2, d3, d4] [] p (hwV (v12_passes_2 n p v1 v2)) := by
  intro n
  induction n with
  | zero =>
    intro p v1 v2 d3 d4 hg H
    exact H.elim
  | succ n ih => exact r12_passes_2 v12_endsAuction g12_endsAuction ok272 v12_isOpen g12_isOpen ok218 v12_hasQuote g12_hasQuote ok273 (v12_passes_19 (v12_passes_2 n) FU) (g12_passes_19 (g12_passes_2 n) FU) (t12_passes_19 (v12_passes_2 n) (g12_passes_2 n) ih FU)
set_option maxRecDepth 100000 in
theorem r12_passes (F272 : PM → Int32 → PM) (G272 : PM → Int32 → Prop) (o272 : CalOK 2 (CC272 F272 G272)) (F218 : PM → Int32 → Int32) (G218 : PM → Int32 → Prop) (o218 : CalOK 2 (CC218 F218 G218)) (F273 : PM → Int32 → Int32 → Int32 → Int32) (G273 : PM → Int32 → Int32 → Int32 → Prop) (o273 : CalOK 2 (CC273 F273 G273)) (kv2 : PM → Int32 → Int32 → PM) (kg2 : PM → Int32 → Int32 → Prop) (hk2 : ∀ (p : PM) (v1 : Int32) (v2 : Int32) (d3 d4 : ZV), Gr 2 p → kg2 p v1 v2 → ZJ 2 274 2 [zR 12 1, zI v1, zI v2, d3, d4] [] p (hwV (kv2 p v1 v2))) : ∀ (p : PM) (v1 : Int32), Gr 2 p → bg12_passes kg2 p v1 → ZJ 2 274 0 [zR 12 1, zI v1, zJ, zJ, zJ] [] p (hwV (bv12_passes kv2 p v1)) := by
  intro p v1  hg H
  exact rwV (n := 3000) (q := 0) (la := [zR 12 1, zI v1, zJ, zJ, zJ]) (sa := []) (ks := [fun la sa s => kv2 s (ai la 1) (ai la 2), fun _ _ s => s, fun _ _ s => s, fun _ _ s => s]) (gs := [fun la sa s => zsw (tc2 la [(112, 1), (0, 0), (0, 0), (2, 0), (2, 0)] && tc2 sa []) False (kg2 s (ai la 1) (ai la 2)), fun _ _ _ => False, fun _ _ _ => False, fun _ _ _ => False]) (fcons o272 (fcons o218 (fcons o273 (fnil)))) tab274 pc274 ⟨fun la sa s hg H => zcut H fun H => hk2 s (ai la 1) (ai la 2) (zld la 3) (zld la 4) hg H, fun _ _ _ _ H => H.elim, fun _ _ _ _ H => H.elim, fun _ _ _ _ H => H.elim, trivial⟩ hg H
theorem t12_passes : ∀ (p : PM) (v1 : Int32), Gr 2 p → g12_passes p v1 → ZJ 2 274 0 [zR 12 1, zI v1, zJ, zJ, zJ] [] p (hwV (v12_passes p v1)) := r12_passes v12_endsAuction g12_endsAuction ok272 v12_isOpen g12_isOpen ok218 v12_hasQuote g12_hasQuote ok273 (v12_passes_2 FU) (g12_passes_2 FU) (t12_passes_2 FU)
def CC274 (F : PM → Int32 → PM) (G : PM → Int32 → Prop) : Cal := (274, [15, 0], 0, false, fun as p => (zJ, (F p (ai as 1))), fun as p => zsw (tc2 as [(112, 1), (0, 0)]) False (G p (ai as 1)))
set_option maxRecDepth 100000 in
theorem okr274 (F : PM → Int32 → PM) (G : PM → Int32 → Prop) (h : ∀ (p : PM) (v1 : Int32), Gr 2 p → G p v1 → ZJ 2 274 0 [zR 12 1, zI v1, zJ, zJ, zJ] [] p (hwV (F p v1))) : CalOK 2 (CC274 F G) := cal_ok (m := 5) (by unfold mL; rw [mX_274]) (fun as p hg H => h p (ai as 1) hg H)
theorem ok274 : CalOK 2 (CC274 v12_passes g12_passes) := okr274 v12_passes g12_passes t12_passes
noncomputable def bv12_net (p : PM) (v1 : Int32) (v2 : Int32) : Int64 :=
  (((p.1 13 1 ((((cn 8) * v1) + v2)).toNatClampNeg)).toInt64 + ((p.1 13 1 (((((cn 8) * v1) + (cn 4)) + v2)).toNatClampNeg)).toInt64)
noncomputable def v12_net (p : PM) (v1 : Int32) (v2 : Int32) : Int64 := bv12_net p v1 v2
noncomputable def bg12_net (p : PM) (v1 : Int32) (v2 : Int32) : Prop :=
  (inb (((cn 8) * v1) + v2) 36) ∧ (
  (inb ((((cn 8) * v1) + (cn 4)) + v2) 36) ∧ (
  True))
noncomputable def g12_net (p : PM) (v1 : Int32) (v2 : Int32) : Prop := bg12_net p v1 v2
def R275 : List Row := [(0, .aload_n 0, 1, 0, (0, 0, 0, 0, 0, 0)), (1, .getfield 7, 3, 0, (12, 1, 16, 2, 1, 0)), (4, .bipush 8, 2, 0, (0, 0, 0, 0, 0, 8)), (6, .iload_n 1, 1, 0, (0, 0, 0, 0, 0, 0)), (7, .imul, 1, 0, (0, 0, 0, 0, 0, 0)), (8, .iload_n 2, 1, 0, (0, 0, 0, 0, 0, 0)), (9, .iadd, 1, 0, (0, 0, 0, 0, 0, 0)), (10, .iaload, 1, 0, (13, 36, 0, 0, 0, 0)), (11, .i2l, 1, 0, (0, 0, 0, 0, 0, 0)), (12, .aload_n 0, 1, 0, (0, 0, 0, 0, 0, 0)), (13, .getfield 7, 3, 0, (12, 1, 16, 2, 1, 0)), (16, .bipush 8, 2, 0, (0, 0, 0, 0, 0, 8)), (18, .iload_n 1, 1, 0, (0, 0, 0, 0, 0, 0)), (19, .imul, 1, 0, (0, 0, 0, 0, 0, 0)), (20, .iconst 4, 1, 0, (0, 0, 0, 0, 0, 4)), (21, .iadd, 1, 0, (0, 0, 0, 0, 0, 0)), (22, .iload_n 2, 1, 0, (0, 0, 0, 0, 0, 0)), (23, .iadd, 1, 0, (0, 0, 0, 0, 0, 0)), (24, .iaload, 1, 0, (13, 36, 0, 0, 0, 0)), (25, .i2l, 1, 0, (0, 0, 0, 0, 0, 0)), (26, .ladd, 1, 0, (0, 0, 0, 0, 0, 0)), (27, .lreturn, 1, 0, (0, 0, 0, 0, 0, 0))]
set_option maxRecDepth 100000 in
theorem rk275 : R275.all (rok 2 275 2 []) = true := by decide +kernel
set_option maxRecDepth 100000 in
theorem tab275 : TabOK 2 275 2 [] R275 := tab_ok (K := K275) rfl rfl (fun h => d275 h) rk275 (by decide +kernel)
set_option maxRecDepth 100000 in
theorem pc275 : cutpc [] R275 = true := by decide +kernel
set_option maxRecDepth 100000 in
theorem r12_net (p : PM) (hg : Gr 2 p) : ∀ (v1 : Int32) (v2 : Int32), bg12_net p v1 v2 → ZJ 2 275 0 [zR 12 1, zI v1, zI v2] [] p (hoL p (bv12_net p v1 v2)) := by
  intro v1 v2  H
  exact roL (n := 3000) (q := 0) (la := [zR 12 1, zI v1, zI v2]) (sa := []) (ks := []) (gs := []) (fnil) tab275 pc275 trivial hg H
theorem t12_net (p : PM) (hg : Gr 2 p) : ∀ (v1 : Int32) (v2 : Int32), g12_net p v1 v2 → ZJ 2 275 0 [zR 12 1, zI v1, zI v2] [] p (hoL p (v12_net p v1 v2)) := r12_net p hg
def CC275 (F : PM → Int32 → Int32 → Int64) (G : PM → Int32 → Int32 → Prop) : Cal := (275, [15, 0, 0], 2, true, fun as p => (zL (F p (ai as 1) (ai as 2)), p), fun as p => zsw (tc2 as [(112, 1), (0, 0), (0, 0)]) False (G p (ai as 1) (ai as 2)))
set_option maxRecDepth 100000 in
theorem okr275 (F : PM → Int32 → Int32 → Int64) (G : PM → Int32 → Int32 → Prop) (h : ∀ (p : PM) (v1 : Int32) (v2 : Int32), Gr 2 p → G p v1 v2 → ZJ 2 275 0 [zR 12 1, zI v1, zI v2] [] p (hoL p (F p v1 v2))) : CalOK 2 (CC275 F G) := cal_ok (m := 3) (by unfold mL; rw [mX_275]) (fun as p hg H => h p (ai as 1) (ai as 2) hg H)
theorem ok275 : CalOK 2 (CC275 v12_net g12_net) := okr275 v12_net g12_net (fun p v1 v2 hg H => t12_net p hg v1 v2 H)
noncomputable def bv12_risk_37 (p : PM) (F275 : PM → Int32 → Int32 → Int64) (kv5 : Int32 → Int64 → Int32 → Int64) (kv37 : Int32 → Int64 → Int32 → Int64 → Int32 → Int64) (v1 : Int32) (v2 : Int64) (v4 : Int32) (v5 : Int64) (v7 : Int32) : Int64 :=
  if v7 < (cn 4) then (
    let x1 : Int64 := (v5 - ((F275 p v1 v7) * ((p.1 13 35 ((((cn 4) * v4) + v7)).toNatClampNeg)).toInt64))
    kv37 v1 v2 v4 x1 (v7 + (cn 1)))
  else (
    if 0 < (lg_cmp v5 v2) then (
      kv5 v1 v5 (v4 + (cn 1)))
    else (
      kv5 v1 v2 (v4 + (cn 1))))
noncomputable def v12_risk_37 (p : PM) (kv5 : Int32 → Int64 → Int32 → Int64) (n : Nat) : Int32 → Int64 → Int32 → Int64 → Int32 → Int64 := Nat.rec (motive := fun _ => Int32 → Int64 → Int32 → Int64 → Int32 → Int64) (fun _ _ _ _ _ => 0) (fun _ ih => bv12_risk_37 p v12_net kv5 ih) n
theorem ev12_risk_37 (p : PM) (kv5 : Int32 → Int64 → Int32 → Int64) (n : Nat) (v1 : Int32) (v2 : Int64) (v4 : Int32) (v5 : Int64) (v7 : Int32) : v12_risk_37 p kv5 (n + 1) v1 v2 v4 v5 v7 = bv12_risk_37 p v12_net kv5 (v12_risk_37 p kv5 n) v1 v2 v4 v5 v7 := rfl
noncomputable def bg12_risk_37 (p : PM) (F275 : PM → Int32 → Int32 → Int64) (G275 : PM → Int32 → Int32 → Prop) (kg5 : Int32 → Int64 → Int32 → Prop) (kg37 : Int32 → Int64 → Int32 → Int64 → Int32 → Prop) (v1 : Int32) (v2 : Int64) (v4 : Int32) (v5 : Int64) (v7 : Int32) : Prop :=
  if v7 < (cn 4) then (
    (G275 p v1 v7) ∧ (
    (inb (((cn 4) * v4) + v7) 16) ∧ (
    let x1 : Int64 := (v5 - ((F275 p v1 v7) * ((p.1 13 35 ((((cn 4) * v4) + v7)).toNatClampNeg)).toInt64))
    kg37 v1 v2 v4 x1 (v7 + (cn 1)))))
  else (
    if 0 < (lg_cmp v5 v2) then (
      kg5 v1 v5 (v4 + (cn 1)))
    else (
      kg5 v1 v2 (v4 + (cn 1))))
noncomputable def g12_risk_37 (p : PM) (kg5 : Int32 → Int64 → Int32 → Prop) (n : Nat) : Int32 → Int64 → Int32 → Int64 → Int32 → Prop := Nat.rec (motive := fun _ => Int32 → Int64 → Int32 → Int64 → Int32 → Prop) (fun _ _ _ _ _ => False) (fun _ ih => bg12_risk_37 p v12_net g12_net kg5 ih) n
theorem eg12_risk_37 (p : PM) (kg5 : Int32 → Int64 → Int32 → Prop) (n : Nat) (v1 : Int32) (v2 : Int64) (v4 : Int32) (v5 : Int64) (v7 : Int32) : g12_risk_37 p kg5 (n + 1) v1 v2 v4 v5 v7 = bg12_risk_37 p v12_net g12_net kg5 (g12_risk_37 p kg5 n) v1 v2 v4 v5 v7 := rfl
noncomputable def bv12_risk_98 (p : PM) (F275 : PM → Int32 → Int32 → Int64) (kv98 : Int32 → Int64 → Int32 → Int64) (v1 : Int32) (v2 : Int64) (v4 : Int32) : Int64 :=
  if v4 < (cn 4) then (
    if (lg_cmp (F275 p v1 v4) (cl 0)) < 0 then (
      if 0 < (lg_cmp (-(F275 p v1 v4)) (cl 30)) then (
        let x2 : Int64 := (v2 + ((cl 5) * ((-(F275 p v1 v4)) - (cl 30))))
        kv98 v1 x2 (v4 + (cn 1)))
      else (
        kv98 v1 (v2 + (cl 0)) (v4 + (cn 1))))
    else (
      if 0 < (lg_cmp (F275 p v1 v4) (cl 30)) then (
        let x1 : Int64 := (v2 + ((cl 5) * ((F275 p v1 v4) - (cl 30))))
        kv98 v1 x1 (v4 + (cn 1)))
      else (
        kv98 v1 (v2 + (cl 0)) (v4 + (cn 1)))))
  else (
    v2)
noncomputable def v12_risk_98 (p : PM) (n : Nat) : Int32 → Int64 → Int32 → Int64 := Nat.rec (motive := fun _ => Int32 → Int64 → Int32 → Int64) (fun _ _ _ => 0) (fun _ ih => bv12_risk_98 p v12_net ih) n
theorem ev12_risk_98 (p : PM) (n : Nat) (v1 : Int32) (v2 : Int64) (v4 : Int32) : v12_risk_98 p (n + 1) v1 v2 v4 = bv12_risk_98 p v12_net (v12_risk_98 p n) v1 v2 v4 := rfl
noncomputable def bg12_risk_98 (p : PM) (F275 : PM → Int32 → Int32 → Int64) (G275 : PM → Int32 → Int32 → Prop) (kg98 : Int32 → Int64 → Int32 → Prop) (v1 : Int32) (v2 : Int64) (v4 : Int32) : Prop :=
  if v4 < (cn 4) then (
    (G275 p v1 v4) ∧ (
    if (lg_cmp (F275 p v1 v4) (cl 0)) < 0 then (
      (G275 p v1 v4) ∧ (
      if 0 < (lg_cmp (-(F275 p v1 v4)) (cl 30)) then (
        let x2 : Int64 := (v2 + ((cl 5) * ((-(F275 p v1 v4)) - (cl 30))))
        kg98 v1 x2 (v4 + (cn 1)))
      else (
        kg98 v1 (v2 + (cl 0)) (v4 + (cn 1)))))
    else (
      (G275 p v1 v4) ∧ (
      if 0 < (lg_cmp (F275 p v1 v4) (cl 30)) then (
        let x1 : Int64 := (v2 + ((cl 5) * ((F275 p v1 v4) - (cl 30))))
        kg98 v1 x1 (v4 + (cn 1)))
      else (
        kg98 v1 (v2 + (cl 0)) (v4 + (cn 1)))))))
  else (
    True)
noncomputable def g12_risk_98 (p : PM) (n : Nat) : Int32 → Int64 → Int32 → Prop := Nat.rec (motive := fun _ => Int32 → Int64 → Int32 → Prop) (fun _ _ _ => False) (fun _ ih => bg12_risk_98 p v12_net g12_net ih) n
theorem eg12_risk_98 (p : PM) (n : Nat) (v1 : Int32) (v2 : Int64) (v4 : Int32) : g12_risk_98 p (n + 1) v1 v2 v4 = bg12_risk_98 p v12_net g12_net (g12_risk_98 p n) v1 v2 v4 := rfl
noncomputable def bv12_risk_5 (p : PM) (kv37 : Int32 → Int64 → Int32 → Int64 → Int32 → Int64) (kv98 : Int32 → Int64 → Int32 → Int64) (v1 : Int32) (v2 : Int64) (v4 : Int32) : Int64 :=
  if v4 < (cn 4) then (
    let x1 : Int64 := ((-((p.1 13 37 (v1).toNatClampNeg)).toInt64) * ((p.1 13 35 ((((cn 4) * v4) + (cn 1))).toNatClampNeg)).toInt64)
    kv37 v1 v2 v4 x1 (cn 0))
  else (
    kv98 v1 v2 (cn 0))
noncomputable def v12_risk_5 (p : PM) (n : Nat) : Int32 → Int64 → Int32 → Int64 := Nat.rec (motive := fun _ => Int32 → Int64 → Int32 → Int64) (fun _ _ _ => 0) (fun _ ih => bv12_risk_5 p (v12_risk_37 p ih FU) (v12_risk_98 p FU)) n
theorem ev12_risk_5 (p : PM) (n : Nat) (v1 : Int32) (v2 : Int64) (v4 : Int32) : v12_risk_5 p (n + 1) v1 v2 v4 = bv12_risk_5 p (v12_risk_37 p (v12_risk_5 p n) FU) (v12_risk_98 p FU) v1 v2 v4 := rfl
noncomputable def bg12_risk_5 (p : PM) (kg37 : Int32 → Int64 → Int32 → Int64 → Int32 → Prop) (kg98 : Int32 → Int64 → Int32 → Prop) (v1 : Int32) (v2 : Int64) (v4 : Int32) : Prop :=
  if v4 < (cn 4) then (
    (inb v1 4) ∧ (
    (inb (((cn 4) * v4) + (cn 1)) 16) ∧ (
    let x1 : Int64 := ((-((p.1 13 37 (v1).toNatClampNeg)).toInt64) * ((p.1 13 35 ((((cn 4) * v4) + (cn 1))).toNatClampNeg)).toInt64)
    kg37 v1 v2 v4 x1 (cn 0))))
  else (
    kg98 v1 v2 (cn 0))
noncomputable def g12_risk_5 (p : PM) (n : Nat) : Int32 → Int64 → Int32 → Prop := Nat.rec (motive := fun _ => Int32 → Int64 → Int32 → Prop) (fun _ _ _ => False) (fun _ ih => bg12_risk_5 p (g12_risk_37 p ih FU) (g12_risk_98 p FU)) n
theorem eg12_risk_5 (p : PM) (n : Nat) (v1 : Int32) (v2 : Int64) (v4 : Int32) : g12_risk_5 p (n + 1) v1 v2 v4 = bg12_risk_5 p (g12_risk_37 p (g12_risk_5 p n) FU) (g12_risk_98 p FU) v1 v2 v4 := rfl
noncomputable def bv12_risk (p : PM) (kv5 : Int32 → Int64 → Int32 → Int64) (v1 : Int32) : Int64 :=
  kv5 v1 (cl 0) (cn 0)
noncomputable def v12_risk (p : PM) (v1 : Int32) : Int64 := bv12_risk p (v12_risk_5 p FU) v1
noncomputable def bg12_risk (p : PM) (kg5 : Int32 → Int64 → Int32 → Prop) (v1 : Int32) : Prop :=
  kg5 v1 (cl 0) (cn 0)
noncomputable def g12_risk (p : PM) (v1 : Int32) : Prop := bg12_risk p (g12_risk_5 p FU) v1
def R276 : List Row := [(0, .lconst 0, 1, 0, (0, 0, 0, 0, 0, 0)), (1, .lstore_n 2, 1, 0, (0, 0, 0, 0, 0, 0)), (2, .iconst 0, 1, 0, (0, 0, 0, 0, 0, 0)), (3, .istore 4, 2, 0, (0, 0, 0, 0, 0, 0)), (5, .iload 4, 2, 1, (0, 0, 0, 0, 0, 0)), (7, .iconst 4, 1, 0, (0, 0, 0, 0, 0, 4)), (8, .if_icmp .ge 87, 3, 0, (0, 0, 0, 0, 0, 0)), (11, .aload_n 0, 1, 0, (0, 0, 0, 0, 0, 0)), (12, .getfield 147, 3, 0, (12, 52, 16, 2, 37, 0)), (15, .iload_n 1, 1, 0, (0, 0, 0, 0, 0, 0)), (16, .iaload, 1, 0, (13, 4, 0, 0, 0, 0)), (17, .i2l, 1, 0, (0, 0, 0, 0, 0, 0)), (18, .lneg, 1, 0, (0, 0, 0, 0, 0, 0)), (19, .aload_n 0, 1, 0, (0, 0, 0, 0, 0, 0)), (20, .getfield 141, 3, 0, (12, 49, 16, 2, 35, 0)), (23, .iconst 4, 1, 0, (0, 0, 0, 0, 0, 4)), (24, .iload 4, 2, 0, (0, 0, 0, 0, 0, 0)), (26, .imul, 1, 0, (0, 0, 0, 0, 0, 0)), (27, .iconst 1, 1, 0, (0, 0, 0, 0, 0, 1)), (28, .iadd, 1, 0, (0, 0, 0, 0, 0, 0)), (29, .iaload, 1, 0, (13, 16, 0, 0, 0, 0)), (30, .i2l, 1, 0, (0, 0, 0, 0, 0, 0)), (31, .lmul, 1, 0, (0, 0, 0, 0, 0, 0)), (32, .lstore 5, 2, 0, (0, 0, 0, 0, 0, 0)), (34, .iconst 0, 1, 0, (0, 0, 0, 0, 0, 0)), (35, .istore 7, 2, 0, (0, 0, 0, 0, 0, 0)), (37, .iload 7, 2, 2, (0, 0, 0, 0, 0, 0)), (39, .iconst 4, 1, 0, (0, 0, 0, 0, 0, 4)), (40, .if_icmp .ge 35, 3, 0, (0, 0, 0, 0, 0, 0)), (43, .lload 5, 2, 0, (0, 0, 0, 0, 0, 0)), (45, .aload_n 0, 1, 0, (0, 0, 0, 0, 0, 0)), (46, .iload_n 1, 1, 0, (0, 0, 0, 0, 0, 0)), (47, .iload 7, 2, 0, (0, 0, 0, 0, 0, 0)), (49, .invokevirtual 399, 3, 0, (0, 3, 0, 0, 1, 0)), (52, .aload_n 0, 1, 0, (0, 0, 0, 0, 0, 0)), (53, .getfield 141, 3, 0, (12, 49, 16, 2, 35, 0)), (56, .iconst 4, 1, 0, (0, 0, 0, 0, 0, 4)), (57, .iload 4, 2, 0, (0, 0, 0, 0, 0, 0)), (59, .imul, 1, 0, (0, 0, 0, 0, 0, 0)), (60, .iload 7, 2, 0, (0, 0, 0, 0, 0, 0)), (62, .iadd, 1, 0, (0, 0, 0, 0, 0, 0)), (63, .iaload, 1, 0, (13, 16, 0, 0, 0, 0)), (64, .i2l, 1, 0, (0, 0, 0, 0, 0, 0)), (65, .lmul, 1, 0, (0, 0, 0, 0, 0, 0)), (66, .lsub, 1, 0, (0, 0, 0, 0, 0, 0)), (67, .lstore 5, 2, 0, (0, 0, 0, 0, 0, 0)), (69, .iinc 7 1, 3, 0, (0, 0, 0, 0, 0, 1)), (72, .goto (-35), 3, 0, (0, 0, 0, 0, 0, 0)), (75, .lload 5, 2, 0, (0, 0, 0, 0, 0, 0)), (77, .lload_n 2, 1, 0, (0, 0, 0, 0, 0, 0)), (78, .lcmp, 1, 0, (0, 0, 0, 0, 0, 0)), (79, .ifCond .le 8, 3, 0, (0, 0, 0, 0, 0, 0)), (82, .lload 5, 2, 0, (0, 0, 0, 0, 0, 0)), (84, .goto 4, 3, 0, (0, 0, 0, 0, 0, 0)), (87, .lload_n 2, 1, 0, (0, 0, 0, 0, 0, 0)), (88, .lstore_n 2, 1, 0, (0, 0, 0, 0, 0, 0)), (89, .iinc 4 1, 3, 0, (0, 0, 0, 0, 0, 1)), (92, .goto (-87), 3, 0, (0, 0, 0, 0, 0, 0)), (95, .iconst 0, 1, 0, (0, 0, 0, 0, 0, 0)), (96, .istore 4, 2, 0, (0, 0, 0, 0, 0, 0)), (98, .iload 4, 2, 3, (0, 0, 0, 0, 0, 0)), (100, .iconst 4, 1, 0, (0, 0, 0, 0, 0, 4)), (101, .if_icmp .ge 67, 3, 0, (0, 0, 0, 0, 0, 0)), (104, .aload_n 0, 1, 0, (0, 0, 0, 0, 0, 0)), (105, .iload_n 1, 1, 0, (0, 0, 0, 0, 0, 0)), (106, .iload 4, 2, 0, (0, 0, 0, 0, 0, 0)), (108, .invokevirtual 399, 3, 0, (0, 3, 0, 0, 1, 0)), (111, .lconst 0, 1, 0, (0, 0, 0, 0, 0, 0)), (112, .lcmp, 1, 0, (0, 0, 0, 0, 0, 0)), (113, .ifCond .ge 14, 3, 0, (0, 0, 0, 0, 0, 0)), (116, .aload_n 0, 1, 0, (0, 0, 0, 0, 0, 0)), (117, .iload_n 1, 1, 0, (0, 0, 0, 0, 0, 0)), (118, .iload 4, 2, 0, (0, 0, 0, 0, 0, 0)), (120, .invokevirtual 399, 3, 0, (0, 3, 0, 0, 1, 0)), (123, .lneg, 1, 0, (0, 0, 0, 0, 0, 0)), (124, .goto 10, 3, 0, (0, 0, 0, 0, 0, 0)), (127, .aload_n 0, 1, 0, (0, 0, 0, 0, 0, 0)), (128, .iload_n 1, 1, 0, (0, 0, 0, 0, 0, 0)), (129, .iload 4, 2, 0, (0, 0, 0, 0, 0, 0)), (131, .invokevirtual 399, 3, 0, (0, 3, 0, 0, 1, 0)), (134, .lstore 5, 2, 0, (0, 0, 0, 0, 0, 0)), (136, .lload_n 2, 1, 0, (0, 0, 0, 0, 0, 0)), (137, .lload 5, 2, 0, (0, 0, 0, 0, 0, 0)), (139, .ldc2_w 403, 3, 0, (0, 0, 0, 0, 0, 30)), (142, .lcmp, 1, 0, (0, 0, 0, 0, 0, 0)), (143, .ifCond .le 16, 3, 0, (0, 0, 0, 0, 0, 0)), (146, .ldc2_w 405, 3, 0, (0, 0, 0, 0, 0, 5)), (149, .lload 5, 2, 0, (0, 0, 0, 0, 0, 0)), (151, .ldc2_w 403, 3, 0, (0, 0, 0, 0, 0, 30)), (154, .lsub, 1, 0, (0, 0, 0, 0, 0, 0)), (155, .lmul, 1, 0, (0, 0, 0, 0, 0, 0)), (156, .goto 4, 3, 0, (0, 0, 0, 0, 0, 0)), (159, .lconst 0, 1, 0, (0, 0, 0, 0, 0, 0)), (160, .ladd, 1, 0, (0, 0, 0, 0, 0, 0)), (161, .lstore_n 2, 1, 0, (0, 0, 0, 0, 0, 0)), (162, .iinc 4 1, 3, 0, (0, 0, 0, 0, 0, 1)), (165, .goto (-67), 3, 0, (0, 0, 0, 0, 0, 0)), (168, .lload_n 2, 1, 0, (0, 0, 0, 0, 0, 0)), (169, .lreturn, 1, 0, (0, 0, 0, 0, 0, 0))]
set_option maxRecDepth 100000 in
theorem rk276 : R276.all (rok 2 276 2 [(275, [15, 0, 0])]) = true := by decide +kernel
set_option maxRecDepth 100000 in
theorem tab276 {F275 : PM → Int32 → Int32 → Int64} {G275 : PM → Int32 → Int32 → Prop} : TabOK 2 276 2 [CC275 F275 G275] R276 := tab_ok (K := K276) rfl rfl (fun h => d276 h) rk276 (by decide +kernel)
set_option maxRecDepth 100000 in
theorem pc276 : cutpc [5, 37, 98] R276 = true := by decide +kernel
set_option maxRecDepth 100000 in
theorem r12_risk_37 (p : PM) (hg : Gr 2 p) (F275 : PM → Int32 → Int32 → Int64) (G275 : PM → Int32 → Int32 → Prop) (o275 : CalOK 2 (CC275 F275 G275)) (kv5 : Int32 → Int64 → Int32 → Int64) (kg5 : Int32 → Int64 → Int32 → Prop) (hk5 : ∀ (v1 : Int32) (v2 : Int64) (v4 : Int32) (d3 d5 d6 d7 : ZV), kg5 v1 v2 v4 → ZJ 2 276 5 [zR 12 1, zI v1, zL v2, d3, zI v4, d5, d6, d7] [] p (hoL p (kv5 v1 v2 v4))) (kv37 : Int32 → Int64 → Int32 → Int64 → Int32 → Int64) (kg37 : Int32 → Int64 → Int32 → Int64 → Int32 → Prop) (hk37 : ∀ (v1 : Int32) (v2 : Int64) (v4 : Int32) (v5 : Int64) (v7 : Int32) (d3 d6 : ZV), kg37 v1 v2 v4 v5 v7 → ZJ 2 276 37 [zR 12 1, zI v1, zL v2, d3, zI v4, zL v5, d6, zI v7] [] p (hoL p (kv37 v1 v2 v4 v5 v7))) : ∀ (v1 : Int32) (v2 : Int64) (v4 : Int32) (v5 : Int64) (v7 : Int32) (d3 d6 : ZV), bg12_risk_37 p F275 G275 kg5 kg37 v1 v2 v4 v5 v7 → ZJ 2 276 37 [zR 12 1, zI v1, zL v2, d3, zI v4, zL v5, d6, zI v7] [] p (hoL p (bv12_risk_37 p F275 kv5 kv37 v1 v2 v4 v5 v7)) := by
  intro v1 v2 v4 v5 v7 d3 d6 H
  exact roL (n := 3000) (q := 37) (la := [zR 12 1, zI v1, zL v2, d3, zI v4, zL v5, d6, zI v7]) (sa := []) (ks := [fun la sa _ => kv5 (ai la 1) (al la 2) (ai la 4), fun la sa _ => kv37 (ai la 1) (al la 2) (ai la 4) (al la 5) (ai la 7), fun _ _ _ => 0]) (gs := [fun la sa _ => zsw (tc2 la [(112, 1), (0, 0), (1, 0), (2, 0), (0, 0), (2, 0), (2, 0), (2, 0)] && tc2 sa []) False (kg5 (ai la 1) (al la 2) (ai la 4)), fun la sa _ => zsw (tc2 la [(112, 1), (0, 0), (1, 0), (2, 0), (0, 0), (1, 0), (2, 0), (0, 0)] && tc2 sa []) False (kg37 (ai la 1) (al la 2) (ai la 4) (al la 5) (ai la 7)), fun _ _ _ => False]) (fcons o275 (fnil)) tab276 pc276 ⟨fun la sa s hg H => zcut H fun H => hk5 (ai la 1) (al la 2) (ai la 4) (zld la 3) (zld la 5) (zld la 6) (zld la 7) H, fun la sa s hg H => zcut H fun H => hk37 (ai la 1) (al la 2) (ai la 4) (al la 5) (ai la 7) (zld la 3) (zld la 6) H, fun _ _ _ _ H => H.elim, trivial⟩ hg H
theorem t12_risk_37 (p : PM) (hg : Gr 2 p) (kv5 : Int32 → Int64 → Int32 → Int64) (kg5 : Int32 → Int64 → Int32 → Prop) (hk5 : ∀ (v1 : Int32) (v2 : Int64) (v4 : Int32) (d3 d5 d6 d7 : ZV), kg5 v1 v2 v4 → ZJ 2 276 5 [zR 12 1, zI v1, zL v2, d3, zI v4, d5, d6, d7] [] p (hoL p (kv5 v1 v2 v4))) : ∀ (n : Nat), ∀ (v1 : Int32) (v2 : Int64) (v4 : Int32) (v5 : Int64) (v7 : Int32) (d3 d6 : ZV), g12_risk_37 p kg5 n v1 v2 v4 v5 v7 → ZJ 2 276 37 [zR 12 1, zI v1, zL v2, d3, zI v4, zL v5, d6, zI v7] [] p (hoL p (v12_risk_37 p kv5 n v1 v2 v4 v5 v7)) := by
  intro n
  induction n with
  | zero =>
    intro v1 v2 v4 v5 v7 d3 d6 H
    exact H.elim
  | succ n ih => exact r12_risk_37 p hg v12_net g12_net ok275 kv5 kg5 hk5 (v12_risk_37 p kv5 n) (g12_risk_37 p kg5 n) ih
set_option maxRecDepth 100000 in
theorem r12_risk_98 (p : PM) (hg : Gr 2 p) (F275 : PM → Int32 → Int32 → Int64) (G275 : PM → Int32 → Int32 → Prop) (o275 : CalOK 2 (CC275 F275 G275)) (kv98 : Int32 → Int64 → Int32 → Int64) (kg98 : Int32 → Int64 → Int32 → Prop) (hk98 : ∀ (v1 : Int32) (v2 : Int64) (v4 : Int32) (d3 d5 d6 d7 : ZV), kg98 v1 v2 v4 → ZJ 2 276 98 [zR 12 1, zI v1, zL v2, d3, zI v4, d5, d6, d7] [] p (hoL p (kv98 v1 v2 v4))) : ∀ (v1 : Int32) (v2 : Int64) (v4 : Int32) (d3 d5 d6 d7 : ZV), bg12_risk_98 p F275 G275 kg98 v1 v2 v4 → ZJ 2 276 98 [zR 12 1, zI v1, zL v2, d3, zI v4, d5, d6, d7] [] p (hoL p (bv12_risk_98 p F275 kv98 v1 v2 v4)) := by
  intro v1 v2 v4 d3 d5 d6 d7 H
  exact roL (n := 3000) (q := 98) (la := [zR 12 1, zI v1, zL v2, d3, zI v4, d5, d6, d7]) (sa := []) (ks := [fun _ _ _ => 0, fun _ _ _ => 0, fun la sa _ => kv98 (ai la 1) (al la 2) (ai la 4)]) (gs := [fun _ _ _ => False, fun _ _ _ => False, fun la sa _ => zsw (tc2 la [(112, 1), (0, 0), (1, 0), (2, 0), (0, 0), (2, 0), (2, 0), (2, 0)] && tc2 sa []) False (kg98 (ai la 1) (al la 2) (ai la 4))]) (fcons o275 (fnil)) tab276 pc276 ⟨fun _ _ _ _ H => H.elim, fun _ _ _ _ H => H.elim, fun la sa s hg H => zcut H fun H => hk98 (ai la 1) (al la 2) (ai la 4) (zld la 3) (zld la 5) (zld la 6) (zld la 7) H, trivial⟩ hg H
theorem t12_risk_98 (p : PM) (hg : Gr 2 p) : ∀ (n : Nat), ∀ (v1 : Int32) (v2 : Int64) (v4 : Int32) (d3 d5 d6 d7 : ZV), g12_risk_98 p n v1 v2 v4 → ZJ 2 276 98 [zR 12 1, zI v1, zL v2, d3, zI v4, d5, d6, d7] [] p (hoL p (v12_risk_98 p n v1 v2 v4)) := by
  intro n
  induction n with
  | zero =>
    intro v1 v2 v4 d3 d5 d6 d7 H
    exact H.elim
  | succ n ih => exact r12_risk_98 p hg v12_net g12_net ok275 (v12_risk_98 p n) (g12_risk_98 p n) ih
set_option maxRecDepth 100000 in
theorem r12_risk_5 (p : PM) (hg : Gr 2 p) (F275 : PM → Int32 → Int32 → Int64) (G275 : PM → Int32 → Int32 → Prop) (o275 : CalOK 2 (CC275 F275 G275)) (kv37 : Int32 → Int64 → Int32 → Int64 → Int32 → Int64) (kg37 : Int32 → Int64 → Int32 → Int64 → Int32 → Prop) (hk37 : ∀ (v1 : Int32) (v2 : Int64) (v4 : Int32) (v5 : Int64) (v7 : Int32) (d3 d6 : ZV), kg37 v1 v2 v4 v5 v7 → ZJ 2 276 37 [zR 12 1, zI v1, zL v2, d3, zI v4, zL v5, d6, zI v7] [] p (hoL p (kv37 v1 v2 v4 v5 v7))) (kv98 : Int32 → Int64 → Int32 → Int64) (kg98 : Int32 → Int64 → Int32 → Prop) (hk98 : ∀ (v1 : Int32) (v2 : Int64) (v4 : Int32) (d3 d5 d6 d7 : ZV), kg98 v1 v2 v4 → ZJ 2 276 98 [zR 12 1, zI v1, zL v2, d3, zI v4, d5, d6, d7] [] p (hoL p (kv98 v1 v2 v4))) : ∀ (v1 : Int32) (v2 : Int64) (v4 : Int32) (d3 d5 d6 d7 : ZV), bg12_risk_5 p kg37 kg98 v1 v2 v4 → ZJ 2 276 5 [zR 12 1, zI v1, zL v2, d3, zI v4, d5, d6, d7] [] p (hoL p (bv12_risk_5 p kv37 kv98 v1 v2 v4)) := by
  intro v1 v2 v4 d3 d5 d6 d7 H
  exact roL (n := 3000) (q := 5) (la := [zR 12 1, zI v1, zL v2, d3, zI v4, d5, d6, d7]) (sa := []) (ks := [fun _ _ _ => 0, fun la sa _ => kv37 (ai la 1) (al la 2) (ai la 4) (al la 5) (ai la 7), fun la sa _ => kv98 (ai la 1) (al la 2) (ai la 4)]) (gs := [fun _ _ _ => False, fun la sa _ => zsw (tc2 la [(112, 1), (0, 0), (1, 0), (2, 0), (0, 0), (1, 0), (2, 0), (0, 0)] && tc2 sa []) False (kg37 (ai la 1) (al la 2) (ai la 4) (al la 5) (ai la 7)), fun la sa _ => zsw (tc2 la [(112, 1), (0, 0), (1, 0), (2, 0), (0, 0), (2, 0), (2, 0), (2, 0)] && tc2 sa []) False (kg98 (ai la 1) (al la 2) (ai la 4))]) (fcons o275 (fnil)) tab276 pc276 ⟨fun _ _ _ _ H => H.elim, fun la sa s hg H => zcut H fun H => hk37 (ai la 1) (al la 2) (ai la 4) (al la 5) (ai la 7) (zld la 3) (zld la 6) H, fun la sa s hg H => zcut H fun H => hk98 (ai la 1) (al la 2) (ai la 4) (zld la 3) (zld la 5) (zld la 6) (zld la 7) H, trivial⟩ hg H
theorem t12_risk_5 (p : PM) (hg : Gr 2 p) : ∀ (n : Nat), ∀ (v1 : Int32) (v2 : Int64) (v4 : Int32) (d3 d5 d6 d7 : ZV), g12_risk_5 p n v1 v2 v4 → ZJ 2 276 5 [zR 12 1, zI v1, zL v2, d3, zI v4, d5, d6, d7] [] p (hoL p (v12_risk_5 p n v1 v2 v4)) := by
  intro n
  induction n with
  | zero =>
    intro v1 v2 v4 d3 d5 d6 d7 H
    exact H.elim
  | succ n ih => exact r12_risk_5 p hg v12_net g12_net ok275 (v12_risk_37 p (v12_risk_5 p n) FU) (g12_risk_37 p (g12_risk_5 p n) FU) (t12_risk_37 p hg (v12_risk_5 p n) (g12_risk_5 p n) ih FU) (v12_risk_98 p FU) (g12_risk_98 p FU) (t12_risk_98 p hg FU)
set_option maxRecDepth 100000 in
theorem r12_risk (p : PM) (hg : Gr 2 p) (F275 : PM → Int32 → Int32 → Int64) (G275 : PM → Int32 → Int32 → Prop) (o275 : CalOK 2 (CC275 F275 G275)) (kv5 : Int32 → Int64 → Int32 → Int64) (kg5 : Int32 → Int64 → Int32 → Prop) (hk5 : ∀ (v1 : Int32) (v2 : Int64) (v4 : Int32) (d3 d5 d6 d7 : ZV), kg5 v1 v2 v4 → ZJ 2 276 5 [zR 12 1, zI v1, zL v2, d3, zI v4, d5, d6, d7] [] p (hoL p (kv5 v1 v2 v4))) : ∀ (v1 : Int32), bg12_risk p kg5 v1 → ZJ 2 276 0 [zR 12 1, zI v1, zJ, zJ, zJ, zJ, zJ, zJ] [] p (hoL p (bv12_risk p kv5 v1)) := by
  intro v1  H
  exact roL (n := 3000) (q := 0) (la := [zR 12 1, zI v1, zJ, zJ, zJ, zJ, zJ, zJ]) (sa := []) (ks := [fun la sa _ => kv5 (ai la 1) (al la 2) (ai la 4), fun _ _ _ => 0, fun _ _ _ => 0]) (gs := [fun la sa _ => zsw (tc2 la [(112, 1), (0, 0), (1, 0), (2, 0), (0, 0), (2, 0), (2, 0), (2, 0)] && tc2 sa []) False (kg5 (ai la 1) (al la 2) (ai la 4)), fun _ _ _ => False, fun _ _ _ => False]) (fcons o275 (fnil)) tab276 pc276 ⟨fun la sa s hg H => zcut H fun H => hk5 (ai la 1) (al la 2) (ai la 4) (zld la 3) (zld la 5) (zld la 6) (zld la 7) H, fun _ _ _ _ H => H.elim, fun _ _ _ _ H => H.elim, trivial⟩ hg H
theorem t12_risk (p : PM) (hg : Gr 2 p) : ∀ (v1 : Int32), g12_risk p v1 → ZJ 2 276 0 [zR 12 1, zI v1, zJ, zJ, zJ, zJ, zJ, zJ] [] p (hoL p (v12_risk p v1)) := r12_risk p hg v12_net g12_net ok275 (v12_risk_5 p FU) (g12_risk_5 p FU) (t12_risk_5 p hg FU)
def CC276 (F : PM → Int32 → Int64) (G : PM → Int32 → Prop) : Cal := (276, [15, 0], 2, true, fun as p => (zL (F p (ai as 1)), p), fun as p => zsw (tc2 as [(112, 1), (0, 0)]) False (G p (ai as 1)))
set_option maxRecDepth 100000 in
theorem okr276 (F : PM → Int32 → Int64) (G : PM → Int32 → Prop) (h : ∀ (p : PM) (v1 : Int32), Gr 2 p → G p v1 → ZJ 2 276 0 [zR 12 1, zI v1, zJ, zJ, zJ, zJ, zJ, zJ] [] p (hoL p (F p v1))) : CalOK 2 (CC276 F G) := cal_ok (m := 8) (by unfold mL; rw [mX_276]) (fun as p hg H => h p (ai as 1) hg H)
theorem ok276 : CalOK 2 (CC276 v12_risk g12_risk) := okr276 v12_risk g12_risk (fun p v1 hg H => t12_risk p hg v1 H)
noncomputable def bv12_worth_5 (p : PM) (F275 : PM → Int32 → Int32 → Int64) (kv5 : Int32 → Int64 → Int32 → Int64) (v1 : Int32) (v2 : Int64) (v4 : Int32) : Int64 :=
  if v4 < (cn 4) then (
    let x1 : Int64 := (v2 + ((F275 p v1 v4) * ((p.1 13 10 (v4).toNatClampNeg)).toInt64))
    kv5 v1 x1 (v4 + (cn 1)))
  else (
    v2)
noncomputable def v12_worth_5 (p : PM) (n : Nat) : Int32 → Int64 → Int32 → Int64 := Nat.rec (motive := fun _ => Int32 → Int64 → Int32 → Int64) (fun _ _ _ => 0) (fun _ ih => bv12_worth_5 p v12_net ih) n
theorem ev12_worth_5 (p : PM) (n : Nat) (v1 : Int32) (v2 : Int64) (v4 : Int32) : v12_worth_5 p (n + 1) v1 v2 v4 = bv12_worth_5 p v12_net (v12_worth_5 p n) v1 v2 v4 := rfl
noncomputable def bg12_worth_5 (p : PM) (F275 : PM → Int32 → Int32 → Int64) (G275 : PM → Int32 → Int32 → Prop) (kg5 : Int32 → Int64 → Int32 → Prop) (v1 : Int32) (v2 : Int64) (v4 : Int32) : Prop :=
  if v4 < (cn 4) then (
    (G275 p v1 v4) ∧ (
    (inb v4 6) ∧ (
    let x1 : Int64 := (v2 + ((F275 p v1 v4) * ((p.1 13 10 (v4).toNatClampNeg)).toInt64))
    kg5 v1 x1 (v4 + (cn 1)))))
  else (
    True)
noncomputable def g12_worth_5 (p : PM) (n : Nat) : Int32 → Int64 → Int32 → Prop := Nat.rec (motive := fun _ => Int32 → Int64 → Int32 → Prop) (fun _ _ _ => False) (fun _ ih => bg12_worth_5 p v12_net g12_net ih) n
theorem eg12_worth_5 (p : PM) (n : Nat) (v1 : Int32) (v2 : Int64) (v4 : Int32) : g12_worth_5 p (n + 1) v1 v2 v4 = bg12_worth_5 p v12_net g12_net (g12_worth_5 p n) v1 v2 v4 := rfl
noncomputable def bv12_worth (p : PM) (kv5 : Int32 → Int64 → Int32 → Int64) (v1 : Int32) : Int64 :=
  kv5 v1 (cl 0) (cn 0)
noncomputable def v12_worth (p : PM) (v1 : Int32) : Int64 := bv12_worth p (v12_worth_5 p FU) v1
noncomputable def bg12_worth (p : PM) (kg5 : Int32 → Int64 → Int32 → Prop) (v1 : Int32) : Prop :=
  kg5 v1 (cl 0) (cn 0)
noncomputable def g12_worth (p : PM) (v1 : Int32) : Prop := bg12_worth p (g12_worth_5 p FU) v1
def R277 : List Row := [(0, .lconst 0, 1, 0, (0, 0, 0, 0, 0, 0)), (1, .lstore_n 2, 1, 0, (0, 0, 0, 0, 0, 0)), (2, .iconst 0, 1, 0, (0, 0, 0, 0, 0, 0)), (3, .istore 4, 2, 0, (0, 0, 0, 0, 0, 0)), (5, .iload 4, 2, 1, (0, 0, 0, 0, 0, 0)), (7, .iconst 4, 1, 0, (0, 0, 0, 0, 0, 4)), (8, .if_icmp .ge 28, 3, 0, (0, 0, 0, 0, 0, 0)), (11, .lload_n 2, 1, 0, (0, 0, 0, 0, 0, 0)), (12, .aload_n 0, 1, 0, (0, 0, 0, 0, 0, 0)), (13, .iload_n 1, 1, 0, (0, 0, 0, 0, 0, 0)), (14, .iload 4, 2, 0, (0, 0, 0, 0, 0, 0)), (16, .invokevirtual 399, 3, 0, (0, 3, 0, 0, 1, 0)), (19, .aload_n 0, 1, 0, (0, 0, 0, 0, 0, 0)), (20, .getfield 45, 3, 0, (12, 12, 16, 2, 10, 0)), (23, .iload 4, 2, 0, (0, 0, 0, 0, 0, 0)), (25, .iaload, 1, 0, (13, 6, 0, 0, 0, 0)), (26, .i2l, 1, 0, (0, 0, 0, 0, 0, 0)), (27, .lmul, 1, 0, (0, 0, 0, 0, 0, 0)), (28, .ladd, 1, 0, (0, 0, 0, 0, 0, 0)), (29, .lstore_n 2, 1, 0, (0, 0, 0, 0, 0, 0)), (30, .iinc 4 1, 3, 0, (0, 0, 0, 0, 0, 1)), (33, .goto (-28), 3, 0, (0, 0, 0, 0, 0, 0)), (36, .lload_n 2, 1, 0, (0, 0, 0, 0, 0, 0)), (37, .lreturn, 1, 0, (0, 0, 0, 0, 0, 0))]
set_option maxRecDepth 100000 in
theorem rk277 : R277.all (rok 2 277 2 [(275, [15, 0, 0])]) = true := by decide +kernel
set_option maxRecDepth 100000 in
theorem tab277 {F275 : PM → Int32 → Int32 → Int64} {G275 : PM → Int32 → Int32 → Prop} : TabOK 2 277 2 [CC275 F275 G275] R277 := tab_ok (K := K277) rfl rfl (fun h => d277 h) rk277 (by decide +kernel)
set_option maxRecDepth 100000 in
theorem pc277 : cutpc [5] R277 = true := by decide +kernel
set_option maxRecDepth 100000 in
theorem r12_worth_5 (p : PM) (hg : Gr 2 p) (F275 : PM → Int32 → Int32 → Int64) (G275 : PM → Int32 → Int32 → Prop) (o275 : CalOK 2 (CC275 F275 G275)) (kv5 : Int32 → Int64 → Int32 → Int64) (kg5 : Int32 → Int64 → Int32 → Prop) (hk5 : ∀ (v1 : Int32) (v2 : Int64) (v4 : Int32) (d3 : ZV), kg5 v1 v2 v4 → ZJ 2 277 5 [zR 12 1, zI v1, zL v2, d3, zI v4] [] p (hoL p (kv5 v1 v2 v4))) : ∀ (v1 : Int32) (v2 : Int64) (v4 : Int32) (d3 : ZV), bg12_worth_5 p F275 G275 kg5 v1 v2 v4 → ZJ 2 277 5 [zR 12 1, zI v1, zL v2, d3, zI v4] [] p (hoL p (bv12_worth_5 p F275 kv5 v1 v2 v4)) := by
  intro v1 v2 v4 d3 H
  exact roL (n := 3000) (q := 5) (la := [zR 12 1, zI v1, zL v2, d3, zI v4]) (sa := []) (ks := [fun la sa _ => kv5 (ai la 1) (al la 2) (ai la 4)]) (gs := [fun la sa _ => zsw (tc2 la [(112, 1), (0, 0), (1, 0), (2, 0), (0, 0)] && tc2 sa []) False (kg5 (ai la 1) (al la 2) (ai la 4))]) (fcons o275 (fnil)) tab277 pc277 ⟨fun la sa s hg H => zcut H fun H => hk5 (ai la 1) (al la 2) (ai la 4) (zld la 3) H, trivial⟩ hg H
theorem t12_worth_5 (p : PM) (hg : Gr 2 p) : ∀ (n : Nat), ∀ (v1 : Int32) (v2 : Int64) (v4 : Int32) (d3 : ZV), g12_worth_5 p n v1 v2 v4 → ZJ 2 277 5 [zR 12 1, zI v1, zL v2, d3, zI v4] [] p (hoL p (v12_worth_5 p n v1 v2 v4)) := by
  intro n
  induction n with
  | zero =>
    intro v1 v2 v4 d3 H
    exact H.elim
  | succ n ih => exact r12_worth_5 p hg v12_net g12_net ok275 (v12_worth_5 p n) (g12_worth_5 p n) ih
set_option maxRecDepth 100000 in
theorem r12_worth (p : PM) (hg : Gr 2 p) (F275 : PM → Int32 → Int32 → Int64) (G275 : PM → Int32 → Int32 → Prop) (o275 : CalOK 2 (CC275 F275 G275)) (kv5 : Int32 → Int64 → Int32 → Int64) (kg5 : Int32 → Int64 → Int32 → Prop) (hk5 : ∀ (v1 : Int32) (v2 : Int64) (v4 : Int32) (d3 : ZV), kg5 v1 v2 v4 → ZJ 2 277 5 [zR 12 1, zI v1, zL v2, d3, zI v4] [] p (hoL p (kv5 v1 v2 v4))) : ∀ (v1 : Int32), bg12_worth p kg5 v1 → ZJ 2 277 0 [zR 12 1, zI v1, zJ, zJ, zJ] [] p (hoL p (bv12_worth p kv5 v1)) := by
  intro v1  H
  exact roL (n := 3000) (q := 0) (la := [zR 12 1, zI v1, zJ, zJ, zJ]) (sa := []) (ks := [fun la sa _ => kv5 (ai la 1) (al la 2) (ai la 4)]) (gs := [fun la sa _ => zsw (tc2 la [(112, 1), (0, 0), (1, 0), (2, 0), (0, 0)] && tc2 sa []) False (kg5 (ai la 1) (al la 2) (ai la 4))]) (fcons o275 (fnil)) tab277 pc277 ⟨fun la sa s hg H => zcut H fun H => hk5 (ai la 1) (al la 2) (ai la 4) (zld la 3) H, trivial⟩ hg H
theorem t12_worth (p : PM) (hg : Gr 2 p) : ∀ (v1 : Int32), g12_worth p v1 → ZJ 2 277 0 [zR 12 1, zI v1, zJ, zJ, zJ] [] p (hoL p (v12_worth p v1)) := r12_worth p hg v12_net g12_net ok275 (v12_worth_5 p FU) (g12_worth_5 p FU) (t12_worth_5 p hg FU)
def CC277 (F : PM → Int32 → Int64) (G : PM → Int32 → Prop) : Cal := (277, [15, 0], 2, true, fun as p => (zL (F p (ai as 1)), p), fun as p => zsw (tc2 as [(112, 1), (0, 0)]) False (G p (ai as 1)))
set_option maxRecDepth 100000 in
theorem okr277 (F : PM → Int32 → Int64) (G : PM → Int32 → Prop) (h : ∀ (p : PM) (v1 : Int32), Gr 2 p → G p v1 → ZJ 2 277 0 [zR 12 1, zI v1, zJ, zJ, zJ] [] p (hoL p (F p v1))) : CalOK 2 (CC277 F G) := cal_ok (m := 5) (by unfold mL; rw [mX_277]) (fun as p hg H => h p (ai as 1) hg H)
theorem ok277 : CalOK 2 (CC277 v12_worth g12_worth) := okr277 v12_worth g12_worth (fun p v1 hg H => t12_worth p hg v1 H)
noncomputable def bv12_value (p : PM) (F277 : PM → Int32 → Int64) (v1 : Int32) : Int64 :=
  (((p.2.1 14 1 (((cn 2) * v1)).toNatClampNeg) + (p.2.1 14 1 ((((cn 2) * v1) + (cn 1))).toNatClampNeg)) + (F277 p v1))
noncomputable def v12_value (p : PM) (v1 : Int32) : Int64 := bv12_value p v12_worth v1
noncomputable def bg12_value (p : PM) (F277 : PM → Int32 → Int64) (G277 : PM → Int32 → Prop) (v1 : Int32) : Prop :=
  (inb ((cn 2) * v1) 9) ∧ (
  (inb (((cn 2) * v1) + (cn 1)) 9) ∧ (
  (G277 p v1) ∧ (
  True)))
noncomputable def g12_value (p : PM) (v1 : Int32) : Prop := bg12_value p v12_worth g12_worth v1
def R278 : List Row := [(0, .aload_n 0, 1, 0, (0, 0, 0, 0, 0, 0)), (1, .getfield 13, 3, 0, (12, 2, 17, 2, 1, 0)), (4, .iconst 2, 1, 0, (0, 0, 0, 0, 0, 2)), (5, .iload_n 1, 1, 0, (0, 0, 0, 0, 0, 0)), (6, .imul, 1, 0, (0, 0, 0, 0, 0, 0)), (7, .laload, 1, 0, (14, 9, 0, 0, 0, 0)), (8, .aload_n 0, 1, 0, (0, 0, 0, 0, 0, 0)), (9, .getfield 13, 3, 0, (12, 2, 17, 2, 1, 0)), (12, .iconst 2, 1, 0, (0, 0, 0, 0, 0, 2)), (13, .iload_n 1, 1, 0, (0, 0, 0, 0, 0, 0)), (14, .imul, 1, 0, (0, 0, 0, 0, 0, 0)), (15, .iconst 1, 1, 0, (0, 0, 0, 0, 0, 1)), (16, .iadd, 1, 0, (0, 0, 0, 0, 0, 0)), (17, .laload, 1, 0, (14, 9, 0, 0, 0, 0)), (18, .ladd, 1, 0, (0, 0, 0, 0, 0, 0)), (19, .aload_n 0, 1, 0, (0, 0, 0, 0, 0, 0)), (20, .iload_n 1, 1, 0, (0, 0, 0, 0, 0, 0)), (21, .invokevirtual 407, 3, 0, (0, 2, 0, 0, 1, 0)), (24, .ladd, 1, 0, (0, 0, 0, 0, 0, 0)), (25, .lreturn, 1, 0, (0, 0, 0, 0, 0, 0))]
set_option maxRecDepth 100000 in
theorem rk278 : R278.all (rok 2 278 2 [(277, [15, 0])]) = true := by decide +kernel
set_option maxRecDepth 100000 in
theorem tab278 {F277 : PM → Int32 → Int64} {G277 : PM → Int32 → Prop} : TabOK 2 278 2 [CC277 F277 G277] R278 := tab_ok (K := K278) rfl rfl (fun h => d278 h) rk278 (by decide +kernel)
set_option maxRecDepth 100000 in
theorem pc278 : cutpc [] R278 = true := by decide +kernel
set_option maxRecDepth 100000 in
theorem r12_value (p : PM) (hg : Gr 2 p) (F277 : PM → Int32 → Int64) (G277 : PM → Int32 → Prop) (o277 : CalOK 2 (CC277 F277 G277)) : ∀ (v1 : Int32), bg12_value p F277 G277 v1 → ZJ 2 278 0 [zR 12 1, zI v1] [] p (hoL p (bv12_value p F277 v1)) := by
  intro v1  H
  exact roL (n := 3000) (q := 0) (la := [zR 12 1, zI v1]) (sa := []) (ks := []) (gs := []) (fcons o277 (fnil)) tab278 pc278 trivial hg H
theorem t12_value (p : PM) (hg : Gr 2 p) : ∀ (v1 : Int32), g12_value p v1 → ZJ 2 278 0 [zR 12 1, zI v1] [] p (hoL p (v12_value p v1)) := r12_value p hg v12_worth g12_worth ok277
def CC278 (F : PM → Int32 → Int64) (G : PM → Int32 → Prop) : Cal := (278, [15, 0], 2, true, fun as p => (zL (F p (ai as 1)), p), fun as p => zsw (tc2 as [(112, 1), (0, 0)]) False (G p (ai as 1)))
set_option maxRecDepth 100000 in
theorem okr278 (F : PM → Int32 → Int64) (G : PM → Int32 → Prop) (h : ∀ (p : PM) (v1 : Int32), Gr 2 p → G p v1 → ZJ 2 278 0 [zR 12 1, zI v1] [] p (hoL p (F p v1))) : CalOK 2 (CC278 F G) := cal_ok (m := 2) (by unfold mL; rw [mX_278]) (fun as p hg H => h p (ai as 1) hg H)
theorem ok278 : CalOK 2 (CC278 v12_value g12_value) := okr278 v12_value g12_value (fun p v1 hg H => t12_value p hg v1 H)
noncomputable def bv12_call (F217 : PM → Int64 → Int64 → Int64) (F276 : PM → Int32 → Int64) (F278 : PM → Int32 → Int64) (p : PM) (v1 : Int32) (v2 : Int64) (v4 : Int64) : Int64 × PM :=
  let x1 : Int32 := (p.1 13 37 (v1).toNatClampNeg)
  let p2 : PM := pI p 13 37 (v1).toNatClampNeg (v4).toInt32
  let x3 : Int64 := ((((F276 p2 v1) - (F278 p2 v1)) - v2) - (F217 p2 ((v4 * ((p2.1 13 10 1)).toInt64) * (((cn 100) - (p2.1 12 1 50))).toInt64) (cl 100)))
  let p4 : PM := pI p2 13 37 (v1).toNatClampNeg x1
  if 0 < (lg_cmp x3 (cl 0)) then (
    (x3, p4))
  else (
    ((cl 0), p4))
noncomputable def v12_call (p : PM) (v1 : Int32) (v2 : Int64) (v4 : Int64) : Int64 × PM := bv12_call v12_floor v12_risk v12_value p v1 v2 v4
noncomputable def bg12_call (F217 : PM → Int64 → Int64 → Int64) (G217 : PM → Int64 → Int64 → Prop) (F276 : PM → Int32 → Int64) (G276 : PM → Int32 → Prop) (F278 : PM → Int32 → Int64) (G278 : PM → Int32 → Prop) (p : PM) (v1 : Int32) (v2 : Int64) (v4 : Int64) : Prop :=
  (inb v1 4) ∧ (
  let x1 : Int32 := (p.1 13 37 (v1).toNatClampNeg)
  (inb v1 4) ∧ (
  let p2 : PM := pI p 13 37 (v1).toNatClampNeg (v4).toInt32
  (G276 p2 v1) ∧ (
  (G278 p2 v1) ∧ (
  (G217 p2 ((v4 * ((p2.1 13 10 1)).toInt64) * (((cn 100) - (p2.1 12 1 50))).toInt64) (cl 100)) ∧ (
  let x3 : Int64 := ((((F276 p2 v1) - (F278 p2 v1)) - v2) - (F217 p2 ((v4 * ((p2.1 13 10 1)).toInt64) * (((cn 100) - (p2.1 12 1 50))).toInt64) (cl 100)))
  (inb v1 4) ∧ (
  let p4 : PM := pI p2 13 37 (v1).toNatClampNeg x1
  if 0 < (lg_cmp x3 (cl 0)) then (
    True)
  else (
    True)))))))
noncomputable def g12_call (p : PM) (v1 : Int32) (v2 : Int64) (v4 : Int64) : Prop := bg12_call v12_floor g12_floor v12_risk g12_risk v12_value g12_value p v1 v2 v4
def R279 : List Row := [(0, .aload_n 0, 1, 0, (0, 0, 0, 0, 0, 0)), (1, .getfield 147, 3, 0, (12, 52, 16, 2, 37, 0)), (4, .iload_n 1, 1, 0, (0, 0, 0, 0, 0, 0)), (5, .iaload, 1, 0, (13, 4, 0, 0, 0, 0)), (6, .istore 6, 2, 0, (0, 0, 0, 0, 0, 0)), (8, .aload_n 0, 1, 0, (0, 0, 0, 0, 0, 0)), (9, .getfield 147, 3, 0, (12, 52, 16, 2, 37, 0)), (12, .iload_n 1, 1, 0, (0, 0, 0, 0, 0, 0)), (13, .lload 4, 2, 0, (0, 0, 0, 0, 0, 0)), (15, .l2i, 1, 0, (0, 0, 0, 0, 0, 0)), (16, .iastore, 1, 0, (13, 4, 0, 0, 0, 0)), (17, .aload_n 0, 1, 0, (0, 0, 0, 0, 0, 0)), (18, .iload_n 1, 1, 0, (0, 0, 0, 0, 0, 0)), (19, .invokevirtual 411, 3, 0, (0, 2, 0, 0, 1, 0)), (22, .aload_n 0, 1, 0, (0, 0, 0, 0, 0, 0)), (23, .iload_n 1, 1, 0, (0, 0, 0, 0, 0, 0)), (24, .invokevirtual 414, 3, 0, (1, 2, 0, 0, 1, 0)), (27, .lsub, 1, 0, (0, 0, 0, 0, 0, 0)), (28, .lload_n 2, 1, 0, (0, 0, 0, 0, 0, 0)), (29, .lsub, 1, 0, (0, 0, 0, 0, 0, 0)), (30, .lload 4, 2, 0, (0, 0, 0, 0, 0, 0)), (32, .aload_n 0, 1, 0, (0, 0, 0, 0, 0, 0)), (33, .getfield 45, 3, 0, (12, 12, 16, 2, 10, 0)), (36, .iconst 1, 1, 0, (0, 0, 0, 0, 0, 1)), (37, .iaload, 1, 0, (13, 6, 0, 0, 0, 0)), (38, .i2l, 1, 0, (0, 0, 0, 0, 0, 0)), (39, .lmul, 1, 0, (0, 0, 0, 0, 0, 0)), (40, .bipush 100, 2, 0, (0, 0, 0, 0, 0, 100)), (42, .aload_n 0, 1, 0, (0, 0, 0, 0, 0, 0)), (43, .getfield 185, 3, 0, (12, 50, 0, 1, 0, 0)), (46, .isub, 1, 0, (0, 0, 0, 0, 0, 0)), (47, .i2l, 1, 0, (0, 0, 0, 0, 0, 0)), (48, .lmul, 1, 0, (0, 0, 0, 0, 0, 0)), (49, .ldc2_w 417, 3, 0, (0, 0, 0, 0, 0, 100)), (52, .invokestatic 419, 3, 0, (2, 2, 0, 0, 0, 0)), (55, .lsub, 1, 0, (0, 0, 0, 0, 0, 0)), (56, .lstore 7, 2, 0, (0, 0, 0, 0, 0, 0)), (58, .aload_n 0, 1, 0, (0, 0, 0, 0, 0, 0)), (59, .getfield 147, 3, 0, (12, 52, 16, 2, 37, 0)), (62, .iload_n 1, 1, 0, (0, 0, 0, 0, 0, 0)), (63, .iload 6, 2, 0, (0, 0, 0, 0, 0, 0)), (65, .iastore, 1, 0, (13, 4, 0, 0, 0, 0)), (66, .lload 7, 2, 0, (0, 0, 0, 0, 0, 0)), (68, .lconst 0, 1, 0, (0, 0, 0, 0, 0, 0)), (69, .lcmp, 1, 0, (0, 0, 0, 0, 0, 0)), (70, .ifCond .le 8, 3, 0, (0, 0, 0, 0, 0, 0)), (73, .lload 7, 2, 0, (0, 0, 0, 0, 0, 0)), (75, .goto 4, 3, 0, (0, 0, 0, 0, 0, 0)), (78, .lconst 0, 1, 0, (0, 0, 0, 0, 0, 0)), (79, .lreturn, 1, 0, (0, 0, 0, 0, 0, 0))]
set_option maxRecDepth 100000 in
theorem rk279 : R279.all (rok 2 279 2 [(276, [15, 0]), (278, [15, 0]), (217, [1, 1])]) = true := by decide +kernel
set_option maxRecDepth 100000 in
theorem tab279 {F276 : PM → Int32 → Int64} {G276 : PM → Int32 → Prop} {F278 : PM → Int32 → Int64} {G278 : PM → Int32 → Prop} {F217 : PM → Int64 → Int64 → Int64} {G217 : PM → Int64 → Int64 → Prop} : TabOK 2 279 2 [CC276 F276 G276, CC278 F278 G278, CC217 F217 G217] R279 := tab_ok (K := K279) rfl rfl (fun h => d279 h) rk279 (by decide +kernel)
set_option maxRecDepth 100000 in
theorem pc279 : cutpc [] R279 = true := by decide +kernel
set_option maxRecDepth 100000 in
theorem r12_call (F276 : PM → Int32 → Int64) (G276 : PM → Int32 → Prop) (o276 : CalOK 2 (CC276 F276 G276)) (F278 : PM → Int32 → Int64) (G278 : PM → Int32 → Prop) (o278 : CalOK 2 (CC278 F278 G278)) (F217 : PM → Int64 → Int64 → Int64) (G217 : PM → Int64 → Int64 → Prop) (o217 : CalOK 2 (CC217 F217 G217)) : ∀ (p : PM) (v1 : Int32) (v2 : Int64) (v4 : Int64), Gr 2 p → bg12_call F217 G217 F276 G276 F278 G278 p v1 v2 v4 → ZJ 2 279 0 [zR 12 1, zI v1, zL v2, zJ, zL v4, zJ, zJ, zJ, zJ] [] p (hwL (bv12_call F217 F276 F278 p v1 v2 v4)) := by
  intro p v1 v2 v4  hg H
  exact rwL (n := 3000) (q := 0) (la := [zR 12 1, zI v1, zL v2, zJ, zL v4, zJ, zJ, zJ, zJ]) (sa := []) (ks := []) (gs := []) (fcons o276 (fcons o278 (fcons o217 (fnil)))) tab279 pc279 trivial hg H
theorem t12_call : ∀ (p : PM) (v1 : Int32) (v2 : Int64) (v4 : Int64), Gr 2 p → g12_call p v1 v2 v4 → ZJ 2 279 0 [zR 12 1, zI v1, zL v2, zJ, zL v4, zJ, zJ, zJ, zJ] [] p (hwL (v12_call p v1 v2 v4)) := r12_call v12_risk g12_risk ok276 v12_value g12_value ok278 v12_floor g12_floor ok217
def CC279 (F : PM → Int32 → Int64 → Int64 → Int64 × PM) (G : PM → Int32 → Int64 → Int64 → Prop) : Cal := (279, [15, 0, 1, 1], 2, false, fun as p => (zL (F p (ai as 1) (al as 2) (al as 3)).1, (F p (ai as 1) (al as 2) (al as 3)).2), fun as p => zsw (tc2 as [(112, 1), (0, 0), (1, 0), (1, 0)]) False (G p (ai as 1) (al as 2) (al as 3)))
set_option maxRecDepth 100000 in
theorem okr279 (F : PM → Int32 → Int64 → Int64 → Int64 × PM) (G : PM → Int32 → Int64 → Int64 → Prop) (h : ∀ (p : PM) (v1 : Int32) (v2 : Int64) (v4 : Int64), Gr 2 p → G p v1 v2 v4 → ZJ 2 279 0 [zR 12 1, zI v1, zL v2, zJ, zL v4, zJ, zJ, zJ, zJ] [] p (hwL (F p v1 v2 v4))) : CalOK 2 (CC279 F G) := cal_ok (m := 9) (by unfold mL; rw [mX_279]) (fun as p hg H => h p (ai as 1) (al as 2) (al as 3) hg H)
theorem ok279 : CalOK 2 (CC279 v12_call g12_call) := okr279 v12_call g12_call t12_call
noncomputable def bv12_isAccount (p : PM) (F215 : PM → Int32 → Int32 → Int32 → Int32) (v0 : Int32) : Int32 :=
  (F215 p v0 (cn 0) (cn 7))
noncomputable def v12_isAccount (p : PM) (v0 : Int32) : Int32 := bv12_isAccount p v12_in v0
noncomputable def bg12_isAccount (p : PM) (F215 : PM → Int32 → Int32 → Int32 → Int32) (G215 : PM → Int32 → Int32 → Int32 → Prop) (v0 : Int32) : Prop :=
  (G215 p v0 (cn 0) (cn 7)) ∧ (
  (b01 (F215 p v0 (cn 0) (cn 7))) ∧ (
  True))
noncomputable def g12_isAccount (p : PM) (v0 : Int32) : Prop := bg12_isAccount p v12_in g12_in v0
def R280 : List Row := [(0, .iload_n 0, 1, 0, (0, 0, 0, 0, 0, 0)), (1, .iconst 0, 1, 0, (0, 0, 0, 0, 0, 0)), (2, .bipush 7, 2, 0, (0, 0, 0, 0, 0, 7)), (4, .invokestatic 209, 3, 0, (0, 3, 0, 0, 0, 0)), (7, .ireturn, 1, 0, (1, 0, 0, 0, 0, 0))]
set_option maxRecDepth 100000 in
theorem rk280 : R280.all (rok 2 280 1 [(215, [0, 0, 0])]) = true := by decide +kernel
set_option maxRecDepth 100000 in
theorem tab280 {F215 : PM → Int32 → Int32 → Int32 → Int32} {G215 : PM → Int32 → Int32 → Int32 → Prop} : TabOK 2 280 1 [CC215 F215 G215] R280 := tab_ok (K := K280) rfl rfl (fun h => d280 h) rk280 (by decide +kernel)
set_option maxRecDepth 100000 in
theorem pc280 : cutpc [] R280 = true := by decide +kernel
set_option maxRecDepth 100000 in
theorem r12_isAccount (p : PM) (hg : Gr 2 p) (F215 : PM → Int32 → Int32 → Int32 → Int32) (G215 : PM → Int32 → Int32 → Int32 → Prop) (o215 : CalOK 2 (CC215 F215 G215)) : ∀ (v0 : Int32), bg12_isAccount p F215 G215 v0 → ZJ 2 280 0 [zI v0] [] p (hoI p (bv12_isAccount p F215 v0)) := by
  intro v0  H
  exact roI (n := 3000) (q := 0) (la := [zI v0]) (sa := []) (ks := []) (gs := []) (fcons o215 (fnil)) tab280 pc280 trivial hg H
theorem t12_isAccount (p : PM) (hg : Gr 2 p) : ∀ (v0 : Int32), g12_isAccount p v0 → ZJ 2 280 0 [zI v0] [] p (hoI p (v12_isAccount p v0)) := r12_isAccount p hg v12_in g12_in ok215
def CC280 (F : PM → Int32 → Int32) (G : PM → Int32 → Prop) : Cal := (280, [0], 1, true, fun as p => (zI (F p (ai as 0)), p), fun as p => zsw (tc2 as [(0, 0)]) False (G p (ai as 0)))
set_option maxRecDepth 100000 in
theorem okr280 (F : PM → Int32 → Int32) (G : PM → Int32 → Prop) (h : ∀ (p : PM) (v0 : Int32), Gr 2 p → G p v0 → ZJ 2 280 0 [zI v0] [] p (hoI p (F p v0))) : CalOK 2 (CC280 F G) := cal_ok (m := 1) (by unfold mL; rw [mX_280]) (fun as p hg H => h p (ai as 0) hg H)
theorem ok280 : CalOK 2 (CC280 v12_isAccount g12_isAccount) := okr280 v12_isAccount g12_isAccount (fun p v0 hg H => t12_isAccount p hg v0 H)
noncomputable def bv12_isQuantity (p : PM) (F215 : PM → Int32 → Int32 → Int32 → Int32) (v1 : Int32) : Int32 :=
  if (F215 p v1 (cn (-50)) (cn 50)) = 0 then (
    (cn 0))
  else (
    if v1 = 0 then (
      (cn 0))
    else (
      (cn 1)))
noncomputable def v12_isQuantity (p : PM) (v1 : Int32) : Int32 := bv12_isQuantity p v12_in v1
noncomputable def bg12_isQuantity (p : PM) (F215 : PM → Int32 → Int32 → Int32 → Int32) (G215 : PM → Int32 → Int32 → Int32 → Prop) (v1 : Int32) : Prop :=
  (G215 p v1 (cn (-50)) (cn 50)) ∧ (
  if (F215 p v1 (cn (-50)) (cn 50)) = 0 then (
    True)
  else (
    if v1 = 0 then (
      True)
    else (
      True)))
noncomputable def g12_isQuantity (p : PM) (v1 : Int32) : Prop := bg12_isQuantity p v12_in g12_in v1
def R281 : List Row := [(0, .iload_n 1, 1, 0, (0, 0, 0, 0, 0, 0)), (1, .bipush (-50), 2, 0, (0, 0, 0, 0, 0, -50)), (3, .bipush 50, 2, 0, (0, 0, 0, 0, 0, 50)), (5, .invokestatic 209, 3, 0, (0, 3, 0, 0, 0, 0)), (8, .ifCond .eq 11, 3, 0, (0, 0, 0, 0, 0, 0)), (11, .iload_n 1, 1, 0, (0, 0, 0, 0, 0, 0)), (12, .ifCond .eq 7, 3, 0, (0, 0, 0, 0, 0, 0)), (15, .iconst 1, 1, 0, (0, 0, 0, 0, 0, 1)), (16, .goto 4, 3, 0, (0, 0, 0, 0, 0, 0)), (19, .iconst 0, 1, 0, (0, 0, 0, 0, 0, 0)), (20, .ireturn, 1, 0, (1, 0, 0, 0, 0, 0))]
set_option maxRecDepth 100000 in
theorem rk281 : R281.all (rok 2 281 1 [(215, [0, 0, 0])]) = true := by decide +kernel
set_option maxRecDepth 100000 in
theorem tab281 {F215 : PM → Int32 → Int32 → Int32 → Int32} {G215 : PM → Int32 → Int32 → Int32 → Prop} : TabOK 2 281 1 [CC215 F215 G215] R281 := tab_ok (K := K281) rfl rfl (fun h => d281 h) rk281 (by decide +kernel)
set_option maxRecDepth 100000 in
theorem pc281 : cutpc [] R281 = true := by decide +kernel
set_option maxRecDepth 100000 in
theorem r12_isQuantity (p : PM) (hg : Gr 2 p) (F215 : PM → Int32 → Int32 → Int32 → Int32) (G215 : PM → Int32 → Int32 → Int32 → Prop) (o215 : CalOK 2 (CC215 F215 G215)) : ∀ (v1 : Int32), bg12_isQuantity p F215 G215 v1 → ZJ 2 281 0 [zR 12 1, zI v1] [] p (hoI p (bv12_isQuantity p F215 v1)) := by
  intro v1  H
  exact roI (n := 3000) (q := 0) (la := [zR 12 1, zI v1]) (sa := []) (ks := []) (gs := []) (fcons o215 (fnil)) tab281 pc281 trivial hg H
theorem t12_isQuantity (p : PM) (hg : Gr 2 p) : ∀ (v1 : Int32), g12_isQuantity p v1 → ZJ 2 281 0 [zR 12 1, zI v1] [] p (hoI p (v12_isQuantity p v1)) := r12_isQuantity p hg v12_in g12_in ok215
def CC281 (F : PM → Int32 → Int32) (G : PM → Int32 → Prop) : Cal := (281, [15, 0], 1, true, fun as p => (zI (F p (ai as 1)), p), fun as p => zsw (tc2 as [(112, 1), (0, 0)]) False (G p (ai as 1)))
set_option maxRecDepth 100000 in
theorem okr281 (F : PM → Int32 → Int32) (G : PM → Int32 → Prop) (h : ∀ (p : PM) (v1 : Int32), Gr 2 p → G p v1 → ZJ 2 281 0 [zR 12 1, zI v1] [] p (hoI p (F p v1))) : CalOK 2 (CC281 F G) := cal_ok (m := 2) (by unfold mL; rw [mX_281]) (fun as p hg H => h p (ai as 1) hg H)
theorem ok281 : CalOK 2 (CC281 v12_isQuantity g12_isQuantity) := okr281 v12_isQuantity g12_isQuantity (fun p v1 hg H => t12_isQuantity p hg v1 H)
noncomputable def bv12_isShut (p : PM) (F222 : PM → Int32) (F231 : PM → Int32 → Int32 → Int32 → Int32) (v1 : Int32) (v2 : Int32) (v3 : Int32) : Int32 :=
  if (p.1 15 9 ((v1 / (cn 2))).toNatClampNeg) = 0 then (
    if (F222 p) < (cn 40) then (
      if (F231 p v1 v2 v3) = 0 then (
        (cn 0))
      else (
        (cn 1)))
    else (
      (cn 1)))
  else (
    (cn 1))
noncomputable def v12_isShut (p : PM) (v1 : Int32) (v2 : Int32) (v3 : Int32) : Int32 := bv12_isShut p v12_live v12_isRefused v1 v2 v3
noncomputable def bg12_isShut (p : PM) (F222 : PM → Int32) (G222 : PM → Prop) (F231 : PM → Int32 → Int32 → Int32 → Int32) (G231 : PM → Int32 → Int32 → Int32 → Prop) (v1 : Int32) (v2 : Int32) (v3 : Int32) : Prop :=
  (inb (v1 / (cn 2)) 4) ∧ (
  if (p.1 15 9 ((v1 / (cn 2))).toNatClampNeg) = 0 then (
    (G222 p) ∧ (
    if (F222 p) < (cn 40) then (
      (G231 p v1 v2 v3) ∧ (
      if (F231 p v1 v2 v3) = 0 then (
        True)
      else (
        True)))
    else (
      True)))
  else (
    True))
noncomputable def g12_isShut (p : PM) (v1 : Int32) (v2 : Int32) (v3 : Int32) : Prop := bg12_isShut p v12_live g12_live v12_isRefused g12_isRefused v1 v2 v3
def R282 : List Row := [(0, .aload_n 0, 1, 0, (0, 0, 0, 0, 0, 0)), (1, .getfield 153, 3, 0, (12, 54, 18, 2, 9, 0)), (4, .iload_n 1, 1, 0, (0, 0, 0, 0, 0, 0)), (5, .iconst 2, 1, 0, (0, 0, 0, 0, 0, 2)), (6, .idiv, 1, 0, (0, 0, 0, 0, 0, 0)), (7, .baload, 1, 0, (15, 4, 0, 0, 0, 0)), (8, .ifCond .ne 22, 3, 0, (0, 0, 0, 0, 0, 0)), (11, .aload_n 0, 1, 0, (0, 0, 0, 0, 0, 0)), (12, .invokevirtual 423, 3, 0, (0, 1, 0, 0, 1, 0)), (15, .bipush 40, 2, 0, (0, 0, 0, 0, 0, 40)), (17, .if_icmp .ge 13, 3, 0, (0, 0, 0, 0, 0, 0)), (20, .aload_n 0, 1, 0, (0, 0, 0, 0, 0, 0)), (21, .iload_n 1, 1, 0, (0, 0, 0, 0, 0, 0)), (22, .iload_n 2, 1, 0, (0, 0, 0, 0, 0, 0)), (23, .iload_n 3, 1, 0, (0, 0, 0, 0, 0, 0)), (24, .invokevirtual 426, 3, 0, (1, 4, 0, 0, 1, 0)), (27, .ifCond .eq 7, 3, 0, (0, 0, 0, 0, 0, 0)), (30, .iconst 1, 1, 0, (0, 0, 0, 0, 0, 1)), (31, .goto 4, 3, 0, (0, 0, 0, 0, 0, 0)), (34, .iconst 0, 1, 0, (0, 0, 0, 0, 0, 0)), (35, .ireturn, 1, 0, (1, 0, 0, 0, 0, 0))]
set_option maxRecDepth 100000 in
theorem rk282 : R282.all (rok 2 282 1 [(222, [15]), (231, [15, 0, 0, 0])]) = true := by decide +kernel
set_option maxRecDepth 100000 in
theorem tab282 {F222 : PM → Int32} {G222 : PM → Prop} {F231 : PM → Int32 → Int32 → Int32 → Int32} {G231 : PM → Int32 → Int32 → Int32 → Prop} : TabOK 2 282 1 [CC222 F222 G222, CC231 F231 G231] R282 := tab_ok (K := K282) rfl rfl (fun h => d282 h) rk282 (by decide +kernel)
set_option maxRecDepth 100000 in
theorem pc282 : cutpc [] R282 = true := by decide +kernel
set_option maxRecDepth 100000 in
theorem r12_isShut (p : PM) (hg : Gr 2 p) (F222 : PM → Int32) (G222 : PM → Prop) (o222 : CalOK 2 (CC222 F222 G222)) (F231 : PM → Int32 → Int32 → Int32 → Int32) (G231 : PM → Int32 → Int32 → Int32 → Prop) (o231 : CalOK 2 (CC231 F231 G231)) : ∀ (v1 : Int32) (v2 : Int32) (v3 : Int32), bg12_isShut p F222 G222 F231 G231 v1 v2 v3 → ZJ 2 282 0 [zR 12 1, zI v1, zI v2, zI v3] [] p (hoI p (bv12_isShut p F222 F231 v1 v2 v3)) := by
  intro v1 v2 v3  H
  exact roI (n := 3000) (q := 0) (la := [zR 12 1, zI v1, zI v2, zI v3]) (sa := []) (ks := []) (gs := []) (fcons o222 (fcons o231 (fnil))) tab282 pc282 trivial hg H
theorem t12_isShut (p : PM) (hg : Gr 2 p) : ∀ (v1 : Int32) (v2 : Int32) (v3 : Int32), g12_isShut p v1 v2 v3 → ZJ 2 282 0 [zR 12 1, zI v1, zI v2, zI v3] [] p (hoI p (v12_isShut p v1 v2 v3)) := r12_isShut p hg v12_live g12_live ok222 v12_isRefused g12_isRefused ok231
def CC282 (F : PM → Int32 → Int32 → Int32 → Int32) (G : PM → Int32 → Int32 → Int32 → Prop) : Cal := (282, [15, 0, 0, 0], 1, true, fun as p => (zI (F p (ai as 1) (ai as 2) (ai as 3)), p), fun as p => zsw (tc2 as [(112, 1), (0, 0), (0, 0), (0, 0)]) False (G p (ai as 1) (ai as 2) (ai as 3)))
set_option maxRecDepth 100000 in
theorem okr282 (F : PM → Int32 → Int32 → Int32 → Int32) (G : PM → Int32 → Int32 → Int32 → Prop) (h : ∀ (p : PM) (v1 : Int32) (v2 : Int32) (v3 : Int32), Gr 2 p → G p v1 v2 v3 → ZJ 2 282 0 [zR 12 1, zI v1, zI v2, zI v3] [] p (hoI p (F p v1 v2 v3))) : CalOK 2 (CC282 F G) := cal_ok (m := 4) (by unfold mL; rw [mX_282]) (fun as p hg H => h p (ai as 1) (ai as 2) (ai as 3) hg H)
theorem ok282 : CalOK 2 (CC282 v12_isShut g12_isShut) := okr282 v12_isShut g12_isShut (fun p v1 v2 v3 hg H => t12_isShut p hg v1 v2 v3 H)
noncomputable def bv12_isEnough_6 (p : PM) (F220 : PM → Int32 → Int32 → Int32) (F238 : PM → Int32 → Int32 → Int32 → Int32) (F239 : PM → Int32 → Int32 → Int32 → Int32) (kv6 : Int32 → Int32 → Int32 → Int32 → Int32 → Int32 → Int32 → Int32) (v1 : Int32) (v2 : Int32) (v3 : Int32) (v4 : Int32) (v5 : Int32) (v6 : Int32) (v7 : Int32) : Int32 :=
  if v7 < (cn 44) then (
    if v4 = 0 then (
      if (F238 p v7 v2 (cn 1)) = 0 then (
        kv6 v1 v2 v3 v4 v5 (v6 + (cn 0)) (v7 + (cn 1)))
      else (
        if (p.1 15 5 (v7).toNatClampNeg) = 0 then (
          if ((p.1 13 15 (v7).toNatClampNeg) / (cn 2)) = (v1 / (cn 2)) then (
            kv6 v1 v2 v3 v4 v5 (v6 + (cn 0)) (v7 + (cn 1)))
          else (
            if (F239 p (p.1 13 25 (v7).toNatClampNeg) v3 v4) = 0 then (
              if (F220 p v2 (p.1 13 25 (v7).toNatClampNeg)) = 0 then (
                kv6 v1 v2 v3 v4 v5 (v6 + (cn 0)) (v7 + (cn 1)))
              else (
                let x2 : Int32 := (v6 + (p.1 13 17 (v7).toNatClampNeg))
                kv6 v1 v2 v3 v4 v5 x2 (v7 + (cn 1))))
            else (
              kv6 v1 v2 v3 v4 v5 (v6 + (cn 0)) (v7 + (cn 1)))))
        else (
          kv6 v1 v2 v3 v4 v5 (v6 + (cn 0)) (v7 + (cn 1)))))
    else (
      if (F238 p v7 v2 (cn 0)) = 0 then (
        kv6 v1 v2 v3 v4 v5 (v6 + (cn 0)) (v7 + (cn 1)))
      else (
        if (p.1 15 5 (v7).toNatClampNeg) = 0 then (
          if ((p.1 13 15 (v7).toNatClampNeg) / (cn 2)) = (v1 / (cn 2)) then (
            kv6 v1 v2 v3 v4 v5 (v6 + (cn 0)) (v7 + (cn 1)))
          else (
            if (F239 p (p.1 13 25 (v7).toNatClampNeg) v3 v4) = 0 then (
              if (F220 p v2 (p.1 13 25 (v7).toNatClampNeg)) = 0 then (
                kv6 v1 v2 v3 v4 v5 (v6 + (cn 0)) (v7 + (cn 1)))
              else (
                let x1 : Int32 := (v6 + (p.1 13 17 (v7).toNatClampNeg))
                kv6 v1 v2 v3 v4 v5 x1 (v7 + (cn 1))))
            else (
              kv6 v1 v2 v3 v4 v5 (v6 + (cn 0)) (v7 + (cn 1)))))
        else (
          kv6 v1 v2 v3 v4 v5 (v6 + (cn 0)) (v7 + (cn 1))))))
  else (
    if v6 < v5 then (
      (cn 0))
    else (
      (cn 1)))
noncomputable def v12_isEnough_6 (p : PM) (n : Nat) : Int32 → Int32 → Int32 → Int32 → Int32 → Int32 → Int32 → Int32 := Nat.rec (motive := fun _ => Int32 → Int32 → Int32 → Int32 → Int32 → Int32 → Int32 → Int32) (fun _ _ _ _ _ _ _ => 0) (fun _ ih => bv12_isEnough_6 p v12_isNear v12_isThere v12_isBetter ih) n
theorem ev12_isEnough_6 (p : PM) (n : Nat) (v1 : Int32) (v2 : Int32) (v3 : Int32) (v4 : Int32) (v5 : Int32) (v6 : Int32) (v7 : Int32) : v12_isEnough_6 p (n + 1) v1 v2 v3 v4 v5 v6 v7 = bv12_isEnough_6 p v12_isNear v12_isThere v12_isBetter (v12_isEnough_6 p n) v1 v2 v3 v4 v5 v6 v7 := rfl
noncomputable def bg12_isEnough_6 (p : PM) (F220 : PM → Int32 → Int32 → Int32) (G220 : PM → Int32 → Int32 → Prop) (F238 : PM → Int32 → Int32 → Int32 → Int32) (G238 : PM → Int32 → Int32 → Int32 → Prop) (F239 : PM → Int32 → Int32 → Int32 → Int32) (G239 : PM → Int32 → Int32 → Int32 → Prop) (kg6 : Int32 → Int32 → Int32 → Int32 → Int32 → Int32 → Int32 → Prop) (v1 : Int32) (v2 : Int32) (v3 : Int32) (v4 : Int32) (v5 : Int32) (v6 : Int32) (v7 : Int32) : Prop :=
  if v7 < (cn 44) then (
    if v4 = 0 then (
      (G238 p v7 v2 (cn 1)) ∧ (
      if (F238 p v7 v2 (cn 1)) = 0 then (
        kg6 v1 v2 v3 v4 v5 (v6 + (cn 0)) (v7 + (cn 1)))
      else (
        (inb v7 44) ∧ (
        if (p.1 15 5 (v7).toNatClampNeg) = 0 then (
          (inb v7 44) ∧ (
          if ((p.1 13 15 (v7).toNatClampNeg) / (cn 2)) = (v1 / (cn 2)) then (
            kg6 v1 v2 v3 v4 v5 (v6 + (cn 0)) (v7 + (cn 1)))
          else (
            (inb v7 44) ∧ (
            (G239 p (p.1 13 25 (v7).toNatClampNeg) v3 v4) ∧ (
            if (F239 p (p.1 13 25 (v7).toNatClampNeg) v3 v4) = 0 then (
              (inb v7 44) ∧ (
              (G220 p v2 (p.1 13 25 (v7).toNatClampNeg)) ∧ (
              if (F220 p v2 (p.1 13 25 (v7).toNatClampNeg)) = 0 then (
                kg6 v1 v2 v3 v4 v5 (v6 + (cn 0)) (v7 + (cn 1)))
              else (
                (inb v7 44) ∧ (
                let x2 : Int32 := (v6 + (p.1 13 17 (v7).toNatClampNeg))
                kg6 v1 v2 v3 v4 v5 x2 (v7 + (cn 1)))))))
            else (
              kg6 v1 v2 v3 v4 v5 (v6 + (cn 0)) (v7 + (cn 1))))))))
        else (
          kg6 v1 v2 v3 v4 v5 (v6 + (cn 0)) (v7 + (cn 1)))))))
    else (
      (G238 p v7 v2 (cn 0)) ∧ (
      if (F238 p v7 v2 (cn 0)) = 0 then (
        kg6 v1 v2 v3 v4 v5 (v6 + (cn 0)) (v7 + (cn 1)))
      else (
        (inb v7 44) ∧ (
        if (p.1 15 5 (v7).toNatClampNeg) = 0 then (
          (inb v7 44) ∧ (
          if ((p.1 13 15 (v7).toNatClampNeg) / (cn 2)) = (v1 / (cn 2)) then (
            kg6 v1 v2 v3 v4 v5 (v6 + (cn 0)) (v7 + (cn 1)))
          else (
            (inb v7 44) ∧ (
            (G239 p (p.1 13 25 (v7).toNatClampNeg) v3 v4) ∧ (
            if (F239 p (p.1 13 25 (v7).toNatClampNeg) v3 v4) = 0 then (
              (inb v7 44) ∧ (
              (G220 p v2 (p.1 13 25 (v7).toNatClampNeg)) ∧ (
              if (F220 p v2 (p.1 13 25 (v7).toNatClampNeg)) = 0 then (
                kg6 v1 v2 v3 v4 v5 (v6 + (cn 0)) (v7 + (cn 1)))
              else (
                (inb v7 44) ∧ (
                let x1 : Int32 := (v6 + (p.1 13 17 (v7).toNatClampNeg))
                kg6 v1 v2 v3 v4 v5 x1 (v7 + (cn 1)))))))
            else (
              kg6 v1 v2 v3 v4 v5 (v6 + (cn 0)) (v7 + (cn 1))))))))
        else (
          kg6 v1 v2 v3 v4 v5 (v6 + (cn 0)) (v7 + (cn 1))))))))
  else (
    if v6 < v5 then (
      True)
    else (
      True))
noncomputable def g12_isEnough_6 (p : PM) (n : Nat) : Int32 → Int32 → Int32 → Int32 → Int32 → Int32 → Int32 → Prop := Nat.rec (motive := fun _ => Int32 → Int32 → Int32 → Int32 → Int32 → Int32 → Int32 → Prop) (fun _ _ _ _ _ _ _ => False) (fun _ ih => bg12_isEnough_6 p v12_isNear g12_isNear v12_isThere g12_isThere v12_isBetter g12_isBetter ih) n
theorem eg12_isEnough_6 (p : PM) (n : Nat) (v1 : Int32) (v2 : Int32) (v3 : Int32) (v4 : Int32) (v5 : Int32) (v6 : Int32) (v7 : Int32) : g12_isEnough_6 p (n + 1) v1 v2 v3 v4 v5 v6 v7 = bg12_isEnough_6 p v12_isNear g12_isNear v12_isThere g12_isThere v12_isBetter g12_isBetter (g12_isEnough_6 p n) v1 v2 v3 v4 v5 v6 v7 := rfl
noncomputable def bv12_isEnough (p : PM) (kv6 : Int32 → Int32 → Int32 → Int32 → Int32 → Int32 → Int32 → Int32) (v1 : Int32) (v2 : Int32) (v3 : Int32) (v4 : Int32) (v5 : Int32) : Int32 :=
  kv6 v1 v2 v3 v4 v5 (cn 0) (cn 0)
noncomputable def v12_isEnough (p : PM) (v1 : Int32) (v2 : Int32) (v3 : Int32) (v4 : Int32) (v5 : Int32) : Int32 := bv12_isEnough p (v12_isEnough_6 p FU) v1 v2 v3 v4 v5
noncomputable def bg12_isEnough (p : PM) (kg6 : Int32 → Int32 → Int32 → Int32 → Int32 → Int32 → Int32 → Prop) (v1 : Int32) (v2 : Int32) (v3 : Int32) (v4 : Int32) (v5 : Int32) : Prop :=
  kg6 v1 v2 v3 v4 v5 (cn 0) (cn 0)
noncomputable def g12_isEnough (p : PM) (v1 : Int32) (v2 : Int32) (v3 : Int32) (v4 : Int32) (v5 : Int32) : Prop := bg12_isEnough p (g12_isEnough_6 p FU) v1 v2 v3 v4 v5
def R283 : List Row := [(0, .iconst 0, 1, 0, (0, 0, 0, 0, 0, 0)), (1, .istore 6, 2, 0, (0, 0, 0, 0, 0, 0)), (3, .iconst 0, 1, 0, (0, 0, 0, 0, 0, 0)), (4, .istore 7, 2, 0, (0, 0, 0, 0, 0, 0)), (6, .iload 7, 2, 1, (0, 0, 0, 0, 0, 0)), (8, .bipush 44, 2, 0, (0, 0, 0, 0, 0, 44)), (10, .if_icmp .ge 113, 3, 0, (0, 0, 0, 0, 0, 0)), (13, .aload_n 0, 1, 0, (0, 0, 0, 0, 0, 0)), (14, .iload 7, 2, 0, (0, 0, 0, 0, 0, 0)), (16, .iload_n 2, 1, 0, (0, 0, 0, 0, 0, 0)), (17, .iload 4, 2, 0, (0, 0, 0, 0, 0, 0)), (19, .ifCond .ne 7, 3, 0, (0, 0, 0, 0, 0, 0)), (22, .iconst 1, 1, 0, (0, 0, 0, 0, 0, 1)), (23, .goto 4, 3, 0, (0, 0, 0, 0, 0, 0)), (26, .iconst 0, 1, 0, (0, 0, 0, 0, 0, 0)), (27, .invokevirtual 244, 3, 0, (0, 4, 0, 0, 1, 0)), (30, .ifCond .eq 32, 3, 0, (0, 0, 0, 0, 0, 0)), (33, .aload_n 0, 1, 0, (0, 0, 0, 0, 0, 0)), (34, .getfield 78, 3, 0, (12, 25, 18, 2, 5, 0)), (37, .iload 7, 2, 0, (0, 0, 0, 0, 0, 0)), (39, .baload, 1, 0, (15, 44, 0, 0, 0, 0)), (40, .ifCond .ne 22, 3, 0, (0, 0, 0, 0, 0, 0)), (43, .aload_n 0, 1, 0, (0, 0, 0, 0, 0, 0)), (44, .getfield 66, 3, 0, (12, 21, 16, 2, 15, 0)), (47, .iload 7, 2, 0, (0, 0, 0, 0, 0, 0)), (49, .iaload, 1, 0, (13, 44, 0, 0, 0, 0)), (50, .iconst 2, 1, 0, (0, 0, 0, 0, 0, 2)), (51, .idiv, 1, 0, (0, 0, 0, 0, 0, 0)), (52, .iload_n 1, 1, 0, (0, 0, 0, 0, 0, 0)), (53, .iconst 2, 1, 0, (0, 0, 0, 0, 0, 2)), (54, .idiv, 1, 0, (0, 0, 0, 0, 0, 0)), (55, .if_icmp .eq 7, 3, 0, (0, 0, 0, 0, 0, 0)), (58, .iconst 1, 1, 0, (0, 0, 0, 0, 0, 1)), (59, .goto 4, 3, 0, (0, 0, 0, 0, 0, 0)), (62, .iconst 0, 1, 0, (0, 0, 0, 0, 0, 0)), (63, .istore 8, 2, 0, (0, 0, 0, 0, 0, 0)), (65, .iload 6, 2, 0, (0, 0, 0, 0, 0, 0)), (67, .iload 8, 2, 0, (0, 0, 0, 0, 0, 0)), (69, .ifCond .eq 44, 3, 0, (0, 0, 0, 0, 0, 0)), (72, .aload_n 0, 1, 0, (0, 0, 0, 0, 0, 0)), (73, .getfield 102, 3, 0, (12, 33, 16, 2, 25, 0)), (76, .iload 7, 2, 0, (0, 0, 0, 0, 0, 0)), (78, .iaload, 1, 0, (13, 44, 0, 0, 0, 0)), (79, .iload_n 3, 1, 0, (0, 0, 0, 0, 0, 0)), (80, .iload 4, 2, 0, (0, 0, 0, 0, 0, 0)), (82, .invokestatic 248, 3, 0, (1, 3, 0, 0, 0, 0)), (85, .ifCond .ne 28, 3, 0, (0, 0, 0, 0, 0, 0)), (88, .aload_n 0, 1, 0, (0, 0, 0, 0, 0, 0)), (89, .iload_n 2, 1, 0, (0, 0, 0, 0, 0, 0)), (90, .aload_n 0, 1, 0, (0, 0, 0, 0, 0, 0)), (91, .getfield 102, 3, 0, (12, 33, 16, 2, 25, 0)), (94, .iload 7, 2, 0, (0, 0, 0, 0, 0, 0)), (96, .iaload, 1, 0, (13, 44, 0, 0, 0, 0)), (97, .invokevirtual 305, 3, 0, (2, 3, 0, 0, 1, 0)), (100, .ifCond .eq 13, 3, 0, (0, 0, 0, 0, 0, 0)), (103, .aload_n 0, 1, 0, (0, 0, 0, 0, 0, 0)), (104, .getfield 75, 3, 0, (12, 24, 16, 2, 17, 0)), (107, .iload 7, 2, 0, (0, 0, 0, 0, 0, 0)), (109, .iaload, 1, 0, (13, 44, 0, 0, 0, 0)), (110, .goto 4, 3, 0, (0, 0, 0, 0, 0, 0)), (113, .iconst 0, 1, 0, (0, 0, 0, 0, 0, 0)), (114, .iadd, 1, 0, (0, 0, 0, 0, 0, 0)), (115, .istore 6, 2, 0, (0, 0, 0, 0, 0, 0)), (117, .iinc 7 1, 3, 0, (0, 0, 0, 0, 0, 1)), (120, .goto (-114), 3, 0, (0, 0, 0, 0, 0, 0)), (123, .iload 6, 2, 0, (0, 0, 0, 0, 0, 0)), (125, .iload 5, 2, 0, (0, 0, 0, 0, 0, 0)), (127, .if_icmp .lt 7, 3, 0, (0, 0, 0, 0, 0, 0)), (130, .iconst 1, 1, 0, (0, 0, 0, 0, 0, 1)), (131, .goto 4, 3, 0, (0, 0, 0, 0, 0, 0)), (134, .iconst 0, 1, 0, (0, 0, 0, 0, 0, 0)), (135, .ireturn, 1, 0, (1, 0, 0, 0, 0, 0))]
set_option maxRecDepth 100000 in
theorem rk283 : R283.all (rok 2 283 1 [(238, [15, 0, 0, 0]), (239, [0, 0, 0]), (220, [15, 0, 0])]) = true := by decide +kernel
set_option maxRecDepth 100000 in
theorem tab283 {F238 : PM → Int32 → Int32 → Int32 → Int32} {G238 : PM → Int32 → Int32 → Int32 → Prop} {F239 : PM → Int32 → Int32 → Int32 → Int32} {G239 : PM → Int32 → Int32 → Int32 → Prop} {F220 : PM → Int32 → Int32 → Int32} {G220 : PM → Int32 → Int32 → Prop} : TabOK 2 283 1 [CC238 F238 G238, CC239 F239 G239, CC220 F220 G220] R283 := tab_ok (K := K283) rfl rfl (fun h => d283 h) rk283 (by decide +kernel)
set_option maxRecDepth 100000 in
theorem pc283 : cutpc [6] R283 = true := by decide +kernel
set_option maxRecDepth 100000 in
theorem r12_isEnough_6 (p : PM) (hg : Gr 2 p) (F238 : PM → Int32 → Int32 → Int32 → Int32) (G238 : PM → Int32 → Int32 → Int32 → Prop) (o238 : CalOK 2 (CC238 F238 G238)) (F239 : PM → Int32 → Int32 → Int32 → Int32) (G239 : PM → Int32 → Int32 → Int32 → Prop) (o239 : CalOK 2 (CC239 F239 G239)) (F220 : PM → Int32 → Int32 → Int32) (G220 : PM → Int32 → Int32 → Prop) (o220 : CalOK 2 (CC220 F220 G220)) (kv6 : Int32 → Int32 → Int32 → Int32 → Int32 → Int32 → Int32 → Int32) (kg6 : Int32 → Int32 → Int32 → Int32 → Int32 → Int32 → Int32 → Prop) (hk6 : ∀ (v1 : Int32) (v2 : Int32) (v3 : Int32) (v4 : Int32) (v5 : Int32) (v6 : Int32) (v7 : Int32) (d8 : ZV), kg6 v1 v2 v3 v4 v5 v6 v7 → ZJ 2 283 6 [zR 12 1, zI v1, zI v2, zI v3, zI v4, zI v5, zI v6, zI v7, d8] [] p (hoI p (kv6 v1 v2 v3 v4 v5 v6 v7))) : ∀ (v1 : Int32) (v2 : Int32) (v3 : Int32) (v4 : Int32) (v5 : Int32) (v6 : Int32) (v7 : Int32) (d8 : ZV), bg12_isEnough_6 p F220 G220 F238 G238 F239 G239 kg6 v1 v2 v3 v4 v5 v6 v7 → ZJ 2 283 6 [zR 12 1, zI v1, zI v2, zI v3, zI v4, zI v5, zI v6, zI v7, d8] [] p (hoI p (bv12_isEnough_6 p F220 F238 F239 kv6 v1 v2 v3 v4 v5 v6 v7)) := by
  intro v1 v2 v3 v4 v5 v6 v7 d8 H
  exact roI (n := 3000) (q := 6) (la := [zR 12 1, zI v1, zI v2, zI v3, zI v4, zI v5, zI v6, zI v7, d8]) (sa := []) (ks := [fun la sa _ => kv6 (ai la 1) (ai la 2) (ai la 3) (ai la 4) (ai la 5) (ai la 6) (ai la 7)]) (gs := [fun la sa _ => zsw (tc2 la [(112, 1), (0, 0), (0, 0), (0, 0), (0, 0), (0, 0), (0, 0), (0, 0), (2, 0)] && tc2 sa []) False (kg6 (ai la 1) (ai la 2) (ai la 3) (ai la 4) (ai la 5) (ai la 6) (ai la 7))]) (fcons o238 (fcons o239 (fcons o220 (fnil)))) tab283 pc283 ⟨fun la sa s hg H => zcut H fun H => hk6 (ai la 1) (ai la 2) (ai la 3) (ai la 4) (ai la 5) (ai la 6) (ai la 7) (zld la 8) H, trivial⟩ hg H
theorem t12_isEnough_6 (p : PM) (hg : Gr 2 p) : ∀ (n : Nat), ∀ (v1 : Int32) (v2 : Int32) (v3 : Int32) (v4 : Int32) (v5 : Int32) (v6 : Int32) (v7 : Int32) (d8 : ZV), g12_isEnough_6 p n v1 v2 v3 v4 v5 v6 v7 → ZJ 2 283 6 [zR 12 1, zI v1, zI v2, zI v3, zI v4, zI v5, zI v6, zI v7, d8] [] p (hoI p (v12_isEnough_6 p n v1 v2 v3 v4 v5 v6 v7)) := by
  intro n
  induction n with
  | zero =>
    intro v1 v2 v3 v4 v5 v6 v7 d8 H
    exact H.elim
  | succ n ih => exact r12_isEnough_6 p hg v12_isThere g12_isThere ok238 v12_isBetter g12_isBetter ok239 v12_isNear g12_isNear ok220 (v12_isEnough_6 p n) (g12_isEnough_6 p n) ih
set_option maxRecDepth 100000 in
theorem r12_isEnough (p : PM) (hg : Gr 2 p) (F238 : PM → Int32 → Int32 → Int32 → Int32) (G238 : PM → Int32 → Int32 → Int32 → Prop) (o238 : CalOK 2 (CC238 F238 G238)) (F239 : PM → Int32 → Int32 → Int32 → Int32) (G239 : PM → Int32 → Int32 → Int32 → Prop) (o239 : CalOK 2 (CC239 F239 G239)) (F220 : PM → Int32 → Int32 → Int32) (G220 : PM → Int32 → Int32 → Prop) (o220 : CalOK 2 (CC220 F220 G220)) (kv6 : Int32 → Int32 → Int32 → Int32 → Int32 → Int32 → Int32 → Int32) (kg6 : Int32 → Int32 → Int32 → Int32 → Int32 → Int32 → Int32 → Prop) (hk6 : ∀ (v1 : Int32) (v2 : Int32) (v3 : Int32) (v4 : Int32) (v5 : Int32) (v6 : Int32) (v7 : Int32) (d8 : ZV), kg6 v1 v2 v3 v4 v5 v6 v7 → ZJ 2 283 6 [zR 12 1, zI v1, zI v2, zI v3, zI v4, zI v5, zI v6, zI v7, d8] [] p (hoI p (kv6 v1 v2 v3 v4 v5 v6 v7))) : ∀ (v1 : Int32) (v2 : Int32) (v3 : Int32) (v4 : Int32) (v5 : Int32), bg12_isEnough p kg6 v1 v2 v3 v4 v5 → ZJ 2 283 0 [zR 12 1, zI v1, zI v2, zI v3, zI v4, zI v5, zJ, zJ, zJ] [] p (hoI p (bv12_isEnough p kv6 v1 v2 v3 v4 v5)) := by
  intro v1 v2 v3 v4 v5  H
  exact roI (n := 3000) (q := 0) (la := [zR 12 1, zI v1, zI v2, zI v3, zI v4, zI v5, zJ, zJ, zJ]) (sa := []) (ks := [fun la sa _ => kv6 (ai la 1) (ai la 2) (ai la 3) (ai la 4) (ai la 5) (ai la 6) (ai la 7)]) (gs := [fun la sa _ => zsw (tc2 la [(112, 1), (0, 0), (0, 0), (0, 0), (0, 0), (0, 0), (0, 0), (0, 0), (2, 0)] && tc2 sa []) False (kg6 (ai la 1) (ai la 2) (ai la 3) (ai la 4) (ai la 5) (ai la 6) (ai la 7))]) (fcons o238 (fcons o239 (fcons o220 (fnil)))) tab283 pc283 ⟨fun la sa s hg H => zcut H fun H => hk6 (ai la 1) (ai la 2) (ai la 3) (ai la 4) (ai la 5) (ai la 6) (ai la 7) (zld la 8) H, trivial⟩ hg H
theorem t12_isEnough (p : PM) (hg : Gr 2 p) : ∀ (v1 : Int32) (v2 : Int32) (v3 : Int32) (v4 : Int32) (v5 : Int32), g12_isEnough p v1 v2 v3 v4 v5 → ZJ 2 283 0 [zR 12 1, zI v1, zI v2, zI v3, zI v4, zI v5, zJ, zJ, zJ] [] p (hoI p (v12_isEnough p v1 v2 v3 v4 v5)) := r12_isEnough p hg v12_isThere g12_isThere ok238 v12_isBetter g12_isBetter ok239 v12_isNear g12_isNear ok220 (v12_isEnough_6 p FU) (g12_isEnough_6 p FU) (t12_isEnough_6 p hg FU)
def CC283 (F : PM → Int32 → Int32 → Int32 → Int32 → Int32 → Int32) (G : PM → Int32 → Int32 → Int32 → Int32 → Int32 → Prop) : Cal := (283, [15, 0, 0, 0, 0, 0], 1, true, fun as p => (zI (F p (ai as 1) (ai as 2) (ai as 3) (ai as 4) (ai as 5)), p), fun as p => zsw (tc2 as [(112, 1), (0, 0), (0, 0), (0, 0), (0, 0), (0, 0)]) False (G p (ai as 1) (ai as 2) (ai as 3) (ai as 4) (ai as 5)))
set_option maxRecDepth 100000 in
theorem okr283 (F : PM → Int32 → Int32 → Int32 → Int32 → Int32 → Int32) (G : PM → Int32 → Int32 → Int32 → Int32 → Int32 → Prop) (h : ∀ (p : PM) (v1 : Int32) (v2 : Int32) (v3 : Int32) (v4 : Int32) (v5 : Int32), Gr 2 p → G p v1 v2 v3 v4 v5 → ZJ 2 283 0 [zR 12 1, zI v1, zI v2, zI v3, zI v4, zI v5, zJ, zJ, zJ] [] p (hoI p (F p v1 v2 v3 v4 v5))) : CalOK 2 (CC283 F G) := cal_ok (m := 9) (by unfold mL; rw [mX_283]) (fun as p hg H => h p (ai as 1) (ai as 2) (ai as 3) (ai as 4) (ai as 5) hg H)
theorem ok283 : CalOK 2 (CC283 v12_isEnough g12_isEnough) := okr283 v12_isEnough g12_isEnough (fun p v1 v2 v3 v4 v5 hg H => t12_isEnough p hg v1 v2 v3 v4 v5 H)
noncomputable def bv12_doLimit_121 (F218 : PM → Int32 → Int32) (F224 : PM → Int32 → Int32 → Int32 → Int32 → Int32 → Int32 → Int32 → Int32 × PM) (F257 : PM → Int32 → PM) (F283 : PM → Int32 → Int32 → Int32 → Int32 → Int32 → Int32) (p : PM) (v1 : Int32) (v2 : Int32) (v3 : Int32) (v4 : Int32) (v5 : Int32) (v6 : Int32) : Int32 × PM :=
  if (p.1 12 1 0) = 0 then (
    if (F218 p v2) = 0 then (
      if v6 = (cn (-100000)) then (
        let r4 : Int32 × PM := F224 p v1 v2 v4 v3 (cn 0) (cn 0) (cn (-100000))
        let x5 : Int32 := (r4.2.1 13 14 (r4.1).toNatClampNeg)
        let p6 : PM := F257 r4.2 r4.1
        (x5, p6))
      else (
        let r1 : Int32 × PM := F224 p v1 v2 v4 v3 (cn 0) (cn 0) ((p.1 12 1 18) + v6)
        let x2 : Int32 := (r1.2.1 13 14 (r1.1).toNatClampNeg)
        let p3 : PM := F257 r1.2 r1.1
        (x2, p3)))
    else (
      if 0 < v4 then (
        if (F283 p v1 v2 v3 (cn 1) v5) = 0 then (
          if v6 = (cn (-100000)) then (
            let r22 : Int32 × PM := F224 p v1 v2 v4 v3 (cn 0) (cn 0) (cn (-100000))
            let x23 : Int32 := (r22.2.1 13 14 (r22.1).toNatClampNeg)
            let p24 : PM := pI r22.2 15 3 (r22.1).toNatClampNeg (cn 0)
            (x23, p24))
          else (
            let r19 : Int32 × PM := F224 p v1 v2 v4 v3 (cn 0) (cn 0) ((p.1 12 1 18) + v6)
            let x20 : Int32 := (r19.2.1 13 14 (r19.1).toNatClampNeg)
            let p21 : PM := pI r19.2 15 3 (r19.1).toNatClampNeg (cn 0)
            (x20, p21)))
        else (
          if v6 = (cn (-100000)) then (
            let r28 : Int32 × PM := F224 p v1 v2 v4 v3 (cn 0) (cn 0) (cn (-100000))
            let x29 : Int32 := (r28.2.1 13 14 (r28.1).toNatClampNeg)
            let p30 : PM := F257 r28.2 r28.1
            (x29, p30))
          else (
            let r25 : Int32 × PM := F224 p v1 v2 v4 v3 (cn 0) (cn 0) ((p.1 12 1 18) + v6)
            let x26 : Int32 := (r25.2.1 13 14 (r25.1).toNatClampNeg)
            let p27 : PM := F257 r25.2 r25.1
            (x26, p27))))
      else (
        if (F283 p v1 v2 v3 (cn 0) v5) = 0 then (
          if v6 = (cn (-100000)) then (
            let r10 : Int32 × PM := F224 p v1 v2 v4 v3 (cn 0) (cn 0) (cn (-100000))
            let x11 : Int32 := (r10.2.1 13 14 (r10.1).toNatClampNeg)
            let p12 : PM := pI r10.2 15 3 (r10.1).toNatClampNeg (cn 0)
            (x11, p12))
          else (
            let r7 : Int32 × PM := F224 p v1 v2 v4 v3 (cn 0) (cn 0) ((p.1 12 1 18) + v6)
            let x8 : Int32 := (r7.2.1 13 14 (r7.1).toNatClampNeg)
            let p9 : PM := pI r7.2 15 3 (r7.1).toNatClampNeg (cn 0)
            (x8, p9)))
        else (
          if v6 = (cn (-100000)) then (
            let r16 : Int32 × PM := F224 p v1 v2 v4 v3 (cn 0) (cn 0) (cn (-100000))
            let x17 : Int32 := (r16.2.1 13 14 (r16.1).toNatClampNeg)
            let p18 : PM := F257 r16.2 r16.1
            (x17, p18))
          else (
            let r13 : Int32 × PM := F224 p v1 v2 v4 v3 (cn 0) (cn 0) ((p.1 12 1 18) + v6)
            let x14 : Int32 := (r13.2.1 13 14 (r13.1).toNatClampNeg)
            let p15 : PM := F257 r13.2 r13.1
            (x14, p15))))))
  else (
    ((cn 0), p))
noncomputable def v12_doLimit_121 (p : PM) (v1 : Int32) (v2 : Int32) (v3 : Int32) (v4 : Int32) (v5 : Int32) (v6 : Int32) : Int32 × PM := bv12_doLimit_121 v12_isOpen v12_newOrder v12_enters v12_isEnough p v1 v2 v3 v4 v5 v6
noncomputable def bg12_doLimit_121 (F218 : PM → Int32 → Int32) (G218 : PM → Int32 → Prop) (F224 : PM → Int32 → Int32 → Int32 → Int32 → Int32 → Int32 → Int32 → Int32 × PM) (G224 : PM → Int32 → Int32 → Int32 → Int32 → Int32 → Int32 → Int32 → Prop) (F257 : PM → Int32 → PM) (G257 : PM → Int32 → Prop) (F283 : PM → Int32 → Int32 → Int32 → Int32 → Int32 → Int32) (G283 : PM → Int32 → Int32 → Int32 → Int32 → Int32 → Prop) (p : PM) (v1 : Int32) (v2 : Int32) (v3 : Int32) (v4 : Int32) (v5 : Int32) (v6 : Int32) : Prop :=
  if (p.1 12 1 0) = 0 then (
    (G218 p v2) ∧ (
    if (F218 p v2) = 0 then (
      if v6 = (cn (-100000)) then (
        (G224 p v1 v2 v4 v3 (cn 0) (cn 0) (cn (-100000))) ∧ (
        let r4 : Int32 × PM := F224 p v1 v2 v4 v3 (cn 0) (cn 0) (cn (-100000))
        (inb r4.1 44) ∧ (
        let x5 : Int32 := (r4.2.1 13 14 (r4.1).toNatClampNeg)
        (G257 r4.2 r4.1) ∧ (
        let p6 : PM := F257 r4.2 r4.1
        True))))
      else (
        (G224 p v1 v2 v4 v3 (cn 0) (cn 0) ((p.1 12 1 18) + v6)) ∧ (
        let r1 : Int32 × PM := F224 p v1 v2 v4 v3 (cn 0) (cn 0) ((p.1 12 1 18) + v6)
        (inb r1.1 44) ∧ (
        let x2 : Int32 := (r1.2.1 13 14 (r1.1).toNatClampNeg)
        (G257 r1.2 r1.1) ∧ (
        let p3 : PM := F257 r1.2 r1.1
        True)))))
    else (
      if 0 < v4 then (
        (G283 p v1 v2 v3 (cn 1) v5) ∧ (
        if (F283 p v1 v2 v3 (cn 1) v5) = 0 then (
          if v6 = (cn (-100000)) then (
            (G224 p v1 v2 v4 v3 (cn 0) (cn 0) (cn (-100000))) ∧ (
            let r22 : Int32 × PM := F224 p v1 v2 v4 v3 (cn 0) (cn 0) (cn (-100000))
            (inb r22.1 44) ∧ (
            let x23 : Int32 := (r22.2.1 13 14 (r22.1).toNatClampNeg)
            (inb r22.1 44) ∧ (
            let p24 : PM := pI r22.2 15 3 (r22.1).toNatClampNeg (cn 0)
            True))))
          else (
            (G224 p v1 v2 v4 v3 (cn 0) (cn 0) ((p.1 12 1 18) + v6)) ∧ (
            let r19 : Int32 × PM := F224 p v1 v2 v4 v3 (cn 0) (cn 0) ((p.1 12 1 18) + v6)
            (inb r19.1 44) ∧ (
            let x20 : Int32 := (r19.2.1 13 14 (r19.1).toNatClampNeg)
            (inb r19.1 44) ∧ (
            let p21 : PM := pI r19.2 15 3 (r19.1).toNatClampNeg (cn 0)
            True)))))
        else (
          if v6 = (cn (-100000)) then (
            (G224 p v1 v2 v4 v3 (cn 0) (cn 0) (cn (-100000))) ∧ (
            let r28 : Int32 × PM := F224 p v1 v2 v4 v3 (cn 0) (cn 0) (cn (-100000))
            (inb r28.1 44) ∧ (
            let x29 : Int32 := (r28.2.1 13 14 (r28.1).toNatClampNeg)
            (G257 r28.2 r28.1) ∧ (
            let p30 : PM := F257 r28.2 r28.1
            True))))
          else (
            (G224 p v1 v2 v4 v3 (cn 0) (cn 0) ((p.1 12 1 18) + v6)) ∧ (
            let r25 : Int32 × PM := F224 p v1 v2 v4 v3 (cn 0) (cn 0) ((p.1 12 1 18) + v6)
            (inb r25.1 44) ∧ (
            let x26 : Int32 := (r25.2.1 13 14 (r25.1).toNatClampNeg)
            (G257 r25.2 r25.1) ∧ (
            let p27 : PM := F257 r25.2 r25.1
            True)))))))
      else (
        (G283 p v1 v2 v3 (cn 0) v5) ∧ (
        if (F283 p v1 v2 v3 (cn 0) v5) = 0 then (
          if v6 = (cn (-100000)) then (
            (G224 p v1 v2 v4 v3 (cn 0) (cn 0) (cn (-100000))) ∧ (
            let r10 : Int32 × PM := F224 p v1 v2 v4 v3 (cn 0) (cn 0) (cn (-100000))
            (inb r10.1 44) ∧ (
            let x11 : Int32 := (r10.2.1 13 14 (r10.1).toNatClampNeg)
            (inb r10.1 44) ∧ (
            let p12 : PM := pI r10.2 15 3 (r10.1).toNatClampNeg (cn 0)
            True))))
          else (
            (G224 p v1 v2 v4 v3 (cn 0) (cn 0) ((p.1 12 1 18) + v6)) ∧ (
            let r7 : Int32 × PM := F224 p v1 v2 v4 v3 (cn 0) (cn 0) ((p.1 12 1 18) + v6)
            (inb r7.1 44) ∧ (
            let x8 : Int32 := (r7.2.1 13 14 (r7.1).toNatClampNeg)
            (inb r7.1 44) ∧ (
            let p9 : PM := pI r7.2 15 3 (r7.1).toNatClampNeg (cn 0)
            True)))))
        else (
          if v6 = (cn (-100000)) then (
            (G224 p v1 v2 v4 v3 (cn 0) (cn 0) (cn (-100000))) ∧ (
            let r16 : Int32 × PM := F224 p v1 v2 v4 v3 (cn 0) (cn 0) (cn (-100000))
            (inb r16.1 44) ∧ (
            let x17 : Int32 := (r16.2.1 13 14 (r16.1).toNatClampNeg)
            (G257 r16.2 r16.1) ∧ (
            let p18 : PM := F257 r16.2 r16.1
            True))))
          else (
            (G224 p v1 v2 v4 v3 (cn 0) (cn 0) ((p.1 12 1 18) + v6)) ∧ (
            let r13 : Int32 × PM := F224 p v1 v2 v4 v3 (cn 0) (cn 0) ((p.1 12 1 18) + v6)
            (inb r13.1 44) ∧ (
            let x14 : Int32 := (r13.2.1 13 14 (r13.1).toNatClampNeg)
            (G257 r13.2 r13.1) ∧ (
            let p15 : PM := F257 r13.2 r13.1
            True))))))))))
  else (
    True)
noncomputable def g12_doLimit_121 (p : PM) (v1 : Int32) (v2 : Int32) (v3 : Int32) (v4 : Int32) (v5 : Int32) (v6 : Int32) : Prop := bg12_doLimit_121 v12_isOpen g12_isOpen v12_newOrder g12_newOrder v12_enters g12_enters v12_isEnough g12_isEnough p v1 v2 v3 v4 v5 v6
noncomputable def bv12_doLimit_75 (F218 : PM → Int32 → Int32) (F282 : PM → Int32 → Int32 → Int32 → Int32) (kv121 : PM → Int32 → Int32 → Int32 → Int32 → Int32 → Int32 → Int32 × PM) (p : PM) (v1 : Int32) (v2 : Int32) (v3 : Int32) (v4 : Int32) (v5 : Int32) (v6 : Int32) (s0 : Int32) : Int32 × PM :=
  let p1 : PM := pI p 12 1 0 s0
  if (p1.1 12 1 0) = 0 then (
    if (F282 p1 v1 v2 v4) = 0 then (
      if (F218 p1 v2) = 0 then (
        if v6 = (cn (-100000)) then (
          let p3 : PM := pI p1 12 1 0 (cn 3)
          kv121 p3 v1 v2 v3 v4 v5 v6)
        else (
          if 0 < v5 then (
            let p4 : PM := pI p1 12 1 0 (cn 3)
            kv121 p4 v1 v2 v3 v4 v5 v6)
          else (
            kv121 p1 v1 v2 v3 v4 v5 v6)))
      else (
        kv121 p1 v1 v2 v3 v4 v5 v6))
    else (
      let p2 : PM := pI p1 12 1 0 (cn 3)
      kv121 p2 v1 v2 v3 v4 v5 v6))
  else (
    kv121 p1 v1 v2 v3 v4 v5 v6)
noncomputable def v12_doLimit_75 (p : PM) (v1 : Int32) (v2 : Int32) (v3 : Int32) (v4 : Int32) (v5 : Int32) (v6 : Int32) (s0 : Int32) : Int32 × PM := bv12_doLimit_75 v12_isOpen v12_isShut v12_doLimit_121 p v1 v2 v3 v4 v5 v6 s0
noncomputable def bg12_doLimit_75 (F218 : PM → Int32 → Int32) (G218 : PM → Int32 → Prop) (F282 : PM → Int32 → Int32 → Int32 → Int32) (G282 : PM → Int32 → Int32 → Int32 → Prop) (kg121 : PM → Int32 → Int32 → Int32 → Int32 → Int32 → Int32 → Prop) (p : PM) (v1 : Int32) (v2 : Int32) (v3 : Int32) (v4 : Int32) (v5 : Int32) (v6 : Int32) (s0 : Int32) : Prop :=
  let p1 : PM := pI p 12 1 0 s0
  if (p1.1 12 1 0) = 0 then (
    (G282 p1 v1 v2 v4) ∧ (
    if (F282 p1 v1 v2 v4) = 0 then (
      (G218 p1 v2) ∧ (
      if (F218 p1 v2) = 0 then (
        if v6 = (cn (-100000)) then (
          let p3 : PM := pI p1 12 1 0 (cn 3)
          kg121 p3 v1 v2 v3 v4 v5 v6)
        else (
          if 0 < v5 then (
            let p4 : PM := pI p1 12 1 0 (cn 3)
            kg121 p4 v1 v2 v3 v4 v5 v6)
          else (
            kg121 p1 v1 v2 v3 v4 v5 v6)))
      else (
        kg121 p1 v1 v2 v3 v4 v5 v6)))
    else (
      let p2 : PM := pI p1 12 1 0 (cn 3)
      kg121 p2 v1 v2 v3 v4 v5 v6)))
  else (
    kg121 p1 v1 v2 v3 v4 v5 v6)
noncomputable def g12_doLimit_75 (p : PM) (v1 : Int32) (v2 : Int32) (v3 : Int32) (v4 : Int32) (v5 : Int32) (v6 : Int32) (s0 : Int32) : Prop := bg12_doLimit_75 v12_isOpen g12_isOpen v12_isShut g12_isShut g12_doLimit_121 p v1 v2 v3 v4 v5 v6 s0
noncomputable def bv12_doLimit_70 (kv75 : PM → Int32 → Int32 → Int32 → Int32 → Int32 → Int32 → Int32 → Int32 × PM) (p : PM) (v1 : Int32) (v2 : Int32) (v3 : Int32) (v4 : Int32) (v5 : Int32) (v6 : Int32) : Int32 × PM :=
  kv75 p v1 v2 v3 v4 v5 v6 (cn 2)
noncomputable def v12_doLimit_70 (p : PM) (v1 : Int32) (v2 : Int32) (v3 : Int32) (v4 : Int32) (v5 : Int32) (v6 : Int32) : Int32 × PM := bv12_doLimit_70 v12_doLimit_75 p v1 v2 v3 v4 v5 v6
noncomputable def bg12_doLimit_70 (kg75 : PM → Int32 → Int32 → Int32 → Int32 → Int32 → Int32 → Int32 → Prop) (p : PM) (v1 : Int32) (v2 : Int32) (v3 : Int32) (v4 : Int32) (v5 : Int32) (v6 : Int32) : Prop :=
  kg75 p v1 v2 v3 v4 v5 v6 (cn 2)
noncomputable def g12_doLimit_70 (p : PM) (v1 : Int32) (v2 : Int32) (v3 : Int32) (v4 : Int32) (v5 : Int32) (v6 : Int32) : Prop := bg12_doLimit_70 g12_doLimit_75 p v1 v2 v3 v4 v5 v6
noncomputable def bv12_doLimit (F215 : PM → Int32 → Int32 → Int32 → Int32) (F216 : PM → Int32 → Int32) (F219 : PM → Int32 → Int32 → Int32) (F280 : PM → Int32 → Int32) (F281 : PM → Int32 → Int32) (kv70 : PM → Int32 → Int32 → Int32 → Int32 → Int32 → Int32 → Int32 × PM) (kv75 : PM → Int32 → Int32 → Int32 → Int32 → Int32 → Int32 → Int32 → Int32 × PM) (p : PM) (v1 : Int32) (v2 : Int32) (v3 : Int32) (v4 : Int32) (v5 : Int32) (v6 : Int32) : Int32 × PM :=
  if (F280 p v1) = 0 then (
    kv75 p v1 v2 v3 v4 v5 v6 (cn 1))
  else (
    if (F215 p v2 (cn 0) (cn 5)) = 0 then (
      kv75 p v1 v2 v3 v4 v5 v6 (cn 1))
    else (
      if (F219 p v2 v3) = 0 then (
        kv70 p v1 v2 v3 v4 v5 v6)
      else (
        if (F281 p v4) = 0 then (
          kv70 p v1 v2 v3 v4 v5 v6)
        else (
          if (F215 p v5 (cn 0) (F216 p v4)) = 0 then (
            kv70 p v1 v2 v3 v4 v5 v6)
          else (
            if (F215 p v6 (cn 0) (cn 9)) = 0 then (
              if v6 = (cn (-100000)) then (
                kv75 p v1 v2 v3 v4 v5 v6 (cn 0))
              else (
                kv70 p v1 v2 v3 v4 v5 v6))
            else (
              kv75 p v1 v2 v3 v4 v5 v6 (cn 0)))))))
noncomputable def v12_doLimit (p : PM) (v1 : Int32) (v2 : Int32) (v3 : Int32) (v4 : Int32) (v5 : Int32) (v6 : Int32) : Int32 × PM := bv12_doLimit v12_in v12_abs v12_isPrice v12_isAccount v12_isQuantity v12_doLimit_70 v12_doLimit_75 p v1 v2 v3 v4 v5 v6
noncomputable def bg12_doLimit (F215 : PM → Int32 → Int32 → Int32 → Int32) (G215 : PM → Int32 → Int32 → Int32 → Prop) (F216 : PM → Int32 → Int32) (G216 : PM → Int32 → Prop) (F219 : PM → Int32 → Int32 → Int32) (G219 : PM → Int32 → Int32 → Prop) (F280 : PM → Int32 → Int32) (G280 : PM → Int32 → Prop) (F281 : PM → Int32 → Int32) (G281 : PM → Int32 → Prop) (kg70 : PM → Int32 → Int32 → Int32 → Int32 → Int32 → Int32 → Prop) (kg75 : PM → Int32 → Int32 → Int32 → Int32 → Int32 → Int32 → Int32 → Prop) (p : PM) (v1 : Int32) (v2 : Int32) (v3 : Int32) (v4 : Int32) (v5 : Int32) (v6 : Int32) : Prop :=
  (G280 p v1) ∧ (
  if (F280 p v1) = 0 then (
    kg75 p v1 v2 v3 v4 v5 v6 (cn 1))
  else (
    (G215 p v2 (cn 0) (cn 5)) ∧ (
    if (F215 p v2 (cn 0) (cn 5)) = 0 then (
      kg75 p v1 v2 v3 v4 v5 v6 (cn 1))
    else (
      (G219 p v2 v3) ∧ (
      if (F219 p v2 v3) = 0 then (
        kg70 p v1 v2 v3 v4 v5 v6)
      else (
        (G281 p v4) ∧ (
        if (F281 p v4) = 0 then (
          kg70 p v1 v2 v3 v4 v5 v6)
        else (
          (G216 p v4) ∧ (
          (G215 p v5 (cn 0) (F216 p v4)) ∧ (
          if (F215 p v5 (cn 0) (F216 p v4)) = 0 then (
            kg70 p v1 v2 v3 v4 v5 v6)
          else (
            (G215 p v6 (cn 0) (cn 9)) ∧ (
            if (F215 p v6 (cn 0) (cn 9)) = 0 then (
              if v6 = (cn (-100000)) then (
                kg75 p v1 v2 v3 v4 v5 v6 (cn 0))
              else (
                kg70 p v1 v2 v3 v4 v5 v6))
            else (
              kg75 p v1 v2 v3 v4 v5 v6 (cn 0))))))))))))))
noncomputable def g12_doLimit (p : PM) (v1 : Int32) (v2 : Int32) (v3 : Int32) (v4 : Int32) (v5 : Int32) (v6 : Int32) : Prop := bg12_doLimit v12_in g12_in v12_abs g12_abs v12_isPrice g12_isPrice v12_isAccount g12_isAccount v12_isQuantity g12_isQuantity g12_doLimit_70 g12_doLimit_75 p v1 v2 v3 v4 v5 v6
def R284 : List Row := [(0, .aload_n 0, 1, 0, (0, 0, 0, 0, 0, 0)), (1, .iload_n 1, 1, 0, (0, 0, 0, 0, 0, 0)), (2, .invokestatic 429, 3, 0, (0, 1, 0, 0, 0, 0)), (5, .ifCond .eq 12, 3, 0, (0, 0, 0, 0, 0, 0)), (8, .iload_n 2, 1, 0, (0, 0, 0, 0, 0, 0)), (9, .iconst 0, 1, 0, (0, 0, 0, 0, 0, 0)), (10, .iconst 5, 1, 0, (0, 0, 0, 0, 0, 5)), (11, .invokestatic 209, 3, 0, (1, 3, 0, 0, 0, 0)), (14, .ifCond .ne 7, 3, 0, (0, 0, 0, 0, 0, 0)), (17, .iconst 1, 1, 0, (0, 0, 0, 0, 0, 1)), (18, .goto 57, 3, 0, (0, 0, 0, 0, 0, 0)), (21, .iload_n 2, 1, 0, (0, 0, 0, 0, 0, 0)), (22, .iload_n 3, 1, 0, (0, 0, 0, 0, 0, 0)), (23, .invokestatic 334, 3, 0, (2, 2, 0, 0, 0, 0)), (26, .ifCond .eq 44, 3, 0, (0, 0, 0, 0, 0, 0)), (29, .aload_n 0, 1, 0, (0, 0, 0, 0, 0, 0)), (30, .iload 4, 2, 0, (0, 0, 0, 0, 0, 0)), (32, .invokevirtual 432, 3, 0, (3, 2, 0, 0, 1, 0)), (35, .ifCond .eq 35, 3, 0, (0, 0, 0, 0, 0, 0)), (38, .iload 5, 2, 0, (0, 0, 0, 0, 0, 0)), (40, .iconst 0, 1, 0, (0, 0, 0, 0, 0, 0)), (41, .iload 4, 2, 0, (0, 0, 0, 0, 0, 0)), (43, .invokestatic 213, 3, 0, (4, 1, 0, 0, 0, 0)), (46, .invokestatic 209, 3, 0, (1, 3, 0, 0, 0, 0)), (49, .ifCond .eq 21, 3, 0, (0, 0, 0, 0, 0, 0)), (52, .iload 6, 2, 0, (0, 0, 0, 0, 0, 0)), (54, .iconst 0, 1, 0, (0, 0, 0, 0, 0, 0)), (55, .bipush 9, 2, 0, (0, 0, 0, 0, 0, 9)), (57, .invokestatic 209, 3, 0, (1, 3, 0, 0, 0, 0)), (60, .ifCond .ne 14, 3, 0, (0, 0, 0, 0, 0, 0)), (63, .iload 6, 2, 0, (0, 0, 0, 0, 0, 0)), (65, .ldc 184, 2, 0, (0, 0, 0, 0, 0, -100000)), (67, .if_icmp .eq 7, 3, 0, (0, 0, 0, 0, 0, 0)), (70, .iconst 2, 1, 1, (0, 0, 0, 0, 0, 2)), (71, .goto 4, 3, 0, (0, 0, 0, 0, 0, 0)), (74, .iconst 0, 1, 0, (0, 0, 0, 0, 0, 0)), (75, .putfield 180, 3, 2, (12, 0, 0, 1, 0, 0)), (78, .aload_n 0, 1, 0, (0, 0, 0, 0, 0, 0)), (79, .getfield 180, 3, 0, (12, 0, 0, 1, 0, 0)), (82, .ifCond .ne 39, 3, 0, (0, 0, 0, 0, 0, 0)), (85, .aload_n 0, 1, 0, (0, 0, 0, 0, 0, 0)), (86, .iload_n 1, 1, 0, (0, 0, 0, 0, 0, 0)), (87, .iload_n 2, 1, 0, (0, 0, 0, 0, 0, 0)), (88, .iload 4, 2, 0, (0, 0, 0, 0, 0, 0)), (90, .invokevirtual 435, 3, 0, (5, 4, 0, 0, 1, 0)), (93, .ifCond .ne 23, 3, 0, (0, 0, 0, 0, 0, 0)), (96, .aload_n 0, 1, 0, (0, 0, 0, 0, 0, 0)), (97, .iload_n 2, 1, 0, (0, 0, 0, 0, 0, 0)), (98, .invokevirtual 328, 3, 0, (6, 2, 0, 0, 1, 0)), (101, .ifCond .ne 20, 3, 0, (0, 0, 0, 0, 0, 0)), (104, .iload 6, 2, 0, (0, 0, 0, 0, 0, 0)), (106, .ldc 184, 2, 0, (0, 0, 0, 0, 0, -100000)), (108, .if_icmp .eq 8, 3, 0, (0, 0, 0, 0, 0, 0)), (111, .iload 5, 2, 0, (0, 0, 0, 0, 0, 0)), (113, .ifCond .le 8, 3, 0, (0, 0, 0, 0, 0, 0)), (116, .aload_n 0, 1, 0, (0, 0, 0, 0, 0, 0)), (117, .iconst 3, 1, 0, (0, 0, 0, 0, 0, 3)), (118, .putfield 180, 3, 0, (12, 0, 0, 1, 0, 0)), (121, .aload_n 0, 1, 3, (0, 0, 0, 0, 0, 0)), (122, .getfield 180, 3, 0, (12, 0, 0, 1, 0, 0)), (125, .ifCond .eq 5, 3, 0, (0, 0, 0, 0, 0, 0)), (128, .iconst 0, 1, 0, (0, 0, 0, 0, 0, 0)), (129, .ireturn, 1, 0, (0, 0, 0, 0, 0, 0)), (130, .aload_n 0, 1, 0, (0, 0, 0, 0, 0, 0)), (131, .iload_n 2, 1, 0, (0, 0, 0, 0, 0, 0)), (132, .invokevirtual 328, 3, 0, (6, 2, 0, 0, 1, 0)), (135, .ifCond .eq 25, 3, 0, (0, 0, 0, 0, 0, 0)), (138, .aload_n 0, 1, 0, (0, 0, 0, 0, 0, 0)), (139, .iload_n 1, 1, 0, (0, 0, 0, 0, 0, 0)), (140, .iload_n 2, 1, 0, (0, 0, 0, 0, 0, 0)), (141, .iload_n 3, 1, 0, (0, 0, 0, 0, 0, 0)), (142, .iload 4, 2, 0, (0, 0, 0, 0, 0, 0)), (144, .ifCond .le 7, 3, 0, (0, 0, 0, 0, 0, 0)), (147, .iconst 1, 1, 0, (0, 0, 0, 0, 0, 1)), (148, .goto 4, 3, 0, (0, 0, 0, 0, 0, 0)), (151, .iconst 0, 1, 0, (0, 0, 0, 0, 0, 0)), (152, .iload 5, 2, 0, (0, 0, 0, 0, 0, 0)), (154, .invokevirtual 438, 3, 0, (9, 6, 0, 0, 1, 0)), (157, .ifCond .eq 7, 3, 0, (0, 0, 0, 0, 0, 0)), (160, .iconst 1, 1, 0, (0, 0, 0, 0, 0, 1)), (161, .goto 4, 3, 0, (0, 0, 0, 0, 0, 0)), (164, .iconst 0, 1, 0, (0, 0, 0, 0, 0, 0)), (165, .istore 7, 2, 0, (0, 0, 0, 0, 0, 0)), (167, .aload_n 0, 1, 0, (0, 0, 0, 0, 0, 0)), (168, .iload_n 1, 1, 0, (0, 0, 0, 0, 0, 0)), (169, .iload_n 2, 1, 0, (0, 0, 0, 0, 0, 0)), (170, .iload 4, 2, 0, (0, 0, 0, 0, 0, 0)), (172, .iload_n 3, 1, 0, (0, 0, 0, 0, 0, 0)), (173, .iconst 0, 1, 0, (0, 0, 0, 0, 0, 0)), (174, .iconst 0, 1, 0, (0, 0, 0, 0, 0, 0)), (175, .iload 6, 2, 0, (0, 0, 0, 0, 0, 0)), (177, .ldc 184, 2, 0, (0, 0, 0, 0, 0, -100000)), (179, .if_icmp .ne 8, 3, 0, (0, 0, 0, 0, 0, 0)), (182, .ldc 184, 2, 0, (0, 0, 0, 0, 0, -100000)), (184, .goto 10, 3, 0, (0, 0, 0, 0, 0, 0)), (187, .aload_n 0, 1, 0, (0, 0, 0, 0, 0, 0)), (188, .getfield 197, 3, 0, (12, 18, 0, 1, 0, 0)), (191, .iload 6, 2, 0, (0, 0, 0, 0, 0, 0)), (193, .iadd, 1, 0, (0, 0, 0, 0, 0, 0)), (194, .invokevirtual 442, 3, 0, (7, 8, 0, 0, 1, 0)), (197, .istore 8, 2, 0, (0, 0, 0, 0, 0, 0)), (199, .aload_n 0, 1, 0, (0, 0, 0, 0, 0, 0)), (200, .getfield 63, 3, 0, (12, 20, 16, 2, 14, 0)), (203, .iload 8, 2, 0, (0, 0, 0, 0, 0, 0)), (205, .iaload, 1, 0, (13, 44, 0, 0, 0, 0)), (206, .istore 9, 2, 0, (0, 0, 0, 0, 0, 0)), (208, .iload 7, 2, 0, (0, 0, 0, 0, 0, 0)), (210, .ifCond .eq 12, 3, 0, (0, 0, 0, 0, 0, 0)), (213, .aload_n 0, 1, 0, (0, 0, 0, 0, 0, 0)), (214, .iload 8, 2, 0, (0, 0, 0, 0, 0, 0)), (216, .invokevirtual 446, 3, 0, (8, 2, 0, 0, 1, 0)), (219, .goto 11, 3, 0, (0, 0, 0, 0, 0, 0)), (222, .aload_n 0, 1, 0, (0, 0, 0, 0, 0, 0)), (223, .getfield 60, 3, 0, (12, 19, 18, 2, 3, 0)), (226, .iload 8, 2, 0, (0, 0, 0, 0, 0, 0)), (228, .iconst 0, 1, 0, (0, 0, 0, 0, 0, 0)), (229, .bastore, 1, 0, (15, 44, 0, 0, 0, 0)), (230, .iload 9, 2, 0, (0, 0, 0, 0, 0, 0)), (232, .ireturn, 1, 0, (0, 0, 0, 0, 0, 0))]
set_option maxRecDepth 100000 in
theorem rk284 : R284.all (rok 2 284 1 [(280, [0]), (215, [0, 0, 0]), (219, [0, 0]), (281, [15, 0]), (216, [0]), (282, [15, 0, 0, 0]), (218, [15, 0]), (224, [15, 0, 0, 0, 0, 0, 0, 0]), (257, [15, 0]), (283, [15, 0, 0, 0, 0, 0])]) = true := by decide +kernel
set_option maxRecDepth 100000 in
theorem tab284 {F280 : PM → Int32 → Int32} {G280 : PM → Int32 → Prop} {F215 : PM → Int32 → Int32 → Int32 → Int32} {G215 : PM → Int32 → Int32 → Int32 → Prop} {F219 : PM → Int32 → Int32 → Int32} {G219 : PM → Int32 → Int32 → Prop} {F281 : PM → Int32 → Int32} {G281 : PM → Int32 → Prop} {F216 : PM → Int32 → Int32} {G216 : PM → Int32 → Prop} {F282 : PM → Int32 → Int32 → Int32 → Int32} {G282 : PM → Int32 → Int32 → Int32 → Prop} {F218 : PM → Int32 → Int32} {G218 : PM → Int32 → Prop} {F224 : PM → Int32 → Int32 → Int32 → Int32 → Int32 → Int32 → Int32 → Int32 × PM} {G224 : PM → Int32 → Int32 → Int32 → Int32 → Int32 → Int32 → Int32 → Prop} {F257 : PM → Int32 → PM} {G257 : PM → Int32 → Prop} {F283 : PM → Int32 → Int32 → Int32 → Int32 → Int32 → Int32} {G283 : PM → Int32 → Int32 → Int32 → Int32 → Int32 → Prop} : TabOK 2 284 1 [CC280 F280 G280, CC215 F215 G215, CC219 F219 G219, CC281 F281 G281, CC216 F216 G216, CC282 F282 G282, CC218 F218 G218, CC224 F224 G224, CC257 F257 G257, CC283 F283 G283] R284 := tab_ok (K := K284) rfl rfl (fun h => d284 h) rk284 (by decide +kernel)
set_option maxRecDepth 100000 in
theorem pc284 : cutpc [70, 75, 121] R284 = true := by decide +kernel
set_option maxRecDepth 100000 in
theorem r12_doLimit_121 (F280 : PM → Int32 → Int32) (G280 : PM → Int32 → Prop) (o280 : CalOK 2 (CC280 F280 G280)) (F215 : PM → Int32 → Int32 → Int32 → Int32) (G215 : PM → Int32 → Int32 → Int32 → Prop) (o215 : CalOK 2 (CC215 F215 G215)) (F219 : PM → Int32 → Int32 → Int32) (G219 : PM → Int32 → Int32 → Prop) (o219 : CalOK 2 (CC219 F219 G219)) (F281 : PM → Int32 → Int32) (G281 : PM → Int32 → Prop) (o281 : CalOK 2 (CC281 F281 G281)) (F216 : PM → Int32 → Int32) (G216 : PM → Int32 → Prop) (o216 : CalOK 2 (CC216 F216 G216)) (F282 : PM → Int32 → Int32 → Int32 → Int32) (G282 : PM → Int32 → Int32 → Int32 → Prop) (o282 : CalOK 2 (CC282 F282 G282)) (F218 : PM → Int32 → Int32) (G218 : PM → Int32 → Prop) (o218 : CalOK 2 (CC218 F218 G218)) (F224 : PM → Int32 → Int32 → Int32 → Int32 → Int32 → Int32 → Int32 → Int32 × PM) (G224 : PM → Int32 → Int32 → Int32 → Int32 → Int32 → Int32 → Int32 → Prop) (o224 : CalOK 2 (CC224 F224 G224)) (F257 : PM → Int32 → PM) (G257 : PM → Int32 → Prop) (o257 : CalOK 2 (CC257 F257 G257)) (F283 : PM → Int32 → Int32 → Int32 → Int32 → Int32 → Int32) (G283 : PM → Int32 → Int32 → Int32 → Int32 → Int32 → Prop) (o283 : CalOK 2 (CC283 F283 G283)) : ∀ (p : PM) (v1 : Int32) (v2 : Int32) (v3 : Int32) (v4 : Int32) (v5 : Int32) (v6 : Int32) (d7 d8 d9 : ZV), Gr 2 p → bg12_doLimit_121 F218 G218 F224 G224 F257 G257 F283 G283 p v1 v2 v3 v4 v5 v6 → ZJ 2 284 121 [zR 12 1, zI v1, zI v2, zI v3, zI v4, zI v5, zI v6, d7, d8, d9] [] p (hwI (bv12_doLimit_121 F218 F224 F257 F283 p v1 v2 v3 v4 v5 v6)) := by
  intro p v1 v2 v3 v4 v5 v6 d7 d8 d9 hg H
  exact rwI (n := 3000) (q := 121) (la := [zR 12 1, zI v1, zI v2, zI v3, zI v4, zI v5, zI v6, d7, d8, d9]) (sa := []) (ks := [fun _ _ s => (0, s), fun _ _ s => (0, s), fun _ _ s => (0, s)]) (gs := [fun _ _ _ => False, fun _ _ _ => False, fun _ _ _ => False]) (fcons o280 (fcons o215 (fcons o219 (fcons o281 (fcons o216 (fcons o282 (fcons o218 (fcons o224 (fcons o257 (fcons o283 (fnil))))))))))) tab284 pc284 ⟨fun _ _ _ _ H => H.elim, fun _ _ _ _ H => H.elim, fun _ _ _ _ H => H.elim, trivial⟩ hg H
theorem t12_doLimit_121 : ∀ (p : PM) (v1 : Int32) (v2 : Int32) (v3 : Int32) (v4 : Int32) (v5 : Int32) (v6 : Int32) (d7 d8 d9 : ZV), Gr 2 p → g12_doLimit_121 p v1 v2 v3 v4 v5 v6 → ZJ 2 284 121 [zR 12 1, zI v1, zI v2, zI v3, zI v4, zI v5, zI v6, d7, d8, d9] [] p (hwI (v12_doLimit_121 p v1 v2 v3 v4 v5 v6)) := r12_doLimit_121 v12_isAccount g12_isAccount ok280 v12_in g12_in ok215 v12_isPrice g12_isPrice ok219 v12_isQuantity g12_isQuantity ok281 v12_abs g12_abs ok216 v12_isShut g12_isShut ok282 v12_isOpen g12_isOpen ok218 v12_newOrder g12_newOrder ok224 v12_enters g12_enters ok257 v12_isEnough g12_isEnough ok283
set_option maxRecDepth 100000 in
theorem r12_doLimit_75 (F280 : PM → Int32 → Int32) (G280 : PM → Int32 → Prop) (o280 : CalOK 2 (CC280 F280 G280)) (F215 : PM → Int32 → Int32 → Int32 → Int32) (G215 : PM → Int32 → Int32 → Int32 → Prop) (o215 : CalOK 2 (CC215 F215 G215)) (F219 : PM → Int32 → Int32 → Int32) (G219 : PM → Int32 → Int32 → Prop) (o219 : CalOK 2 (CC219 F219 G219)) (F281 : PM → Int32 → Int32) (G281 : PM → Int32 → Prop) (o281 : CalOK 2 (CC281 F281 G281)) (F216 : PM → Int32 → Int32) (G216 : PM → Int32 → Prop) (o216 : CalOK 2 (CC216 F216 G216)) (F282 : PM → Int32 → Int32 → Int32 → Int32) (G282 : PM → Int32 → Int32 → Int32 → Prop) (o282 : CalOK 2 (CC282 F282 G282)) (F218 : PM → Int32 → Int32) (G218 : PM → Int32 → Prop) (o218 : CalOK 2 (CC218 F218 G218)) (F224 : PM → Int32 → Int32 → Int32 → Int32 → Int32 → Int32 → Int32 → Int32 × PM) (G224 : PM → Int32 → Int32 → Int32 → Int32 → Int32 → Int32 → Int32 → Prop) (o224 : CalOK 2 (CC224 F224 G224)) (F257 : PM → Int32 → PM) (G257 : PM → Int32 → Prop) (o257 : CalOK 2 (CC257 F257 G257)) (F283 : PM → Int32 → Int32 → Int32 → Int32 → Int32 → Int32) (G283 : PM → Int32 → Int32 → Int32 → Int32 → Int32 → Prop) (o283 : CalOK 2 (CC283 F283 G283)) (kv121 : PM → Int32 → Int32 → Int32 → Int32 → Int32 → Int32 → Int32 × PM) (kg121 : PM → Int32 → Int32 → Int32 → Int32 → Int32 → Int32 → Prop) (hk121 : ∀ (p : PM) (v1 : Int32) (v2 : Int32) (v3 : Int32) (v4 : Int32) (v5 : Int32) (v6 : Int32) (d7 d8 d9 : ZV), Gr 2 p → kg121 p v1 v2 v3 v4 v5 v6 → ZJ 2 284 121 [zR 12 1, zI v1, zI v2, zI v3, zI v4, zI v5, zI v6, d7, d8, d9] [] p (hwI (kv121 p v1 v2 v3 v4 v5 v6))) : ∀ (p : PM) (v1 : Int32) (v2 : Int32) (v3 : Int32) (v4 : Int32) (v5 : Int32) (v6 : Int32) (s0 : Int32) (d7 d8 d9 : ZV), Gr 2 p → bg12_doLimit_75 F218 G218 F282 G282 kg121 p v1 v2 v3 v4 v5 v6 s0 → ZJ 2 284 75 [zR 12 1, zI v1, zI v2, zI v3, zI v4, zI v5, zI v6, d7, d8, d9] [zI s0, zR 12 1] p (hwI (bv12_doLimit_75 F218 F282 kv121 p v1 v2 v3 v4 v5 v6 s0)) := by
  intro p v1 v2 v3 v4 v5 v6 s0 d7 d8 d9 hg H
  exact rwI (n := 3000) (q := 75) (la := [zR 12 1, zI v1, zI v2, zI v3, zI v4, zI v5, zI v6, d7, d8, d9]) (sa := [zI s0, zR 12 1]) (ks := [fun _ _ s => (0, s), fun _ _ s => (0, s), fun la sa s => kv121 s (ai la 1) (ai la 2) (ai la 3) (ai la 4) (ai la 5) (ai la 6)]) (gs := [fun _ _ _ => False, fun _ _ _ => False, fun la sa s => zsw (tc2 la [(112, 1), (0, 0), (0, 0), (0, 0), (0, 0), (0, 0), (0, 0), (2, 0), (2, 0), (2, 0)] && tc2 sa []) False (kg121 s (ai la 1) (ai la 2) (ai la 3) (ai la 4) (ai la 5) (ai la 6))]) (fcons o280 (fcons o215 (fcons o219 (fcons o281 (fcons o216 (fcons o282 (fcons o218 (fcons o224 (fcons o257 (fcons o283 (fnil))))))))))) tab284 pc284 ⟨fun _ _ _ _ H => H.elim, fun _ _ _ _ H => H.elim, fun la sa s hg H => zcut H fun H => hk121 s (ai la 1) (ai la 2) (ai la 3) (ai la 4) (ai la 5) (ai la 6) (zld la 7) (zld la 8) (zld la 9) hg H, trivial⟩ hg H
theorem t12_doLimit_75 : ∀ (p : PM) (v1 : Int32) (v2 : Int32) (v3 : Int32) (v4 : Int32) (v5 : Int32) (v6 : Int32) (s0 : Int32) (d7 d8 d9 : ZV), Gr 2 p → g12_doLimit_75 p v1 v2 v3 v4 v5 v6 s0 → ZJ 2 284 75 [zR 12 1, zI v1, zI v2, zI v3, zI v4, zI v5, zI v6, d7, d8, d9] [zI s0, zR 12 1] p (hwI (v12_doLimit_75 p v1 v2 v3 v4 v5 v6 s0)) := r12_doLimit_75 v12_isAccount g12_isAccount ok280 v12_in g12_in ok215 v12_isPrice g12_isPrice ok219 v12_isQuantity g12_isQuantity ok281 v12_abs g12_abs ok216 v12_isShut g12_isShut ok282 v12_isOpen g12_isOpen ok218 v12_newOrder g12_newOrder ok224 v12_enters g12_enters ok257 v12_isEnough g12_isEnough ok283 (v12_doLimit_121) (g12_doLimit_121) (t12_doLimit_121)
set_option maxRecDepth 100000 in
theorem r12_doLimit_70 (F280 : PM → Int32 → Int32) (G280 : PM → Int32 → Prop) (o280 : CalOK 2 (CC280 F280 G280)) (F215 : PM → Int32 → Int32 → Int32 → Int32) (G215 : PM → Int32 → Int32 → Int32 → Prop) (o215 : CalOK 2 (CC215 F215 G215)) (F219 : PM → Int32 → Int32 → Int32) (G219 : PM → Int32 → Int32 → Prop) (o219 : CalOK 2 (CC219 F219 G219)) (F281 : PM → Int32 → Int32) (G281 : PM → Int32 → Prop) (o281 : CalOK 2 (CC281 F281 G281)) (F216 : PM → Int32 → Int32) (G216 : PM → Int32 → Prop) (o216 : CalOK 2 (CC216 F216 G216)) (F282 : PM → Int32 → Int32 → Int32 → Int32) (G282 : PM → Int32 → Int32 → Int32 → Prop) (o282 : CalOK 2 (CC282 F282 G282)) (F218 : PM → Int32 → Int32) (G218 : PM → Int32 → Prop) (o218 : CalOK 2 (CC218 F218 G218)) (F224 : PM → Int32 → Int32 → Int32 → Int32 → Int32 → Int32 → Int32 → Int32 × PM) (G224 : PM → Int32 → Int32 → Int32 → Int32 → Int32 → Int32 → Int32 → Prop) (o224 : CalOK 2 (CC224 F224 G224)) (F257 : PM → Int32 → PM) (G257 : PM → Int32 → Prop) (o257 : CalOK 2 (CC257 F257 G257)) (F283 : PM → Int32 → Int32 → Int32 → Int32 → Int32 → Int32) (G283 : PM → Int32 → Int32 → Int32 → Int32 → Int32 → Prop) (o283 : CalOK 2 (CC283 F283 G283)) (kv75 : PM → Int32 → Int32 → Int32 → Int32 → Int32 → Int32 → Int32 → Int32 × PM) (kg75 : PM → Int32 → Int32 → Int32 → Int32 → Int32 → Int32 → Int32 → Prop) (hk75 : ∀ (p : PM) (v1 : Int32) (v2 : Int32) (v3 : Int32) (v4 : Int32) (v5 : Int32) (v6 : Int32) (s0 : Int32) (d7 d8 d9 : ZV), Gr 2 p → kg75 p v1 v2 v3 v4 v5 v6 s0 → ZJ 2 284 75 [zR 12 1, zI v1, zI v2, zI v3, zI v4, zI v5, zI v6, d7, d8, d9] [zI s0, zR 12 1] p (hwI (kv75 p v1 v2 v3 v4 v5 v6 s0))) : ∀ (p : PM) (v1 : Int32) (v2 : Int32) (v3 : Int32) (v4 : Int32) (v5 : Int32) (v6 : Int32) (d7 d8 d9 : ZV), Gr 2 p → bg12_doLimit_70 kg75 p v1 v2 v3 v4 v5 v6 → ZJ 2 284 70 [zR 12 1, zI v1, zI v2, zI v3, zI v4, zI v5, zI v6, d7, d8, d9] [zR 12 1] p (hwI (bv12_doLimit_70 kv75 p v1 v2 v3 v4 v5 v6)) := by
  intro p v1 v2 v3 v4 v5 v6 d7 d8 d9 hg H
  exact rwI (n := 3000) (q := 70) (la := [zR 12 1, zI v1, zI v2, zI v3, zI v4, zI v5, zI v6, d7, d8, d9]) (sa := [zR 12 1]) (ks := [fun _ _ s => (0, s), fun la sa s => kv75 s (ai la 1) (ai la 2) (ai la 3) (ai la 4) (ai la 5) (ai la 6) (ai sa 0), fun _ _ s => (0, s)]) (gs := [fun _ _ _ => False, fun la sa s => zsw (tc2 la [(112, 1), (0, 0), (0, 0), (0, 0), (0, 0), (0, 0), (0, 0), (2, 0), (2, 0), (2, 0)] && tc2 sa [(0, 0), (112, 1)]) False (kg75 s (ai la 1) (ai la 2) (ai la 3) (ai la 4) (ai la 5) (ai la 6) (ai sa 0)), fun _ _ _ => False]) (fcons o280 (fcons o215 (fcons o219 (fcons o281 (fcons o216 (fcons o282 (fcons o218 (fcons o224 (fcons o257 (fcons o283 (fnil))))))))))) tab284 pc284 ⟨fun _ _ _ _ H => H.elim, fun la sa s hg H => zcut H fun H => hk75 s (ai la 1) (ai la 2) (ai la 3) (ai la 4) (ai la 5) (ai la 6) (ai sa 0) (zld la 7) (zld la 8) (zld la 9) hg H, fun _ _ _ _ H => H.elim, trivial⟩ hg H
theorem t12_doLimit_70 : ∀ (p : PM) (v1 : Int32) (v2 : Int32) (v3 : Int32) (v4 : Int32) (v5 : Int32) (v6 : Int32) (d7 d8 d9 : ZV), Gr 2 p → g12_doLimit_70 p v1 v2 v3 v4 v5 v6 → ZJ 2 284 70 [zR 12 1, zI v1, zI v2, zI v3, zI v4, zI v5, zI v6, d7, d8, d9] [zR 12 1] p (hwI (v12_doLimit_70 p v1 v2 v3 v4 v5 v6)) := r12_doLimit_70 v12_isAccount g12_isAccount ok280 v12_in g12_in ok215 v12_isPrice g12_isPrice ok219 v12_isQuantity g12_isQuantity ok281 v12_abs g12_abs ok216 v12_isShut g12_isShut ok282 v12_isOpen g12_isOpen ok218 v12_newOrder g12_newOrder ok224 v12_enters g12_enters ok257 v12_isEnough g12_isEnough ok283 (v12_doLimit_75) (g12_doLimit_75) (t12_doLimit_75)
set_option maxRecDepth 100000 in
theorem r12_doLimit (F280 : PM → Int32 → Int32) (G280 : PM → Int32 → Prop) (o280 : CalOK 2 (CC280 F280 G280)) (F215 : PM → Int32 → Int32 → Int32 → Int32) (G215 : PM → Int32 → Int32 → Int32 → Prop) (o215 : CalOK 2 (CC215 F215 G215)) (F219 : PM → Int32 → Int32 → Int32) (G219 : PM → Int32 → Int32 → Prop) (o219 : CalOK 2 (CC219 F219 G219)) (F281 : PM → Int32 → Int32) (G281 : PM → Int32 → Prop) (o281 : CalOK 2 (CC281 F281 G281)) (F216 : PM → Int32 → Int32) (G216 : PM → Int32 → Prop) (o216 : CalOK 2 (CC216 F216 G216)) (F282 : PM → Int32 → Int32 → Int32 → Int32) (G282 : PM → Int32 → Int32 → Int32 → Prop) (o282 : CalOK 2 (CC282 F282 G282)) (F218 : PM → Int32 → Int32) (G218 : PM → Int32 → Prop) (o218 : CalOK 2 (CC218 F218 G218)) (F224 : PM → Int32 → Int32 → Int32 → Int32 → Int32 → Int32 → Int32 → Int32 × PM) (G224 : PM → Int32 → Int32 → Int32 → Int32 → Int32 → Int32 → Int32 → Prop) (o224 : CalOK 2 (CC224 F224 G224)) (F257 : PM → Int32 → PM) (G257 : PM → Int32 → Prop) (o257 : CalOK 2 (CC257 F257 G257)) (F283 : PM → Int32 → Int32 → Int32 → Int32 → Int32 → Int32) (G283 : PM → Int32 → Int32 → Int32 → Int32 → Int32 → Prop) (o283 : CalOK 2 (CC283 F283 G283)) (kv70 : PM → Int32 → Int32 → Int32 → Int32 → Int32 → Int32 → Int32 × PM) (kg70 : PM → Int32 → Int32 → Int32 → Int32 → Int32 → Int32 → Prop) (hk70 : ∀ (p : PM) (v1 : Int32) (v2 : Int32) (v3 : Int32) (v4 : Int32) (v5 : Int32) (v6 : Int32) (d7 d8 d9 : ZV), Gr 2 p → kg70 p v1 v2 v3 v4 v5 v6 → ZJ 2 284 70 [zR 12 1, zI v1, zI v2, zI v3, zI v4, zI v5, zI v6, d7, d8, d9] [zR 12 1] p (hwI (kv70 p v1 v2 v3 v4 v5 v6))) (kv75 : PM → Int32 → Int32 → Int32 → Int32 → Int32 → Int32 → Int32 → Int32 × PM) (kg75 : PM → Int32 → Int32 → Int32 → Int32 → Int32 → Int32 → Int32 → Prop) (hk75 : ∀ (p : PM) (v1 : Int32) (v2 : Int32) (v3 : Int32) (v4 : Int32) (v5 : Int32) (v6 : Int32) (s0 : Int32) (d7 d8 d9 : ZV), Gr 2 p → kg75 p v1 v2 v3 v4 v5 v6 s0 → ZJ 2 284 75 [zR 12 1, zI v1, zI v2, zI v3, zI v4, zI v5, zI v6, d7, d8, d9] [zI s0, zR 12 1] p (hwI (kv75 p v1 v2 v3 v4 v5 v6 s0))) : ∀ (p : PM) (v1 : Int32) (v2 : Int32) (v3 : Int32) (v4 : Int32) (v5 : Int32) (v6 : Int32), Gr 2 p → bg12_doLimit F215 G215 F216 G216 F219 G219 F280 G280 F281 G281 kg70 kg75 p v1 v2 v3 v4 v5 v6 → ZJ 2 284 0 [zR 12 1, zI v1, zI v2, zI v3, zI v4, zI v5, zI v6, zJ, zJ, zJ] [] p (hwI (bv12_doLimit F215 F216 F219 F280 F281 kv70 kv75 p v1 v2 v3 v4 v5 v6)) := by
  intro p v1 v2 v3 v4 v5 v6  hg H
  exact rwI (n := 3000) (q := 0) (la := [zR 12 1, zI v1, zI v2, zI v3, zI v4, zI v5, zI v6, zJ, zJ, zJ]) (sa := []) (ks := [fun la sa s => kv70 s (ai la 1) (ai la 2) (ai la 3) (ai la 4) (ai la 5) (ai la 6), fun la sa s => kv75 s (ai la 1) (ai la 2) (ai la 3) (ai la 4) (ai la 5) (ai la 6) (ai sa 0), fun _ _ s => (0, s)]) (gs := [fun la sa s => zsw (tc2 la [(112, 1), (0, 0), (0, 0), (0, 0), (0, 0), (0, 0), (0, 0), (2, 0), (2, 0), (2, 0)] && tc2 sa [(112, 1)]) False (kg70 s (ai la 1) (ai la 2) (ai la 3) (ai la 4) (ai la 5) (ai la 6)), fun la sa s => zsw (tc2 la [(112, 1), (0, 0), (0, 0), (0, 0), (0, 0), (0, 0), (0, 0), (2, 0), (2, 0), (2, 0)] && tc2 sa [(0, 0), (112, 1)]) False (kg75 s (ai la 1) (ai la 2) (ai la 3) (ai la 4) (ai la 5) (ai la 6) (ai sa 0)), fun _ _ _ => False]) (fcons o280 (fcons o215 (fcons o219 (fcons o281 (fcons o216 (fcons o282 (fcons o218 (fcons o224 (fcons o257 (fcons o283 (fnil))))))))))) tab284 pc284 ⟨fun la sa s hg H => zcut H fun H => hk70 s (ai la 1) (ai la 2) (ai la 3) (ai la 4) (ai la 5) (ai la 6) (zld la 7) (zld la 8) (zld la 9) hg H, fun la sa s hg H => zcut H fun H => hk75 s (ai la 1) (ai la 2) (ai la 3) (ai la 4) (ai la 5) (ai la 6) (ai sa 0) (zld la 7) (zld la 8) (zld la 9) hg H, fun _ _ _ _ H => H.elim, trivial⟩ hg H
theorem t12_doLimit : ∀ (p : PM) (v1 : Int32) (v2 : Int32) (v3 : Int32) (v4 : Int32) (v5 : Int32) (v6 : Int32), Gr 2 p → g12_doLimit p v1 v2 v3 v4 v5 v6 → ZJ 2 284 0 [zR 12 1, zI v1, zI v2, zI v3, zI v4, zI v5, zI v6, zJ, zJ, zJ] [] p (hwI (v12_doLimit p v1 v2 v3 v4 v5 v6)) := r12_doLimit v12_isAccount g12_isAccount ok280 v12_in g12_in ok215 v12_isPrice g12_isPrice ok219 v12_isQuantity g12_isQuantity ok281 v12_abs g12_abs ok216 v12_isShut g12_isShut ok282 v12_isOpen g12_isOpen ok218 v12_newOrder g12_newOrder ok224 v12_enters g12_enters ok257 v12_isEnough g12_isEnough ok283 (v12_doLimit_70) (g12_doLimit_70) (t12_doLimit_70) (v12_doLimit_75) (g12_doLimit_75) (t12_doLimit_75)
def CC284 (F : PM → Int32 → Int32 → Int32 → Int32 → Int32 → Int32 → Int32 × PM) (G : PM → Int32 → Int32 → Int32 → Int32 → Int32 → Int32 → Prop) : Cal := (284, [15, 0, 0, 0, 0, 0, 0], 1, false, fun as p => (zI (F p (ai as 1) (ai as 2) (ai as 3) (ai as 4) (ai as 5) (ai as 6)).1, (F p (ai as 1) (ai as 2) (ai as 3) (ai as 4) (ai as 5) (ai as 6)).2), fun as p => zsw (tc2 as [(112, 1), (0, 0), (0, 0), (0, 0), (0, 0), (0, 0), (0, 0)]) False (G p (ai as 1) (ai as 2) (ai as 3) (ai as 4) (ai as 5) (ai as 6)))
set_option maxRecDepth 100000 in
theorem okr284 (F : PM → Int32 → Int32 → Int32 → Int32 → Int32 → Int32 → Int32 × PM) (G : PM → Int32 → Int32 → Int32 → Int32 → Int32 → Int32 → Prop) (h : ∀ (p : PM) (v1 : Int32) (v2 : Int32) (v3 : Int32) (v4 : Int32) (v5 : Int32) (v6 : Int32), Gr 2 p → G p v1 v2 v3 v4 v5 v6 → ZJ 2 284 0 [zR 12 1, zI v1, zI v2, zI v3, zI v4, zI v5, zI v6, zJ, zJ, zJ] [] p (hwI (F p v1 v2 v3 v4 v5 v6))) : CalOK 2 (CC284 F G) := cal_ok (m := 10) (by unfold mL; rw [mX_284]) (fun as p hg H => h p (ai as 1) (ai as 2) (ai as 3) (ai as 4) (ai as 5) (ai as 6) hg H)
theorem ok284 : CalOK 2 (CC284 v12_doLimit g12_doLimit) := okr284 v12_doLimit g12_doLimit t12_doLimit
noncomputable def bv12_doMarket (F215 : PM → Int32 → Int32 → Int32 → Int32) (F224 : PM → Int32 → Int32 → Int32 → Int32 → Int32 → Int32 → Int32 → Int32 × PM) (F257 : PM → Int32 → PM) (F280 : PM → Int32 → Int32) (F281 : PM → Int32 → Int32) (F282 : PM → Int32 → Int32 → Int32 → Int32) (p : PM) (v1 : Int32) (v2 : Int32) (v3 : Int32) : Int32 × PM :=
  if (F280 p v1) = 0 then (
    let p1 : PM := pI p 12 1 0 (cn 1)
    if (p1.1 12 1 0) = 0 then (
      let r2 : Int32 × PM := F224 p1 v1 v2 v3 (cn 0) (cn 1) (cn 0) (p1.1 12 1 18)
      let p3 : PM := F257 r2.2 r2.1
      (((p3.1 12 1 39) - (cn 1)), p3))
    else (
      ((cn 0), p1)))
  else (
    if (F215 p v2 (cn 0) (cn 5)) = 0 then (
      let p13 : PM := pI p 12 1 0 (cn 1)
      if (p13.1 12 1 0) = 0 then (
        let r14 : Int32 × PM := F224 p13 v1 v2 v3 (cn 0) (cn 1) (cn 0) (p13.1 12 1 18)
        let p15 : PM := F257 r14.2 r14.1
        (((p15.1 12 1 39) - (cn 1)), p15))
      else (
        ((cn 0), p13)))
    else (
      if (F281 p v3) = 0 then (
        let p10 : PM := pI p 12 1 0 (cn 2)
        if (p10.1 12 1 0) = 0 then (
          let r11 : Int32 × PM := F224 p10 v1 v2 v3 (cn 0) (cn 1) (cn 0) (p10.1 12 1 18)
          let p12 : PM := F257 r11.2 r11.1
          (((p12.1 12 1 39) - (cn 1)), p12))
        else (
          ((cn 0), p10)))
      else (
        if (F282 p v1 v2 v3) = 0 then (
          let p4 : PM := pI p 12 1 0 (cn 0)
          if (p4.1 12 1 0) = 0 then (
            let r5 : Int32 × PM := F224 p4 v1 v2 v3 (cn 0) (cn 1) (cn 0) (p4.1 12 1 18)
            let p6 : PM := F257 r5.2 r5.1
            (((p6.1 12 1 39) - (cn 1)), p6))
          else (
            ((cn 0), p4)))
        else (
          let p7 : PM := pI p 12 1 0 (cn 3)
          if (p7.1 12 1 0) = 0 then (
            let r8 : Int32 × PM := F224 p7 v1 v2 v3 (cn 0) (cn 1) (cn 0) (p7.1 12 1 18)
            let p9 : PM := F257 r8.2 r8.1
            (((p9.1 12 1 39) - (cn 1)), p9))
          else (
            ((cn 0), p7))))))
noncomputable def v12_doMarket (p : PM) (v1 : Int32) (v2 : Int32) (v3 : Int32) : Int32 × PM := bv12_doMarket v12_in v12_newOrder v12_enters v12_isAccount v12_isQuantity v12_isShut p v1 v2 v3
noncomputable def bg12_doMarket (F215 : PM → Int32 → Int32 → Int32 → Int32) (G215 : PM → Int32 → Int32 → Int32 → Prop) (F224 : PM → Int32 → Int32 → Int32 → Int32 → Int32 → Int32 → Int32 → Int32 × PM) (G224 : PM → Int32 → Int32 → Int32 → Int32 → Int32 → Int32 → Int32 → Prop) (F257 : PM → Int32 → PM) (G257 : PM → Int32 → Prop) (F280 : PM → Int32 → Int32) (G280 : PM → Int32 → Prop) (F281 : PM → Int32 → Int32) (G281 : PM → Int32 → Prop) (F282 : PM → Int32 → Int32 → Int32 → Int32) (G282 : PM → Int32 → Int32 → Int32 → Prop) (p : PM) (v1 : Int32) (v2 : Int32) (v3 : Int32) : Prop :=
  (G280 p v1) ∧ (
  if (F280 p v1) = 0 then (
    let p1 : PM := pI p 12 1 0 (cn 1)
    if (p1.1 12 1 0) = 0 then (
      (G224 p1 v1 v2 v3 (cn 0) (cn 1) (cn 0) (p1.1 12 1 18)) ∧ (
      let r2 : Int32 × PM := F224 p1 v1 v2 v3 (cn 0) (cn 1) (cn 0) (p1.1 12 1 18)
      (G257 r2.2 r2.1) ∧ (
      let p3 : PM := F257 r2.2 r2.1
      True)))
    else (
      True))
  else (
    (G215 p v2 (cn 0) (cn 5)) ∧ (
    if (F215 p v2 (cn 0) (cn 5)) = 0 then (
      let p13 : PM := pI p 12 1 0 (cn 1)
      if (p13.1 12 1 0) = 0 then (
        (G224 p13 v1 v2 v3 (cn 0) (cn 1) (cn 0) (p13.1 12 1 18)) ∧ (
        let r14 : Int32 × PM := F224 p13 v1 v2 v3 (cn 0) (cn 1) (cn 0) (p13.1 12 1 18)
        (G257 r14.2 r14.1) ∧ (
        let p15 : PM := F257 r14.2 r14.1
        True)))
      else (
        True))
    else (
      (G281 p v3) ∧ (
      if (F281 p v3) = 0 then (
        let p10 : PM := pI p 12 1 0 (cn 2)
        if (p10.1 12 1 0) = 0 then (
          (G224 p10 v1 v2 v3 (cn 0) (cn 1) (cn 0) (p10.1 12 1 18)) ∧ (
          let r11 : Int32 × PM := F224 p10 v1 v2 v3 (cn 0) (cn 1) (cn 0) (p10.1 12 1 18)
          (G257 r11.2 r11.1) ∧ (
          let p12 : PM := F257 r11.2 r11.1
          True)))
        else (
          True))
      else (
        (G282 p v1 v2 v3) ∧ (
        if (F282 p v1 v2 v3) = 0 then (
          let p4 : PM := pI p 12 1 0 (cn 0)
          if (p4.1 12 1 0) = 0 then (
            (G224 p4 v1 v2 v3 (cn 0) (cn 1) (cn 0) (p4.1 12 1 18)) ∧ (
            let r5 : Int32 × PM := F224 p4 v1 v2 v3 (cn 0) (cn 1) (cn 0) (p4.1 12 1 18)
            (G257 r5.2 r5.1) ∧ (
            let p6 : PM := F257 r5.2 r5.1
            True)))
          else (
            True))
        else (
          let p7 : PM := pI p 12 1 0 (cn 3)
          if (p7.1 12 1 0) = 0 then (
            (G224 p7 v1 v2 v3 (cn 0) (cn 1) (cn 0) (p7.1 12 1 18)) ∧ (
            let r8 : Int32 × PM := F224 p7 v1 v2 v3 (cn 0) (cn 1) (cn 0) (p7.1 12 1 18)
            (G257 r8.2 r8.1) ∧ (
            let p9 : PM := F257 r8.2 r8.1
            True)))
          else (
            True)))))))))
noncomputable def g12_doMarket (p : PM) (v1 : Int32) (v2 : Int32) (v3 : Int32) : Prop := bg12_doMarket v12_in g12_in v12_newOrder g12_newOrder v12_enters g12_enters v12_isAccount g12_isAccount v12_isQuantity g12_isQuantity v12_isShut g12_isShut p v1 v2 v3
def R285 : List Row := [(0, .aload_n 0, 1, 0, (0, 0, 0, 0, 0, 0)), (1, .iload_n 1, 1, 0, (0, 0, 0, 0, 0, 0)), (2, .invokestatic 429, 3, 0, (0, 1, 0, 0, 0, 0)), (5, .ifCond .eq 12, 3, 0, (0, 0, 0, 0, 0, 0)), (8, .iload_n 2, 1, 0, (0, 0, 0, 0, 0, 0)), (9, .iconst 0, 1, 0, (0, 0, 0, 0, 0, 0)), (10, .iconst 5, 1, 0, (0, 0, 0, 0, 0, 5)), (11, .invokestatic 209, 3, 0, (3, 3, 0, 0, 0, 0)), (14, .ifCond .ne 7, 3, 0, (0, 0, 0, 0, 0, 0)), (17, .iconst 1, 1, 0, (0, 0, 0, 0, 0, 1)), (18, .goto 30, 3, 0, (0, 0, 0, 0, 0, 0)), (21, .aload_n 0, 1, 0, (0, 0, 0, 0, 0, 0)), (22, .iload_n 3, 1, 0, (0, 0, 0, 0, 0, 0)), (23, .invokevirtual 432, 3, 0, (4, 2, 0, 0, 1, 0)), (26, .ifCond .ne 7, 3, 0, (0, 0, 0, 0, 0, 0)), (29, .iconst 2, 1, 0, (0, 0, 0, 0, 0, 2)), (30, .goto 18, 3, 0, (0, 0, 0, 0, 0, 0)), (33, .aload_n 0, 1, 0, (0, 0, 0, 0, 0, 0)), (34, .iload_n 1, 1, 0, (0, 0, 0, 0, 0, 0)), (35, .iload_n 2, 1, 0, (0, 0, 0, 0, 0, 0)), (36, .iload_n 3, 1, 0, (0, 0, 0, 0, 0, 0)), (37, .invokevirtual 435, 3, 0, (5, 4, 0, 0, 1, 0)), (40, .ifCond .eq 7, 3, 0, (0, 0, 0, 0, 0, 0)), (43, .iconst 3, 1, 0, (0, 0, 0, 0, 0, 3)), (44, .goto 4, 3, 0, (0, 0, 0, 0, 0, 0)), (47, .iconst 0, 1, 0, (0, 0, 0, 0, 0, 0)), (48, .putfield 180, 3, 0, (12, 0, 0, 1, 0, 0)), (51, .aload_n 0, 1, 0, (0, 0, 0, 0, 0, 0)), (52, .getfield 180, 3, 0, (12, 0, 0, 1, 0, 0)), (55, .ifCond .eq 5, 3, 0, (0, 0, 0, 0, 0, 0)), (58, .iconst 0, 1, 0, (0, 0, 0, 0, 0, 0)), (59, .ireturn, 1, 0, (0, 0, 0, 0, 0, 0)), (60, .aload_n 0, 1, 0, (0, 0, 0, 0, 0, 0)), (61, .iload_n 1, 1, 0, (0, 0, 0, 0, 0, 0)), (62, .iload_n 2, 1, 0, (0, 0, 0, 0, 0, 0)), (63, .iload_n 3, 1, 0, (0, 0, 0, 0, 0, 0)), (64, .iconst 0, 1, 0, (0, 0, 0, 0, 0, 0)), (65, .iconst 1, 1, 0, (0, 0, 0, 0, 0, 1)), (66, .iconst 0, 1, 0, (0, 0, 0, 0, 0, 0)), (67, .aload_n 0, 1, 0, (0, 0, 0, 0, 0, 0)), (68, .getfield 197, 3, 0, (12, 18, 0, 1, 0, 0)), (71, .invokevirtual 442, 3, 0, (1, 8, 0, 0, 1, 0)), (74, .istore 4, 2, 0, (0, 0, 0, 0, 0, 0)), (76, .aload_n 0, 1, 0, (0, 0, 0, 0, 0, 0)), (77, .iload 4, 2, 0, (0, 0, 0, 0, 0, 0)), (79, .invokevirtual 446, 3, 0, (2, 2, 0, 0, 1, 0)), (82, .aload_n 0, 1, 0, (0, 0, 0, 0, 0, 0)), (83, .getfield 200, 3, 0, (12, 39, 0, 1, 0, 0)), (86, .iconst 1, 1, 0, (0, 0, 0, 0, 0, 1)), (87, .isub, 1, 0, (0, 0, 0, 0, 0, 0)), (88, .ireturn, 1, 0, (0, 0, 0, 0, 0, 0))]
set_option maxRecDepth 100000 in
theorem rk285 : R285.all (rok 2 285 1 [(280, [0]), (224, [15, 0, 0, 0, 0, 0, 0, 0]), (257, [15, 0]), (215, [0, 0, 0]), (281, [15, 0]), (282, [15, 0, 0, 0])]) = true := by decide +kernel
set_option maxRecDepth 100000 in
theorem tab285 {F280 : PM → Int32 → Int32} {G280 : PM → Int32 → Prop} {F224 : PM → Int32 → Int32 → Int32 → Int32 → Int32 → Int32 → Int32 → Int32 × PM} {G224 : PM → Int32 → Int32 → Int32 → Int32 → Int32 → Int32 → Int32 → Prop} {F257 : PM → Int32 → PM} {G257 : PM → Int32 → Prop} {F215 : PM → Int32 → Int32 → Int32 → Int32} {G215 : PM → Int32 → Int32 → Int32 → Prop} {F281 : PM → Int32 → Int32} {G281 : PM → Int32 → Prop} {F282 : PM → Int32 → Int32 → Int32 → Int32} {G282 : PM → Int32 → Int32 → Int32 → Prop} : TabOK 2 285 1 [CC280 F280 G280, CC224 F224 G224, CC257 F257 G257, CC215 F215 G215, CC281 F281 G281, CC282 F282 G282] R285 := tab_ok (K := K285) rfl rfl (fun h => d285 h) rk285 (by decide +kernel)
set_option maxRecDepth 100000 in
theorem pc285 : cutpc [] R285 = true := by decide +kernel
set_option maxRecDepth 100000 in
theorem r12_doMarket (F280 : PM → Int32 → Int32) (G280 : PM → Int32 → Prop) (o280 : CalOK 2 (CC280 F280 G280)) (F224 : PM → Int32 → Int32 → Int32 → Int32 → Int32 → Int32 → Int32 → Int32 × PM) (G224 : PM → Int32 → Int32 → Int32 → Int32 → Int32 → Int32 → Int32 → Prop) (o224 : CalOK 2 (CC224 F224 G224)) (F257 : PM → Int32 → PM) (G257 : PM → Int32 → Prop) (o257 : CalOK 2 (CC257 F257 G257)) (F215 : PM → Int32 → Int32 → Int32 → Int32) (G215 : PM → Int32 → Int32 → Int32 → Prop) (o215 : CalOK 2 (CC215 F215 G215)) (F281 : PM → Int32 → Int32) (G281 : PM → Int32 → Prop) (o281 : CalOK 2 (CC281 F281 G281)) (F282 : PM → Int32 → Int32 → Int32 → Int32) (G282 : PM → Int32 → Int32 → Int32 → Prop) (o282 : CalOK 2 (CC282 F282 G282)) : ∀ (p : PM) (v1 : Int32) (v2 : Int32) (v3 : Int32), Gr 2 p → bg12_doMarket F215 G215 F224 G224 F257 G257 F280 G280 F281 G281 F282 G282 p v1 v2 v3 → ZJ 2 285 0 [zR 12 1, zI v1, zI v2, zI v3, zJ] [] p (hwI (bv12_doMarket F215 F224 F257 F280 F281 F282 p v1 v2 v3)) := by
  intro p v1 v2 v3  hg H
  exact rwI (n := 3000) (q := 0) (la := [zR 12 1, zI v1, zI v2, zI v3, zJ]) (sa := []) (ks := []) (gs := []) (fcons o280 (fcons o224 (fcons o257 (fcons o215 (fcons o281 (fcons o282 (fnil))))))) tab285 pc285 trivial hg H
theorem t12_doMarket : ∀ (p : PM) (v1 : Int32) (v2 : Int32) (v3 : Int32), Gr 2 p → g12_doMarket p v1 v2 v3 → ZJ 2 285 0 [zR 12 1, zI v1, zI v2, zI v3, zJ] [] p (hwI (v12_doMarket p v1 v2 v3)) := r12_doMarket v12_isAccount g12_isAccount ok280 v12_newOrder g12_newOrder ok224 v12_enters g12_enters ok257 v12_in g12_in ok215 v12_isQuantity g12_isQuantity ok281 v12_isShut g12_isShut ok282
def CC285 (F : PM → Int32 → Int32 → Int32 → Int32 × PM) (G : PM → Int32 → Int32 → Int32 → Prop) : Cal := (285, [15, 0, 0, 0], 1, false, fun as p => (zI (F p (ai as 1) (ai as 2) (ai as 3)).1, (F p (ai as 1) (ai as 2) (ai as 3)).2), fun as p => zsw (tc2 as [(112, 1), (0, 0), (0, 0), (0, 0)]) False (G p (ai as 1) (ai as 2) (ai as 3)))
set_option maxRecDepth 100000 in
theorem okr285 (F : PM → Int32 → Int32 → Int32 → Int32 × PM) (G : PM → Int32 → Int32 → Int32 → Prop) (h : ∀ (p : PM) (v1 : Int32) (v2 : Int32) (v3 : Int32), Gr 2 p → G p v1 v2 v3 → ZJ 2 285 0 [zR 12 1, zI v1, zI v2, zI v3, zJ] [] p (hwI (F p v1 v2 v3))) : CalOK 2 (CC285 F G) := cal_ok (m := 5) (by unfold mL; rw [mX_285]) (fun as p hg H => h p (ai as 1) (ai as 2) (ai as 3) hg H)
theorem ok285 : CalOK 2 (CC285 v12_doMarket g12_doMarket) := okr285 v12_doMarket g12_doMarket t12_doMarket
noncomputable def bv12_doIceberg (F215 : PM → Int32 → Int32 → Int32 → Int32) (F216 : PM → Int32 → Int32) (F219 : PM → Int32 → Int32 → Int32) (F224 : PM → Int32 → Int32 → Int32 → Int32 → Int32 → Int32 → Int32 → Int32 × PM) (F257 : PM → Int32 → PM) (F280 : PM → Int32 → Int32) (F281 : PM → Int32 → Int32) (F282 : PM → Int32 → Int32 → Int32 → Int32) (p : PM) (v1 : Int32) (v2 : Int32) (v3 : Int32) (v4 : Int32) (v5 : Int32) : Int32 × PM :=
  if (F280 p v1) = 0 then (
    let p1 : PM := pI p 12 1 0 (cn 1)
    if (p1.1 12 1 0) = 0 then (
      let r2 : Int32 × PM := F224 p1 v1 v2 v4 v3 (cn 0) (cn 1) (p1.1 12 1 18)
      let p3 : PM := pI r2.2 13 21 (r2.1).toNatClampNeg v5
      let p4 : PM := F257 p3 r2.1
      (((p4.1 12 1 39) - (cn 1)), p4))
    else (
      ((cn 0), p1)))
  else (
    if (F215 p v2 (cn 0) (cn 5)) = 0 then (
      let p25 : PM := pI p 12 1 0 (cn 1)
      if (p25.1 12 1 0) = 0 then (
        let r26 : Int32 × PM := F224 p25 v1 v2 v4 v3 (cn 0) (cn 1) (p25.1 12 1 18)
        let p27 : PM := pI r26.2 13 21 (r26.1).toNatClampNeg v5
        let p28 : PM := F257 p27 r26.1
        (((p28.1 12 1 39) - (cn 1)), p28))
      else (
        ((cn 0), p25)))
    else (
      if (F219 p v2 v3) = 0 then (
        let p5 : PM := pI p 12 1 0 (cn 2)
        if (p5.1 12 1 0) = 0 then (
          let r6 : Int32 × PM := F224 p5 v1 v2 v4 v3 (cn 0) (cn 1) (p5.1 12 1 18)
          let p7 : PM := pI r6.2 13 21 (r6.1).toNatClampNeg v5
          let p8 : PM := F257 p7 r6.1
          (((p8.1 12 1 39) - (cn 1)), p8))
        else (
          ((cn 0), p5)))
      else (
        if (F281 p v4) = 0 then (
          let p9 : PM := pI p 12 1 0 (cn 2)
          if (p9.1 12 1 0) = 0 then (
            let r10 : Int32 × PM := F224 p9 v1 v2 v4 v3 (cn 0) (cn 1) (p9.1 12 1 18)
            let p11 : PM := pI r10.2 13 21 (r10.1).toNatClampNeg v5
            let p12 : PM := F257 p11 r10.1
            (((p12.1 12 1 39) - (cn 1)), p12))
          else (
            ((cn 0), p9)))
        else (
          if (F215 p v5 (cn 1) (F216 p v4)) = 0 then (
            let p21 : PM := pI p 12 1 0 (cn 2)
            if (p21.1 12 1 0) = 0 then (
              let r22 : Int32 × PM := F224 p21 v1 v2 v4 v3 (cn 0) (cn 1) (p21.1 12 1 18)
              let p23 : PM := pI r22.2 13 21 (r22.1).toNatClampNeg v5
              let p24 : PM := F257 p23 r22.1
              (((p24.1 12 1 39) - (cn 1)), p24))
            else (
              ((cn 0), p21)))
          else (
            if (F282 p v1 v2 v4) = 0 then (
              let p13 : PM := pI p 12 1 0 (cn 0)
              if (p13.1 12 1 0) = 0 then (
                let r14 : Int32 × PM := F224 p13 v1 v2 v4 v3 (cn 0) (cn 1) (p13.1 12 1 18)
                let p15 : PM := pI r14.2 13 21 (r14.1).toNatClampNeg v5
                let p16 : PM := F257 p15 r14.1
                (((p16.1 12 1 39) - (cn 1)), p16))
              else (
                ((cn 0), p13)))
            else (
              let p17 : PM := pI p 12 1 0 (cn 3)
              if (p17.1 12 1 0) = 0 then (
                let r18 : Int32 × PM := F224 p17 v1 v2 v4 v3 (cn 0) (cn 1) (p17.1 12 1 18)
                let p19 : PM := pI r18.2 13 21 (r18.1).toNatClampNeg v5
                let p20 : PM := F257 p19 r18.1
                (((p20.1 12 1 39) - (cn 1)), p20))
              else (
                ((cn 0), p17))))))))
noncomputable def v12_doIceberg (p : PM) (v1 : Int32) (v2 : Int32) (v3 : Int32) (v4 : Int32) (v5 : Int32) : Int32 × PM := bv12_doIceberg v12_in v12_abs v12_isPrice v12_newOrder v12_enters v12_isAccount v12_isQuantity v12_isShut p v1 v2 v3 v4 v5
noncomputable def bg12_doIceberg (F215 : PM → Int32 → Int32 → Int32 → Int32) (G215 : PM → Int32 → Int32 → Int32 → Prop) (F216 : PM → Int32 → Int32) (G216 : PM → Int32 → Prop) (F219 : PM → Int32 → Int32 → Int32) (G219 : PM → Int32 → Int32 → Prop) (F224 : PM → Int32 → Int32 → Int32 → Int32 → Int32 → Int32 → Int32 → Int32 × PM) (G224 : PM → Int32 → Int32 → Int32 → Int32 → Int32 → Int32 → Int32 → Prop) (F257 : PM → Int32 → PM) (G257 : PM → Int32 → Prop) (F280 : PM → Int32 → Int32) (G280 : PM → Int32 → Prop) (F281 : PM → Int32 → Int32) (G281 : PM → Int32 → Prop) (F282 : PM → Int32 → Int32 → Int32 → Int32) (G282 : PM → Int32 → Int32 → Int32 → Prop) (p : PM) (v1 : Int32) (v2 : Int32) (v3 : Int32) (v4 : Int32) (v5 : Int32) : Prop :=
  (G280 p v1) ∧ (
  if (F280 p v1) = 0 then (
    let p1 : PM := pI p 12 1 0 (cn 1)
    if (p1.1 12 1 0) = 0 then (
      (G224 p1 v1 v2 v4 v3 (cn 0) (cn 1) (p1.1 12 1 18)) ∧ (
      let r2 : Int32 × PM := F224 p1 v1 v2 v4 v3 (cn 0) (cn 1) (p1.1 12 1 18)
      (inb r2.1 44) ∧ (
      let p3 : PM := pI r2.2 13 21 (r2.1).toNatClampNeg v5
      (G257 p3 r2.1) ∧ (
      let p4 : PM := F257 p3 r2.1
      True))))
    else (
      True))
  else (
    (G215 p v2 (cn 0) (cn 5)) ∧ (
    if (F215 p v2 (cn 0) (cn 5)) = 0 then (
      let p25 : PM := pI p 12 1 0 (cn 1)
      if (p25.1 12 1 0) = 0 then (
        (G224 p25 v1 v2 v4 v3 (cn 0) (cn 1) (p25.1 12 1 18)) ∧ (
        let r26 : Int32 × PM := F224 p25 v1 v2 v4 v3 (cn 0) (cn 1) (p25.1 12 1 18)
        (inb r26.1 44) ∧ (
        let p27 : PM := pI r26.2 13 21 (r26.1).toNatClampNeg v5
        (G257 p27 r26.1) ∧ (
        let p28 : PM := F257 p27 r26.1
        True))))
      else (
        True))
    else (
      (G219 p v2 v3) ∧ (
      if (F219 p v2 v3) = 0 then (
        let p5 : PM := pI p 12 1 0 (cn 2)
        if (p5.1 12 1 0) = 0 then (
          (G224 p5 v1 v2 v4 v3 (cn 0) (cn 1) (p5.1 12 1 18)) ∧ (
          let r6 : Int32 × PM := F224 p5 v1 v2 v4 v3 (cn 0) (cn 1) (p5.1 12 1 18)
          (inb r6.1 44) ∧ (
          let p7 : PM := pI r6.2 13 21 (r6.1).toNatClampNeg v5
          (G257 p7 r6.1) ∧ (
          let p8 : PM := F257 p7 r6.1
          True))))
        else (
          True))
      else (
        (G281 p v4) ∧ (
        if (F281 p v4) = 0 then (
          let p9 : PM := pI p 12 1 0 (cn 2)
          if (p9.1 12 1 0) = 0 then (
            (G224 p9 v1 v2 v4 v3 (cn 0) (cn 1) (p9.1 12 1 18)) ∧ (
            let r10 : Int32 × PM := F224 p9 v1 v2 v4 v3 (cn 0) (cn 1) (p9.1 12 1 18)
            (inb r10.1 44) ∧ (
            let p11 : PM := pI r10.2 13 21 (r10.1).toNatClampNeg v5
            (G257 p11 r10.1) ∧ (
            let p12 : PM := F257 p11 r10.1
            True))))
          else (
            True))
        else (
          (G216 p v4) ∧ (
          (G215 p v5 (cn 1) (F216 p v4)) ∧ (
          if (F215 p v5 (cn 1) (F216 p v4)) = 0 then (
            let p21 : PM := pI p 12 1 0 (cn 2)
            if (p21.1 12 1 0) = 0 then (
              (G224 p21 v1 v2 v4 v3 (cn 0) (cn 1) (p21.1 12 1 18)) ∧ (
              let r22 : Int32 × PM := F224 p21 v1 v2 v4 v3 (cn 0) (cn 1) (p21.1 12 1 18)
              (inb r22.1 44) ∧ (
              let p23 : PM := pI r22.2 13 21 (r22.1).toNatClampNeg v5
              (G257 p23 r22.1) ∧ (
              let p24 : PM := F257 p23 r22.1
              True))))
            else (
              True))
          else (
            (G282 p v1 v2 v4) ∧ (
            if (F282 p v1 v2 v4) = 0 then (
              let p13 : PM := pI p 12 1 0 (cn 0)
              if (p13.1 12 1 0) = 0 then (
                (G224 p13 v1 v2 v4 v3 (cn 0) (cn 1) (p13.1 12 1 18)) ∧ (
                let r14 : Int32 × PM := F224 p13 v1 v2 v4 v3 (cn 0) (cn 1) (p13.1 12 1 18)
                (inb r14.1 44) ∧ (
                let p15 : PM := pI r14.2 13 21 (r14.1).toNatClampNeg v5
                (G257 p15 r14.1) ∧ (
                let p16 : PM := F257 p15 r14.1
                True))))
              else (
                True))
            else (
              let p17 : PM := pI p 12 1 0 (cn 3)
              if (p17.1 12 1 0) = 0 then (
                (G224 p17 v1 v2 v4 v3 (cn 0) (cn 1) (p17.1 12 1 18)) ∧ (
                let r18 : Int32 × PM := F224 p17 v1 v2 v4 v3 (cn 0) (cn 1) (p17.1 12 1 18)
                (inb r18.1 44) ∧ (
                let p19 : PM := pI r18.2 13 21 (r18.1).toNatClampNeg v5
                (G257 p19 r18.1) ∧ (
                let p20 : PM := F257 p19 r18.1
                True))))
              else (
                True))))))))))))))
noncomputable def g12_doIceberg (p : PM) (v1 : Int32) (v2 : Int32) (v3 : Int32) (v4 : Int32) (v5 : Int32) : Prop := bg12_doIceberg v12_in g12_in v12_abs g12_abs v12_isPrice g12_isPrice v12_newOrder g12_newOrder v12_enters g12_enters v12_isAccount g12_isAccount v12_isQuantity g12_isQuantity v12_isShut g12_isShut p v1 v2 v3 v4 v5
def R286 : List Row := [(0, .aload_n 0, 1, 0, (0, 0, 0, 0, 0, 0)), (1, .iload_n 1, 1, 0, (0, 0, 0, 0, 0, 0)), (2, .invokestatic 429, 3, 0, (0, 1, 0, 0, 0, 0)), (5, .ifCond .eq 12, 3, 0, (0, 0, 0, 0, 0, 0)), (8, .iload_n 2, 1, 0, (0, 0, 0, 0, 0, 0)), (9, .iconst 0, 1, 0, (0, 0, 0, 0, 0, 0)), (10, .iconst 5, 1, 0, (0, 0, 0, 0, 0, 5)), (11, .invokestatic 209, 3, 0, (3, 3, 0, 0, 0, 0)), (14, .ifCond .ne 7, 3, 0, (0, 0, 0, 0, 0, 0)), (17, .iconst 1, 1, 0, (0, 0, 0, 0, 0, 1)), (18, .goto 54, 3, 0, (0, 0, 0, 0, 0, 0)), (21, .iload_n 2, 1, 0, (0, 0, 0, 0, 0, 0)), (22, .iload_n 3, 1, 0, (0, 0, 0, 0, 0, 0)), (23, .invokestatic 334, 3, 0, (4, 2, 0, 0, 0, 0)), (26, .ifCond .eq 26, 3, 0, (0, 0, 0, 0, 0, 0)), (29, .aload_n 0, 1, 0, (0, 0, 0, 0, 0, 0)), (30, .iload 4, 2, 0, (0, 0, 0, 0, 0, 0)), (32, .invokevirtual 432, 3, 0, (5, 2, 0, 0, 1, 0)), (35, .ifCond .eq 17, 3, 0, (0, 0, 0, 0, 0, 0)), (38, .iload 5, 2, 0, (0, 0, 0, 0, 0, 0)), (40, .iconst 1, 1, 0, (0, 0, 0, 0, 0, 1)), (41, .iload 4, 2, 0, (0, 0, 0, 0, 0, 0)), (43, .invokestatic 213, 3, 0, (6, 1, 0, 0, 0, 0)), (46, .invokestatic 209, 3, 0, (3, 3, 0, 0, 0, 0)), (49, .ifCond .ne 7, 3, 0, (0, 0, 0, 0, 0, 0)), (52, .iconst 2, 1, 0, (0, 0, 0, 0, 0, 2)), (53, .goto 19, 3, 0, (0, 0, 0, 0, 0, 0)), (56, .aload_n 0, 1, 0, (0, 0, 0, 0, 0, 0)), (57, .iload_n 1, 1, 0, (0, 0, 0, 0, 0, 0)), (58, .iload_n 2, 1, 0, (0, 0, 0, 0, 0, 0)), (59, .iload 4, 2, 0, (0, 0, 0, 0, 0, 0)), (61, .invokevirtual 435, 3, 0, (7, 4, 0, 0, 1, 0)), (64, .ifCond .eq 7, 3, 0, (0, 0, 0, 0, 0, 0)), (67, .iconst 3, 1, 0, (0, 0, 0, 0, 0, 3)), (68, .goto 4, 3, 0, (0, 0, 0, 0, 0, 0)), (71, .iconst 0, 1, 0, (0, 0, 0, 0, 0, 0)), (72, .putfield 180, 3, 0, (12, 0, 0, 1, 0, 0)), (75, .aload_n 0, 1, 0, (0, 0, 0, 0, 0, 0)), (76, .getfield 180, 3, 0, (12, 0, 0, 1, 0, 0)), (79, .ifCond .eq 5, 3, 0, (0, 0, 0, 0, 0, 0)), (82, .iconst 0, 1, 0, (0, 0, 0, 0, 0, 0)), (83, .ireturn, 1, 0, (0, 0, 0, 0, 0, 0)), (84, .aload_n 0, 1, 0, (0, 0, 0, 0, 0, 0)), (85, .iload_n 1, 1, 0, (0, 0, 0, 0, 0, 0)), (86, .iload_n 2, 1, 0, (0, 0, 0, 0, 0, 0)), (87, .iload 4, 2, 0, (0, 0, 0, 0, 0, 0)), (89, .iload_n 3, 1, 0, (0, 0, 0, 0, 0, 0)), (90, .iconst 0, 1, 0, (0, 0, 0, 0, 0, 0)), (91, .iconst 1, 1, 0, (0, 0, 0, 0, 0, 1)), (92, .aload_n 0, 1, 0, (0, 0, 0, 0, 0, 0)), (93, .getfield 197, 3, 0, (12, 18, 0, 1, 0, 0)), (96, .invokevirtual 442, 3, 0, (1, 8, 0, 0, 1, 0)), (99, .istore 6, 2, 0, (0, 0, 0, 0, 0, 0)), (101, .aload_n 0, 1, 0, (0, 0, 0, 0, 0, 0)), (102, .getfield 90, 3, 0, (12, 29, 16, 2, 21, 0)), (105, .iload 6, 2, 0, (0, 0, 0, 0, 0, 0)), (107, .iload 5, 2, 0, (0, 0, 0, 0, 0, 0)), (109, .iastore, 1, 0, (13, 44, 0, 0, 0, 0)), (110, .aload_n 0, 1, 0, (0, 0, 0, 0, 0, 0)), (111, .iload 6, 2, 0, (0, 0, 0, 0, 0, 0)), (113, .invokevirtual 446, 3, 0, (2, 2, 0, 0, 1, 0)), (116, .aload_n 0, 1, 0, (0, 0, 0, 0, 0, 0)), (117, .getfield 200, 3, 0, (12, 39, 0, 1, 0, 0)), (120, .iconst 1, 1, 0, (0, 0, 0, 0, 0, 1)), (121, .isub, 1, 0, (0, 0, 0, 0, 0, 0)), (122, .ireturn, 1, 0, (0, 0, 0, 0, 0, 0))]
set_option maxRecDepth 100000 in
theorem rk286 : R286.all (rok 2 286 1 [(280, [0]), (224, [15, 0, 0, 0, 0, 0, 0, 0]), (257, [15, 0]), (215, [0, 0, 0]), (219, [0, 0]), (281, [15, 0]), (216, [0]), (282, [15, 0, 0, 0])]) = true := by decide +kernel
set_option maxRecDepth 100000 in
theorem tab286 {F280 : PM → Int32 → Int32} {G280 : PM → Int32 → Prop} {F224 : PM → Int32 → Int32 → Int32 → Int32 → Int32 → Int32 → Int32 → Int32 × PM} {G224 : PM → Int32 → Int32 → Int32 → Int32 → Int32 → Int32 → Int32 → Prop} {F257 : PM → Int32 → PM} {G257 : PM → Int32 → Prop} {F215 : PM → Int32 → Int32 → Int32 → Int32} {G215 : PM → Int32 → Int32 → Int32 → Prop} {F219 : PM → Int32 → Int32 → Int32} {G219 : PM → Int32 → Int32 → Prop} {F281 : PM → Int32 → Int32} {G281 : PM → Int32 → Prop} {F216 : PM → Int32 → Int32} {G216 : PM → Int32 → Prop} {F282 : PM → Int32 → Int32 → Int32 → Int32} {G282 : PM → Int32 → Int32 → Int32 → Prop} : TabOK 2 286 1 [CC280 F280 G280, CC224 F224 G224, CC257 F257 G257, CC215 F215 G215, CC219 F219 G219, CC281 F281 G281, CC216 F216 G216, CC282 F282 G282] R286 := tab_ok (K := K286) rfl rfl (fun h => d286 h) rk286 (by decide +kernel)
set_option maxRecDepth 100000 in
theorem pc286 : cutpc [] R286 = true := by decide +kernel
set_option maxRecDepth 100000 in
theorem r12_doIceberg (F280 : PM → Int32 → Int32) (G280 : PM → Int32 → Prop) (o280 : CalOK 2 (CC280 F280 G280)) (F224 : PM → Int32 → Int32 → Int32 → Int32 → Int32 → Int32 → Int32 → Int32 × PM) (G224 : PM → Int32 → Int32 → Int32 → Int32 → Int32 → Int32 → Int32 → Prop) (o224 : CalOK 2 (CC224 F224 G224)) (F257 : PM → Int32 → PM) (G257 : PM → Int32 → Prop) (o257 : CalOK 2 (CC257 F257 G257)) (F215 : PM → Int32 → Int32 → Int32 → Int32) (G215 : PM → Int32 → Int32 → Int32 → Prop) (o215 : CalOK 2 (CC215 F215 G215)) (F219 : PM → Int32 → Int32 → Int32) (G219 : PM → Int32 → Int32 → Prop) (o219 : CalOK 2 (CC219 F219 G219)) (F281 : PM → Int32 → Int32) (G281 : PM → Int32 → Prop) (o281 : CalOK 2 (CC281 F281 G281)) (F216 : PM → Int32 → Int32) (G216 : PM → Int32 → Prop) (o216 : CalOK 2 (CC216 F216 G216)) (F282 : PM → Int32 → Int32 → Int32 → Int32) (G282 : PM → Int32 → Int32 → Int32 → Prop) (o282 : CalOK 2 (CC282 F282 G282)) : ∀ (p : PM) (v1 : Int32) (v2 : Int32) (v3 : Int32) (v4 : Int32) (v5 : Int32), Gr 2 p → bg12_doIceberg F215 G215 F216 G216 F219 G219 F224 G224 F257 G257 F280 G280 F281 G281 F282 G282 p v1 v2 v3 v4 v5 → ZJ 2 286 0 [zR 12 1, zI v1, zI v2, zI v3, zI v4, zI v5, zJ] [] p (hwI (bv12_doIceberg F215 F216 F219 F224 F257 F280 F281 F282 p v1 v2 v3 v4 v5)) := by
  intro p v1 v2 v3 v4 v5  hg H
  exact rwI (n := 3000) (q := 0) (la := [zR 12 1, zI v1, zI v2, zI v3, zI v4, zI v5, zJ]) (sa := []) (ks := []) (gs := []) (fcons o280 (fcons o224 (fcons o257 (fcons o215 (fcons o219 (fcons o281 (fcons o216 (fcons o282 (fnil))))))))) tab286 pc286 trivial hg H
theorem t12_doIceberg : ∀ (p : PM) (v1 : Int32) (v2 : Int32) (v3 : Int32) (v4 : Int32) (v5 : Int32), Gr 2 p → g12_doIceberg p v1 v2 v3 v4 v5 → ZJ 2 286 0 [zR 12 1, zI v1, zI v2, zI v3, zI v4, zI v5, zJ] [] p (hwI (v12_doIceberg p v1 v2 v3 v4 v5)) := r12_doIceberg v12_isAccount g12_isAccount ok280 v12_newOrder g12_newOrder ok224 v12_enters g12_enters ok257 v12_in g12_in ok215 v12_isPrice g12_isPrice ok219 v12_isQuantity g12_isQuantity ok281 v12_abs g12_abs ok216 v12_isShut g12_isShut ok282
def CC286 (F : PM → Int32 → Int32 → Int32 → Int32 → Int32 → Int32 × PM) (G : PM → Int32 → Int32 → Int32 → Int32 → Int32 → Prop) : Cal := (286, [15, 0, 0, 0, 0, 0], 1, false, fun as p => (zI (F p (ai as 1) (ai as 2) (ai as 3) (ai as 4) (ai as 5)).1, (F p (ai as 1) (ai as 2) (ai as 3) (ai as 4) (ai as 5)).2), fun as p => zsw (tc2 as [(112, 1), (0, 0), (0, 0), (0, 0), (0, 0), (0, 0)]) False (G p (ai as 1) (ai as 2) (ai as 3) (ai as 4) (ai as 5)))
set_option maxRecDepth 100000 in
theorem okr286 (F : PM → Int32 → Int32 → Int32 → Int32 → Int32 → Int32 × PM) (G : PM → Int32 → Int32 → Int32 → Int32 → Int32 → Prop) (h : ∀ (p : PM) (v1 : Int32) (v2 : Int32) (v3 : Int32) (v4 : Int32) (v5 : Int32), Gr 2 p → G p v1 v2 v3 v4 v5 → ZJ 2 286 0 [zR 12 1, zI v1, zI v2, zI v3, zI v4, zI v5, zJ] [] p (hwI (F p v1 v2 v3 v4 v5))) : CalOK 2 (CC286 F G) := cal_ok (m := 7) (by unfold mL; rw [mX_286]) (fun as p hg H => h p (ai as 1) (ai as 2) (ai as 3) (ai as 4) (ai as 5) hg H)
theorem ok286 : CalOK 2 (CC286 v12_doIceberg g12_doIceberg) := okr286 v12_doIceberg g12_doIceberg t12_doIceberg
