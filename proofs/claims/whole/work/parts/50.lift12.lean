/-! methods as functions over one part, by program (wip/whole/lift.py) -/
noncomputable def bv12_shares_125 (kv115 : PM → Int64 → Int64 → Int64 × PM) (kv125 : PM → Int64 → Int64 → Int32 → Int64 × PM) (p : PM) (v5 : Int64) (v7 : Int64) (v9 : Int32) : Int64 × PM :=
  if v9 < (cn 4) then (
    if 0 < (lg_cmp v5 (cl 0)) then (
      if (lg_cmp (p.2.1 14 3 (v9).toNatClampNeg) (p.2.1 14 2 (v9).toNatClampNeg)) < 0 then (
        let p3 : PM := pJ p 14 3 (v9).toNatClampNeg ((p.2.1 14 3 (v9).toNatClampNeg) + (cl 1))
        kv125 p3 (v5 - (cl 1)) v7 (v9 + (cn 1)))
      else (
        let p2 : PM := pJ p 14 3 (v9).toNatClampNeg ((p.2.1 14 3 (v9).toNatClampNeg) + (cl 0))
        kv125 p2 (v5 - (cl 0)) v7 (v9 + (cn 1))))
    else (
      let p1 : PM := pJ p 14 3 (v9).toNatClampNeg ((p.2.1 14 3 (v9).toNatClampNeg) + (cl 0))
      kv125 p1 (v5 - (cl 0)) v7 (v9 + (cn 1))))
  else (
    kv115 p v5 v7)
noncomputable def v12_shares_125 (kv115 : PM → Int64 → Int64 → Int64 × PM) (n : Nat) : PM → Int64 → Int64 → Int32 → Int64 × PM := Nat.rec (motive := fun _ => PM → Int64 → Int64 → Int32 → Int64 × PM) (fun p _ _ _ => (0, p)) (fun _ ih => bv12_shares_125 kv115 ih) n
theorem ev12_shares_125 (kv115 : PM → Int64 → Int64 → Int64 × PM) (n : Nat) (p : PM) (v5 : Int64) (v7 : Int64) (v9 : Int32) : v12_shares_125 kv115 (n + 1) p v5 v7 v9 = bv12_shares_125 kv115 (v12_shares_125 kv115 n) p v5 v7 v9 := rfl
noncomputable def bg12_shares_125 (kg115 : PM → Int64 → Int64 → Prop) (kg125 : PM → Int64 → Int64 → Int32 → Prop) (p : PM) (v5 : Int64) (v7 : Int64) (v9 : Int32) : Prop :=
  if v9 < (cn 4) then (
    if 0 < (lg_cmp v5 (cl 0)) then (
      (inb v9 4) ∧ (
      (inb v9 4) ∧ (
      if (lg_cmp (p.2.1 14 3 (v9).toNatClampNeg) (p.2.1 14 2 (v9).toNatClampNeg)) < 0 then (
        (inb v9 4) ∧ (
        (inb v9 4) ∧ (
        let p3 : PM := pJ p 14 3 (v9).toNatClampNeg ((p.2.1 14 3 (v9).toNatClampNeg) + (cl 1))
        kg125 p3 (v5 - (cl 1)) v7 (v9 + (cn 1)))))
      else (
        (inb v9 4) ∧ (
        (inb v9 4) ∧ (
        let p2 : PM := pJ p 14 3 (v9).toNatClampNeg ((p.2.1 14 3 (v9).toNatClampNeg) + (cl 0))
        kg125 p2 (v5 - (cl 0)) v7 (v9 + (cn 1))))))))
    else (
      (inb v9 4) ∧ (
      (inb v9 4) ∧ (
      let p1 : PM := pJ p 14 3 (v9).toNatClampNeg ((p.2.1 14 3 (v9).toNatClampNeg) + (cl 0))
      kg125 p1 (v5 - (cl 0)) v7 (v9 + (cn 1))))))
  else (
    kg115 p v5 v7)
noncomputable def g12_shares_125 (kg115 : PM → Int64 → Int64 → Prop) (n : Nat) : PM → Int64 → Int64 → Int32 → Prop := Nat.rec (motive := fun _ => PM → Int64 → Int64 → Int32 → Prop) (fun _ _ _ _ => False) (fun _ ih => bg12_shares_125 kg115 ih) n
theorem eg12_shares_125 (kg115 : PM → Int64 → Int64 → Prop) (n : Nat) (p : PM) (v5 : Int64) (v7 : Int64) (v9 : Int32) : g12_shares_125 kg115 (n + 1) p v5 v7 v9 = bg12_shares_125 kg115 (g12_shares_125 kg115 n) p v5 v7 v9 := rfl
noncomputable def bv12_shares_115 (kv125 : PM → Int64 → Int64 → Int32 → Int64 × PM) (p : PM) (v5 : Int64) (v7 : Int64) : Int64 × PM :=
  if 0 < (lg_cmp v5 (cl 0)) then (
    kv125 p v5 v7 (cn 0))
  else (
    (v7, p))
noncomputable def v12_shares_115 (n : Nat) : PM → Int64 → Int64 → Int64 × PM := Nat.rec (motive := fun _ => PM → Int64 → Int64 → Int64 × PM) (fun p _ _ => (0, p)) (fun _ ih => bv12_shares_115 (v12_shares_125 ih FU)) n
theorem ev12_shares_115 (n : Nat) (p : PM) (v5 : Int64) (v7 : Int64) : v12_shares_115 (n + 1) p v5 v7 = bv12_shares_115 (v12_shares_125 (v12_shares_115 n) FU) p v5 v7 := rfl
noncomputable def bg12_shares_115 (kg125 : PM → Int64 → Int64 → Int32 → Prop) (p : PM) (v5 : Int64) (v7 : Int64) : Prop :=
  if 0 < (lg_cmp v5 (cl 0)) then (
    kg125 p v5 v7 (cn 0))
  else (
    True)
noncomputable def g12_shares_115 (n : Nat) : PM → Int64 → Int64 → Prop := Nat.rec (motive := fun _ => PM → Int64 → Int64 → Prop) (fun _ _ _ => False) (fun _ ih => bg12_shares_115 (g12_shares_125 ih FU)) n
theorem eg12_shares_115 (n : Nat) (p : PM) (v5 : Int64) (v7 : Int64) : g12_shares_115 (n + 1) p v5 v7 = bg12_shares_115 (g12_shares_125 (g12_shares_115 n) FU) p v5 v7 := rfl
noncomputable def bv12_shares_47 (kv47 : PM → Int64 → Int64 → Int64 → Int64 → Int32 → Int64 × PM) (kv115 : PM → Int64 → Int64 → Int64 × PM) (p : PM) (v1 : Int64) (v3 : Int64) (v5 : Int64) (v7 : Int64) (v9 : Int32) : Int64 × PM :=
  if v9 < (cn 4) then (
    if (lg_cmp v3 (cl 0)) = 0 then (
      let p5 : PM := pJ p 14 3 (v9).toNatClampNeg (cl 0)
      let x6 : Int64 := (v5 - (p5.2.1 14 3 (v9).toNatClampNeg))
      kv47 p5 v1 v3 x6 v7 (v9 + (cn 1)))
    else (
      if (lg_cmp v1 v3) < 0 then (
        let p1 : PM := pJ p 14 3 (v9).toNatClampNeg ((v1 * (p.2.1 14 2 (v9).toNatClampNeg)) / v3)
        let x2 : Int64 := (v5 - (p1.2.1 14 3 (v9).toNatClampNeg))
        kv47 p1 v1 v3 x2 v7 (v9 + (cn 1)))
      else (
        let p3 : PM := pJ p 14 3 (v9).toNatClampNeg (p.2.1 14 2 (v9).toNatClampNeg)
        let x4 : Int64 := (v5 - (p3.2.1 14 3 (v9).toNatClampNeg))
        kv47 p3 v1 v3 x4 v7 (v9 + (cn 1)))))
  else (
    kv115 p v5 v7)
noncomputable def v12_shares_47 (n : Nat) : PM → Int64 → Int64 → Int64 → Int64 → Int32 → Int64 × PM := Nat.rec (motive := fun _ => PM → Int64 → Int64 → Int64 → Int64 → Int32 → Int64 × PM) (fun p _ _ _ _ _ => (0, p)) (fun _ ih => bv12_shares_47 ih (v12_shares_115 FU)) n
theorem ev12_shares_47 (n : Nat) (p : PM) (v1 : Int64) (v3 : Int64) (v5 : Int64) (v7 : Int64) (v9 : Int32) : v12_shares_47 (n + 1) p v1 v3 v5 v7 v9 = bv12_shares_47 (v12_shares_47 n) (v12_shares_115 FU) p v1 v3 v5 v7 v9 := rfl
noncomputable def bg12_shares_47 (kg47 : PM → Int64 → Int64 → Int64 → Int64 → Int32 → Prop) (kg115 : PM → Int64 → Int64 → Prop) (p : PM) (v1 : Int64) (v3 : Int64) (v5 : Int64) (v7 : Int64) (v9 : Int32) : Prop :=
  if v9 < (cn 4) then (
    if (lg_cmp v3 (cl 0)) = 0 then (
      (inb v9 4) ∧ (
      let p5 : PM := pJ p 14 3 (v9).toNatClampNeg (cl 0)
      (inb v9 4) ∧ (
      let x6 : Int64 := (v5 - (p5.2.1 14 3 (v9).toNatClampNeg))
      kg47 p5 v1 v3 x6 v7 (v9 + (cn 1)))))
    else (
      if (lg_cmp v1 v3) < 0 then (
        (inb v9 4) ∧ (
        (¬ v3 = 0) ∧ (
        (inb v9 4) ∧ (
        let p1 : PM := pJ p 14 3 (v9).toNatClampNeg ((v1 * (p.2.1 14 2 (v9).toNatClampNeg)) / v3)
        (inb v9 4) ∧ (
        let x2 : Int64 := (v5 - (p1.2.1 14 3 (v9).toNatClampNeg))
        kg47 p1 v1 v3 x2 v7 (v9 + (cn 1)))))))
      else (
        (inb v9 4) ∧ (
        (inb v9 4) ∧ (
        let p3 : PM := pJ p 14 3 (v9).toNatClampNeg (p.2.1 14 2 (v9).toNatClampNeg)
        (inb v9 4) ∧ (
        let x4 : Int64 := (v5 - (p3.2.1 14 3 (v9).toNatClampNeg))
        kg47 p3 v1 v3 x4 v7 (v9 + (cn 1))))))))
  else (
    kg115 p v5 v7)
noncomputable def g12_shares_47 (n : Nat) : PM → Int64 → Int64 → Int64 → Int64 → Int32 → Prop := Nat.rec (motive := fun _ => PM → Int64 → Int64 → Int64 → Int64 → Int32 → Prop) (fun _ _ _ _ _ _ => False) (fun _ ih => bg12_shares_47 ih (g12_shares_115 FU)) n
theorem eg12_shares_47 (n : Nat) (p : PM) (v1 : Int64) (v3 : Int64) (v5 : Int64) (v7 : Int64) (v9 : Int32) : g12_shares_47 (n + 1) p v1 v3 v5 v7 v9 = bg12_shares_47 (g12_shares_47 n) (g12_shares_115 FU) p v1 v3 v5 v7 v9 := rfl
noncomputable def bv12_shares_5 (kv5 : PM → Int64 → Int64 → Int32 → Int64 × PM) (kv47 : PM → Int64 → Int64 → Int64 → Int64 → Int32 → Int64 × PM) (p : PM) (v1 : Int64) (v3 : Int64) (v5 : Int32) : Int64 × PM :=
  if v5 < (cn 4) then (
    let x1 : Int64 := (v3 + (p.2.1 14 2 (v5).toNatClampNeg))
    kv5 p v1 x1 (v5 + (cn 1)))
  else (
    if (lg_cmp v1 v3) < 0 then (
      kv47 p v1 v3 v1 v1 (cn 0))
    else (
      kv47 p v1 v3 v3 v3 (cn 0)))
noncomputable def v12_shares_5 (n : Nat) : PM → Int64 → Int64 → Int32 → Int64 × PM := Nat.rec (motive := fun _ => PM → Int64 → Int64 → Int32 → Int64 × PM) (fun p _ _ _ => (0, p)) (fun _ ih => bv12_shares_5 ih (v12_shares_47 FU)) n
theorem ev12_shares_5 (n : Nat) (p : PM) (v1 : Int64) (v3 : Int64) (v5 : Int32) : v12_shares_5 (n + 1) p v1 v3 v5 = bv12_shares_5 (v12_shares_5 n) (v12_shares_47 FU) p v1 v3 v5 := rfl
noncomputable def bg12_shares_5 (kg5 : PM → Int64 → Int64 → Int32 → Prop) (kg47 : PM → Int64 → Int64 → Int64 → Int64 → Int32 → Prop) (p : PM) (v1 : Int64) (v3 : Int64) (v5 : Int32) : Prop :=
  if v5 < (cn 4) then (
    (inb v5 4) ∧ (
    let x1 : Int64 := (v3 + (p.2.1 14 2 (v5).toNatClampNeg))
    kg5 p v1 x1 (v5 + (cn 1))))
  else (
    if (lg_cmp v1 v3) < 0 then (
      kg47 p v1 v3 v1 v1 (cn 0))
    else (
      kg47 p v1 v3 v3 v3 (cn 0)))
noncomputable def g12_shares_5 (n : Nat) : PM → Int64 → Int64 → Int32 → Prop := Nat.rec (motive := fun _ => PM → Int64 → Int64 → Int32 → Prop) (fun _ _ _ _ => False) (fun _ ih => bg12_shares_5 ih (g12_shares_47 FU)) n
theorem eg12_shares_5 (n : Nat) (p : PM) (v1 : Int64) (v3 : Int64) (v5 : Int32) : g12_shares_5 (n + 1) p v1 v3 v5 = bg12_shares_5 (g12_shares_5 n) (g12_shares_47 FU) p v1 v3 v5 := rfl
noncomputable def bv12_shares (kv5 : PM → Int64 → Int64 → Int32 → Int64 × PM) (p : PM) (v1 : Int64) : Int64 × PM :=
  kv5 p v1 (cl 0) (cn 0)
noncomputable def v12_shares (p : PM) (v1 : Int64) : Int64 × PM := bv12_shares (v12_shares_5 FU) p v1
noncomputable def bg12_shares (kg5 : PM → Int64 → Int64 → Int32 → Prop) (p : PM) (v1 : Int64) : Prop :=
  kg5 p v1 (cl 0) (cn 0)
noncomputable def g12_shares (p : PM) (v1 : Int64) : Prop := bg12_shares (g12_shares_5 FU) p v1
def R312 : List Row := [(0, .lconst 0, 1, 0, (0, 0, 0, 0, 0, 0)), (1, .lstore_n 3, 1, 0, (0, 0, 0, 0, 0, 0)), (2, .iconst 0, 1, 0, (0, 0, 0, 0, 0, 0)), (3, .istore 5, 2, 0, (0, 0, 0, 0, 0, 0)), (5, .iload 5, 2, 1, (0, 0, 0, 0, 0, 0)), (7, .iconst 4, 1, 0, (0, 0, 0, 0, 0, 4)), (8, .if_icmp .ge 19, 3, 0, (0, 0, 0, 0, 0, 0)), (11, .lload_n 3, 1, 0, (0, 0, 0, 0, 0, 0)), (12, .aload_n 0, 1, 0, (0, 0, 0, 0, 0, 0)), (13, .getfield 171, 3, 0, (12, 66, 17, 2, 2, 0)), (16, .iload 5, 2, 0, (0, 0, 0, 0, 0, 0)), (18, .laload, 1, 0, (14, 4, 0, 0, 0, 0)), (19, .ladd, 1, 0, (0, 0, 0, 0, 0, 0)), (20, .lstore_n 3, 1, 0, (0, 0, 0, 0, 0, 0)), (21, .iinc 5 1, 3, 0, (0, 0, 0, 0, 0, 1)), (24, .goto (-19), 3, 0, (0, 0, 0, 0, 0, 0)), (27, .lload_n 1, 1, 0, (0, 0, 0, 0, 0, 0)), (28, .lload_n 3, 1, 0, (0, 0, 0, 0, 0, 0)), (29, .lcmp, 1, 0, (0, 0, 0, 0, 0, 0)), (30, .ifCond .ge 7, 3, 0, (0, 0, 0, 0, 0, 0)), (33, .lload_n 1, 1, 0, (0, 0, 0, 0, 0, 0)), (34, .goto 4, 3, 0, (0, 0, 0, 0, 0, 0)), (37, .lload_n 3, 1, 0, (0, 0, 0, 0, 0, 0)), (38, .lstore 5, 2, 0, (0, 0, 0, 0, 0, 0)), (40, .lload 5, 2, 0, (0, 0, 0, 0, 0, 0)), (42, .lstore 7, 2, 0, (0, 0, 0, 0, 0, 0)), (44, .iconst 0, 1, 0, (0, 0, 0, 0, 0, 0)), (45, .istore 9, 2, 0, (0, 0, 0, 0, 0, 0)), (47, .iload 9, 2, 2, (0, 0, 0, 0, 0, 0)), (49, .iconst 4, 1, 0, (0, 0, 0, 0, 0, 4)), (50, .if_icmp .ge 65, 3, 0, (0, 0, 0, 0, 0, 0)), (53, .aload_n 0, 1, 0, (0, 0, 0, 0, 0, 0)), (54, .getfield 174, 3, 0, (12, 67, 17, 2, 3, 0)), (57, .iload 9, 2, 0, (0, 0, 0, 0, 0, 0)), (59, .lload_n 3, 1, 0, (0, 0, 0, 0, 0, 0)), (60, .lconst 0, 1, 0, (0, 0, 0, 0, 0, 0)), (61, .lcmp, 1, 0, (0, 0, 0, 0, 0, 0)), (62, .ifCond .ne 7, 3, 0, (0, 0, 0, 0, 0, 0)), (65, .lconst 0, 1, 0, (0, 0, 0, 0, 0, 0)), (66, .goto 30, 3, 0, (0, 0, 0, 0, 0, 0)), (69, .lload_n 1, 1, 0, (0, 0, 0, 0, 0, 0)), (70, .lload_n 3, 1, 0, (0, 0, 0, 0, 0, 0)), (71, .lcmp, 1, 0, (0, 0, 0, 0, 0, 0)), (72, .ifCond .lt 13, 3, 0, (0, 0, 0, 0, 0, 0)), (75, .aload_n 0, 1, 0, (0, 0, 0, 0, 0, 0)), (76, .getfield 171, 3, 0, (12, 66, 17, 2, 2, 0)), (79, .iload 9, 2, 0, (0, 0, 0, 0, 0, 0)), (81, .laload, 1, 0, (14, 4, 0, 0, 0, 0)), (82, .goto 14, 3, 0, (0, 0, 0, 0, 0, 0)), (85, .lload_n 1, 1, 0, (0, 0, 0, 0, 0, 0)), (86, .aload_n 0, 1, 0, (0, 0, 0, 0, 0, 0)), (87, .getfield 171, 3, 0, (12, 66, 17, 2, 2, 0)), (90, .iload 9, 2, 0, (0, 0, 0, 0, 0, 0)), (92, .laload, 1, 0, (14, 4, 0, 0, 0, 0)), (93, .lmul, 1, 0, (0, 0, 0, 0, 0, 0)), (94, .lload_n 3, 1, 0, (0, 0, 0, 0, 0, 0)), (95, .ldiv, 1, 0, (0, 0, 0, 0, 0, 0)), (96, .lastore, 1, 0, (14, 4, 0, 0, 0, 0)), (97, .lload 5, 2, 0, (0, 0, 0, 0, 0, 0)), (99, .aload_n 0, 1, 0, (0, 0, 0, 0, 0, 0)), (100, .getfield 174, 3, 0, (12, 67, 17, 2, 3, 0)), (103, .iload 9, 2, 0, (0, 0, 0, 0, 0, 0)), (105, .laload, 1, 0, (14, 4, 0, 0, 0, 0)), (106, .lsub, 1, 0, (0, 0, 0, 0, 0, 0)), (107, .lstore 5, 2, 0, (0, 0, 0, 0, 0, 0)), (109, .iinc 9 1, 3, 0, (0, 0, 0, 0, 0, 1)), (112, .goto (-65), 3, 0, (0, 0, 0, 0, 0, 0)), (115, .lload 5, 2, 3, (0, 0, 0, 0, 0, 0)), (117, .lconst 0, 1, 0, (0, 0, 0, 0, 0, 0)), (118, .lcmp, 1, 0, (0, 0, 0, 0, 0, 0)), (119, .ifCond .le 72, 3, 0, (0, 0, 0, 0, 0, 0)), (122, .iconst 0, 1, 0, (0, 0, 0, 0, 0, 0)), (123, .istore 9, 2, 0, (0, 0, 0, 0, 0, 0)), (125, .iload 9, 2, 4, (0, 0, 0, 0, 0, 0)), (127, .iconst 4, 1, 0, (0, 0, 0, 0, 0, 4)), (128, .if_icmp .ge 60, 3, 0, (0, 0, 0, 0, 0, 0)), (131, .lload 5, 2, 0, (0, 0, 0, 0, 0, 0)), (133, .lconst 0, 1, 0, (0, 0, 0, 0, 0, 0)), (134, .lcmp, 1, 0, (0, 0, 0, 0, 0, 0)), (135, .ifCond .le 25, 3, 0, (0, 0, 0, 0, 0, 0)), (138, .aload_n 0, 1, 0, (0, 0, 0, 0, 0, 0)), (139, .getfield 174, 3, 0, (12, 67, 17, 2, 3, 0)), (142, .iload 9, 2, 0, (0, 0, 0, 0, 0, 0)), (144, .laload, 1, 0, (14, 4, 0, 0, 0, 0)), (145, .aload_n 0, 1, 0, (0, 0, 0, 0, 0, 0)), (146, .getfield 171, 3, 0, (12, 66, 17, 2, 2, 0)), (149, .iload 9, 2, 0, (0, 0, 0, 0, 0, 0)), (151, .laload, 1, 0, (14, 4, 0, 0, 0, 0)), (152, .lcmp, 1, 0, (0, 0, 0, 0, 0, 0)), (153, .ifCond .ge 7, 3, 0, (0, 0, 0, 0, 0, 0)), (156, .lconst 1, 1, 0, (0, 0, 0, 0, 0, 1)), (157, .goto 4, 3, 0, (0, 0, 0, 0, 0, 0)), (160, .lconst 0, 1, 0, (0, 0, 0, 0, 0, 0)), (161, .lstore 10, 2, 0, (0, 0, 0, 0, 0, 0)), (163, .aload_n 0, 1, 0, (0, 0, 0, 0, 0, 0)), (164, .getfield 174, 3, 0, (12, 67, 17, 2, 3, 0)), (167, .iload 9, 2, 0, (0, 0, 0, 0, 0, 0)), (169, .dup2, 1, 0, (0, 0, 0, 0, 0, 0)), (170, .laload, 1, 0, (14, 4, 0, 0, 0, 0)), (171, .lload 10, 2, 0, (0, 0, 0, 0, 0, 0)), (173, .ladd, 1, 0, (0, 0, 0, 0, 0, 0)), (174, .lastore, 1, 0, (14, 4, 0, 0, 0, 0)), (175, .lload 5, 2, 0, (0, 0, 0, 0, 0, 0)), (177, .lload 10, 2, 0, (0, 0, 0, 0, 0, 0)), (179, .lsub, 1, 0, (0, 0, 0, 0, 0, 0)), (180, .lstore 5, 2, 0, (0, 0, 0, 0, 0, 0)), (182, .iinc 9 1, 3, 0, (0, 0, 0, 0, 0, 1)), (185, .goto (-60), 3, 0, (0, 0, 0, 0, 0, 0)), (188, .goto (-73), 3, 0, (0, 0, 0, 0, 0, 0)), (191, .lload 7, 2, 0, (0, 0, 0, 0, 0, 0)), (193, .lreturn, 1, 0, (0, 0, 0, 0, 0, 0))]
set_option maxRecDepth 100000 in
theorem rk312 : R312.all (rok 2 312 2 []) = true := by decide +kernel
set_option maxRecDepth 100000 in
theorem tab312 : TabOK 2 312 2 [] R312 := tab_ok (K := K312) rfl rfl (fun h => d312 h) rk312 (by decide +kernel)
set_option maxRecDepth 100000 in
theorem pc312 : cutpc [5, 47, 115, 125] R312 = true := by decide +kernel
set_option maxRecDepth 100000 in
theorem r12_shares_125 (kv115 : PM → Int64 → Int64 → Int64 × PM) (kg115 : PM → Int64 → Int64 → Prop) (hk115 : ∀ (p : PM) (v5 : Int64) (v7 : Int64) (d1 d2 d3 d4 d6 d8 d9 d10 d11 : ZV), Gr 2 p → kg115 p v5 v7 → ZJ 2 312 115 [zR 12 1, d1, d2, d3, d4, zL v5, d6, zL v7, d8, d9, d10, d11] [] p (hwL (kv115 p v5 v7))) (kv125 : PM → Int64 → Int64 → Int32 → Int64 × PM) (kg125 : PM → Int64 → Int64 → Int32 → Prop) (hk125 : ∀ (p : PM) (v5 : Int64) (v7 : Int64) (v9 : Int32) (d1 d2 d3 d4 d6 d8 d10 d11 : ZV), Gr 2 p → kg125 p v5 v7 v9 → ZJ 2 312 125 [zR 12 1, d1, d2, d3, d4, zL v5, d6, zL v7, d8, zI v9, d10, d11] [] p (hwL (kv125 p v5 v7 v9))) : ∀ (p : PM) (v5 : Int64) (v7 : Int64) (v9 : Int32) (d1 d2 d3 d4 d6 d8 d10 d11 : ZV), Gr 2 p → bg12_shares_125 kg115 kg125 p v5 v7 v9 → ZJ 2 312 125 [zR 12 1, d1, d2, d3, d4, zL v5, d6, zL v7, d8, zI v9, d10, d11] [] p (hwL (bv12_shares_125 kv115 kv125 p v5 v7 v9)) := by
  intro p v5 v7 v9 d1 d2 d3 d4 d6 d8 d10 d11 hg H
  exact rwL (n := 3000) (q := 125) (la := [zR 12 1, d1, d2, d3, d4, zL v5, d6, zL v7, d8, zI v9, d10, d11]) (sa := []) (ks := [fun _ _ s => (0, s), fun _ _ s => (0, s), fun la sa s => kv115 s (al la 5) (al la 7), fun la sa s => kv125 s (al la 5) (al la 7) (ai la 9)]) (gs := [fun _ _ _ => False, fun _ _ _ => False, fun la sa s => zsw (tc2 la [(112, 1), (2, 0), (2, 0), (2, 0), (2, 0), (1, 0), (2, 0), (1, 0), (2, 0), (2, 0), (2, 0), (2, 0)] && tc2 sa []) False (kg115 s (al la 5) (al la 7)), fun la sa s => zsw (tc2 la [(112, 1), (2, 0), (2, 0), (2, 0), (2, 0), (1, 0), (2, 0), (1, 0), (2, 0), (0, 0), (2, 0), (2, 0)] && tc2 sa []) False (kg125 s (al la 5) (al la 7) (ai la 9))]) (fnil) tab312 pc312 ⟨fun _ _ _ _ H => H.elim, fun _ _ _ _ H => H.elim, fun la sa s hg H => zcut H fun H => hk115 s (al la 5) (al la 7) (zld la 1) (zld la 2) (zld la 3) (zld la 4) (zld la 6) (zld la 8) (zld la 9) (zld la 10) (zld la 11) hg H, fun la sa s hg H => zcut H fun H => hk125 s (al la 5) (al la 7) (ai la 9) (zld la 1) (zld la 2) (zld la 3) (zld la 4) (zld la 6) (zld la 8) (zld la 10) (zld la 11) hg H, trivial⟩ hg H
theorem t12_shares_125 (kv115 : PM → Int64 → Int64 → Int64 × PM) (kg115 : PM → Int64 → Int64 → Prop) (hk115 : ∀ (p : PM) (v5 : Int64) (v7 : Int64) (d1 d2 d3 d4 d6 d8 d9 d10 d11 : ZV), Gr 2 p → kg115 p v5 v7 → ZJ 2 312 115 [zR 12 1, d1, d2, d3, d4, zL v5, d6, zL v7, d8, d9, d10, d11] [] p (hwL (kv115 p v5 v7))) : ∀ (n : Nat), ∀ (p : PM) (v5 : Int64) (v7 : Int64) (v9 : Int32) (d1 d2 d3 d4 d6 d8 d10 d11 : ZV), Gr 2 p → g12_shares_125 kg115 n p v5 v7 v9 → ZJ 2 312 125 [zR 12 1, d1, d2, d3, d4, zL v5, d6, zL v7, d8, zI v9, d10, d11] [] p (hwL (v12_shares_125 kv115 n p v5 v7 v9)) := by
  intro n
  induction n with
  | zero =>
    intro p v5 v7 v9 d1 d2 d3 d4 d6 d8 d10 d11 hg H
    exact H.elim
  | succ n ih => exact r12_shares_125 kv115 kg115 hk115 (v12_shares_125 kv115 n) (g12_shares_125 kg115 n) ih
set_option maxRecDepth 100000 in
theorem r12_shares_115 (kv125 : PM → Int64 → Int64 → Int32 → Int64 × PM) (kg125 : PM → Int64 → Int64 → Int32 → Prop) (hk125 : ∀ (p : PM) (v5 : Int64) (v7 : Int64) (v9 : Int32) (d1 d2 d3 d4 d6 d8 d10 d11 : ZV), Gr 2 p → kg125 p v5 v7 v9 → ZJ 2 312 125 [zR 12 1, d1, d2, d3, d4, zL v5, d6, zL v7, d8, zI v9, d10, d11] [] p (hwL (kv125 p v5 v7 v9))) : ∀ (p : PM) (v5 : Int64) (v7 : Int64) (d1 d2 d3 d4 d6 d8 d9 d10 d11 : ZV), Gr 2 p → bg12_shares_115 kg125 p v5 v7 → ZJ 2 312 115 [zR 12 1, d1, d2, d3, d4, zL v5, d6, zL v7, d8, d9, d10, d11] [] p (hwL (bv12_shares_115 kv125 p v5 v7)) := by
  intro p v5 v7 d1 d2 d3 d4 d6 d8 d9 d10 d11 hg H
  exact rwL (n := 3000) (q := 115) (la := [zR 12 1, d1, d2, d3, d4, zL v5, d6, zL v7, d8, d9, d10, d11]) (sa := []) (ks := [fun _ _ s => (0, s), fun _ _ s => (0, s), fun _ _ s => (0, s), fun la sa s => kv125 s (al la 5) (al la 7) (ai la 9)]) (gs := [fun _ _ _ => False, fun _ _ _ => False, fun _ _ _ => False, fun la sa s => zsw (tc2 la [(112, 1), (2, 0), (2, 0), (2, 0), (2, 0), (1, 0), (2, 0), (1, 0), (2, 0), (0, 0), (2, 0), (2, 0)] && tc2 sa []) False (kg125 s (al la 5) (al la 7) (ai la 9))]) (fnil) tab312 pc312 ⟨fun _ _ _ _ H => H.elim, fun _ _ _ _ H => H.elim, fun _ _ _ _ H => H.elim, fun la sa s hg H => zcut H fun H => hk125 s (al la 5) (al la 7) (ai la 9) (zld la 1) (zld la 2) (zld la 3) (zld la 4) (zld la 6) (zld la 8) (zld la 10) (zld la 11) hg H, trivial⟩ hg H
theorem t12_shares_115 : ∀ (n : Nat), ∀ (p : PM) (v5 : Int64) (v7 : Int64) (d1 d2 d3 d4 d6 d8 d9 d10 d11 : ZV), Gr 2 p → g12_shares_115 n p v5 v7 → ZJ 2 312 115 [zR 12 1, d1, d2, d3, d4, zL v5, d6, zL v7, d8, d9, d10, d11] [] p (hwL (v12_shares_115 n p v5 v7)) := by
  intro n
  induction n with
  | zero =>
    intro p v5 v7 d1 d2 d3 d4 d6 d8 d9 d10 d11 hg H
    exact H.elim
  | succ n ih => exact r12_shares_115 (v12_shares_125 (v12_shares_115 n) FU) (g12_shares_125 (g12_shares_115 n) FU) (t12_shares_125 (v12_shares_115 n) (g12_shares_115 n) ih FU)
set_option maxRecDepth 100000 in
theorem r12_shares_47 (kv47 : PM → Int64 → Int64 → Int64 → Int64 → Int32 → Int64 × PM) (kg47 : PM → Int64 → Int64 → Int64 → Int64 → Int32 → Prop) (hk47 : ∀ (p : PM) (v1 : Int64) (v3 : Int64) (v5 : Int64) (v7 : Int64) (v9 : Int32) (d2 d4 d6 d8 d10 d11 : ZV), Gr 2 p → kg47 p v1 v3 v5 v7 v9 → ZJ 2 312 47 [zR 12 1, zL v1, d2, zL v3, d4, zL v5, d6, zL v7, d8, zI v9, d10, d11] [] p (hwL (kv47 p v1 v3 v5 v7 v9))) (kv115 : PM → Int64 → Int64 → Int64 × PM) (kg115 : PM → Int64 → Int64 → Prop) (hk115 : ∀ (p : PM) (v5 : Int64) (v7 : Int64) (d1 d2 d3 d4 d6 d8 d9 d10 d11 : ZV), Gr 2 p → kg115 p v5 v7 → ZJ 2 312 115 [zR 12 1, d1, d2, d3, d4, zL v5, d6, zL v7, d8, d9, d10, d11] [] p (hwL (kv115 p v5 v7))) : ∀ (p : PM) (v1 : Int64) (v3 : Int64) (v5 : Int64) (v7 : Int64) (v9 : Int32) (d2 d4 d6 d8 d10 d11 : ZV), Gr 2 p → bg12_shares_47 kg47 kg115 p v1 v3 v5 v7 v9 → ZJ 2 312 47 [zR 12 1, zL v1, d2, zL v3, d4, zL v5, d6, zL v7, d8, zI v9, d10, d11] [] p (hwL (bv12_shares_47 kv47 kv115 p v1 v3 v5 v7 v9)) := by
  intro p v1 v3 v5 v7 v9 d2 d4 d6 d8 d10 d11 hg H
  exact rwL (n := 3000) (q := 47) (la := [zR 12 1, zL v1, d2, zL v3, d4, zL v5, d6, zL v7, d8, zI v9, d10, d11]) (sa := []) (ks := [fun _ _ s => (0, s), fun la sa s => kv47 s (al la 1) (al la 3) (al la 5) (al la 7) (ai la 9), fun la sa s => kv115 s (al la 5) (al la 7), fun _ _ s => (0, s)]) (gs := [fun _ _ _ => False, fun la sa s => zsw (tc2 la [(112, 1), (1, 0), (2, 0), (1, 0), (2, 0), (1, 0), (2, 0), (1, 0), (2, 0), (0, 0), (2, 0), (2, 0)] && tc2 sa []) False (kg47 s (al la 1) (al la 3) (al la 5) (al la 7) (ai la 9)), fun la sa s => zsw (tc2 la [(112, 1), (2, 0), (2, 0), (2, 0), (2, 0), (1, 0), (2, 0), (1, 0), (2, 0), (2, 0), (2, 0), (2, 0)] && tc2 sa []) False (kg115 s (al la 5) (al la 7)), fun _ _ _ => False]) (fnil) tab312 pc312 ⟨fun _ _ _ _ H => H.elim, fun la sa s hg H => zcut H fun H => hk47 s (al la 1) (al la 3) (al la 5) (al la 7) (ai la 9) (zld la 2) (zld la 4) (zld la 6) (zld la 8) (zld la 10) (zld la 11) hg H, fun la sa s hg H => zcut H fun H => hk115 s (al la 5) (al la 7) (zld la 1) (zld la 2) (zld la 3) (zld la 4) (zld la 6) (zld la 8) (zld la 9) (zld la 10) (zld la 11) hg H, fun _ _ _ _ H => H.elim, trivial⟩ hg H
theorem t12_shares_47 : ∀ (n : Nat), ∀ (p : PM) (v1 : Int64) (v3 : Int64) (v5 : Int64) (v7 : Int64) (v9 : Int32) (d2 d4 d6 d8 d10 d11 : ZV), Gr 2 p → g12_shares_47 n p v1 v3 v5 v7 v9 → ZJ 2 312 47 [zR 12 1, zL v1, d2, zL v3, d4, zL v5, d6, zL v7, d8, zI v9, d10, d11] [] p (hwL (v12_shares_47 n p v1 v3 v5 v7 v9)) := by
  intro n
  induction n with
  | zero =>
    intro p v1 v3 v5 v7 v9 d2 d4 d6 d8 d10 d11 hg H
    exact H.elim
  | succ n ih => exact r12_shares_47 (v12_shares_47 n) (g12_shares_47 n) ih (v12_shares_115 FU) (g12_shares_115 FU) (t12_shares_115 FU)
set_option maxRecDepth 100000 in
theorem r12_shares_5 (kv5 : PM → Int64 → Int64 → Int32 → Int64 × PM) (kg5 : PM → Int64 → Int64 → Int32 → Prop) (hk5 : ∀ (p : PM) (v1 : Int64) (v3 : Int64) (v5 : Int32) (d2 d4 d6 d7 d8 d9 d10 d11 : ZV), Gr 2 p → kg5 p v1 v3 v5 → ZJ 2 312 5 [zR 12 1, zL v1, d2, zL v3, d4, zI v5, d6, d7, d8, d9, d10, d11] [] p (hwL (kv5 p v1 v3 v5))) (kv47 : PM → Int64 → Int64 → Int64 → Int64 → Int32 → Int64 × PM) (kg47 : PM → Int64 → Int64 → Int64 → Int64 → Int32 → Prop) (hk47 : ∀ (p : PM) (v1 : Int64) (v3 : Int64) (v5 : Int64) (v7 : Int64) (v9 : Int32) (d2 d4 d6 d8 d10 d11 : ZV), Gr 2 p → kg47 p v1 v3 v5 v7 v9 → ZJ 2 312 47 [zR 12 1, zL v1, d2, zL v3, d4, zL v5, d6, zL v7, d8, zI v9, d10, d11] [] p (hwL (kv47 p v1 v3 v5 v7 v9))) : ∀ (p : PM) (v1 : Int64) (v3 : Int64) (v5 : Int32) (d2 d4 d6 d7 d8 d9 d10 d11 : ZV), Gr 2 p → bg12_shares_5 kg5 kg47 p v1 v3 v5 → ZJ 2 312 5 [zR 12 1, zL v1, d2, zL v3, d4, zI v5, d6, d7, d8, d9, d10, d11] [] p (hwL (bv12_shares_5 kv5 kv47 p v1 v3 v5)) := by
  intro p v1 v3 v5 d2 d4 d6 d7 d8 d9 d10 d11 hg H
  exact rwL (n := 3000) (q := 5) (la := [zR 12 1, zL v1, d2, zL v3, d4, zI v5, d6, d7, d8, d9, d10, d11]) (sa := []) (ks := [fun la sa s => kv5 s (al la 1) (al la 3) (ai la 5), fun la sa s => kv47 s (al la 1) (al la 3) (al la 5) (al la 7) (ai la 9), fun _ _ s => (0, s), fun _ _ s => (0, s)]) (gs := [fun la sa s => zsw (tc2 la [(112, 1), (1, 0), (2, 0), (1, 0), (2, 0), (0, 0), (2, 0), (2, 0), (2, 0), (2, 0), (2, 0), (2, 0)] && tc2 sa []) False (kg5 s (al la 1) (al la 3) (ai la 5)), fun la sa s => zsw (tc2 la [(112, 1), (1, 0), (2, 0), (1, 0), (2, 0), (1, 0), (2, 0), (1, 0), (2, 0), (0, 0), (2, 0), (2, 0)] && tc2 sa []) False (kg47 s (al la 1) (al la 3) (al la 5) (al la 7) (ai la 9)), fun _ _ _ => False, fun _ _ _ => False]) (fnil) tab312 pc312 ⟨fun la sa s hg H => zcut H fun H => hk5 s (al la 1) (al la 3) (ai la 5) (zld la 2) (zld la 4) (zld la 6) (zld la 7) (zld la 8) (zld la 9) (zld la 10) (zld la 11) hg H, fun la sa s hg H => zcut H fun H => hk47 s (al la 1) (al la 3) (al la 5) (al la 7) (ai la 9) (zld la 2) (zld la 4) (zld la 6) (zld la 8) (zld la 10) (zld la 11) hg H, fun _ _ _ _ H => H.elim, fun _ _ _ _ H => H.elim, trivial⟩ hg H
theorem t12_shares_5 : ∀ (n : Nat), ∀ (p : PM) (v1 : Int64) (v3 : Int64) (v5 : Int32) (d2 d4 d6 d7 d8 d9 d10 d11 : ZV), Gr 2 p → g12_shares_5 n p v1 v3 v5 → ZJ 2 312 5 [zR 12 1, zL v1, d2, zL v3, d4, zI v5, d6, d7, d8, d9, d10, d11] [] p (hwL (v12_shares_5 n p v1 v3 v5)) := by
  intro n
  induction n with
  | zero =>
    intro p v1 v3 v5 d2 d4 d6 d7 d8 d9 d10 d11 hg H
    exact H.elim
  | succ n ih => exact r12_shares_5 (v12_shares_5 n) (g12_shares_5 n) ih (v12_shares_47 FU) (g12_shares_47 FU) (t12_shares_47 FU)
set_option maxRecDepth 100000 in
theorem r12_shares (kv5 : PM → Int64 → Int64 → Int32 → Int64 × PM) (kg5 : PM → Int64 → Int64 → Int32 → Prop) (hk5 : ∀ (p : PM) (v1 : Int64) (v3 : Int64) (v5 : Int32) (d2 d4 d6 d7 d8 d9 d10 d11 : ZV), Gr 2 p → kg5 p v1 v3 v5 → ZJ 2 312 5 [zR 12 1, zL v1, d2, zL v3, d4, zI v5, d6, d7, d8, d9, d10, d11] [] p (hwL (kv5 p v1 v3 v5))) : ∀ (p : PM) (v1 : Int64), Gr 2 p → bg12_shares kg5 p v1 → ZJ 2 312 0 [zR 12 1, zL v1, zJ, zJ, zJ, zJ, zJ, zJ, zJ, zJ, zJ, zJ] [] p (hwL (bv12_shares kv5 p v1)) := by
  intro p v1  hg H
  exact rwL (n := 3000) (q := 0) (la := [zR 12 1, zL v1, zJ, zJ, zJ, zJ, zJ, zJ, zJ, zJ, zJ, zJ]) (sa := []) (ks := [fun la sa s => kv5 s (al la 1) (al la 3) (ai la 5), fun _ _ s => (0, s), fun _ _ s => (0, s), fun _ _ s => (0, s)]) (gs := [fun la sa s => zsw (tc2 la [(112, 1), (1, 0), (2, 0), (1, 0), (2, 0), (0, 0), (2, 0), (2, 0), (2, 0), (2, 0), (2, 0), (2, 0)] && tc2 sa []) False (kg5 s (al la 1) (al la 3) (ai la 5)), fun _ _ _ => False, fun _ _ _ => False, fun _ _ _ => False]) (fnil) tab312 pc312 ⟨fun la sa s hg H => zcut H fun H => hk5 s (al la 1) (al la 3) (ai la 5) (zld la 2) (zld la 4) (zld la 6) (zld la 7) (zld la 8) (zld la 9) (zld la 10) (zld la 11) hg H, fun _ _ _ _ H => H.elim, fun _ _ _ _ H => H.elim, fun _ _ _ _ H => H.elim, trivial⟩ hg H
theorem t12_shares : ∀ (p : PM) (v1 : Int64), Gr 2 p → g12_shares p v1 → ZJ 2 312 0 [zR 12 1, zL v1, zJ, zJ, zJ, zJ, zJ, zJ, zJ, zJ, zJ, zJ] [] p (hwL (v12_shares p v1)) := r12_shares (v12_shares_5 FU) (g12_shares_5 FU) (t12_shares_5 FU)
def CC312 (F : PM → Int64 → Int64 × PM) (G : PM → Int64 → Prop) : Cal := (312, [15, 1], 2, false, fun as p => (zL (F p (al as 1)).1, (F p (al as 1)).2), fun as p => zsw (tc2 as [(112, 1), (1, 0)]) False (G p (al as 1)))
set_option maxRecDepth 100000 in
theorem okr312 (F : PM → Int64 → Int64 × PM) (G : PM → Int64 → Prop) (h : ∀ (p : PM) (v1 : Int64), Gr 2 p → G p v1 → ZJ 2 312 0 [zR 12 1, zL v1, zJ, zJ, zJ, zJ, zJ, zJ, zJ, zJ, zJ, zJ] [] p (hwL (F p v1))) : CalOK 2 (CC312 F G) := cal_ok (m := 12) (by unfold mL; rw [mX_312]) (fun as p hg H => h p (al as 1) hg H)
theorem ok312 : CalOK 2 (CC312 v12_shares g12_shares) := okr312 v12_shares g12_shares t12_shares
noncomputable def bv12_winner_4 (p : PM) (kv4 : Int32 → Int32 → Int32) (v1 : Int32) (v2 : Int32) : Int32 :=
  if v2 < (cn 4) then (
    if (p.1 15 10 (v2).toNatClampNeg) = 0 then (
      kv4 v1 (v2 + (cn 1)))
    else (
      if v1 < 0 then (
        kv4 v2 (v2 + (cn 1)))
      else (
        if (p.1 13 39 (v1).toNatClampNeg) < (p.1 13 39 (v2).toNatClampNeg) then (
          kv4 v2 (v2 + (cn 1)))
        else (
          kv4 v1 (v2 + (cn 1))))))
  else (
    v1)
noncomputable def v12_winner_4 (p : PM) (n : Nat) : Int32 → Int32 → Int32 := Nat.rec (motive := fun _ => Int32 → Int32 → Int32) (fun _ _ => 0) (fun _ ih => bv12_winner_4 p ih) n
theorem ev12_winner_4 (p : PM) (n : Nat) (v1 : Int32) (v2 : Int32) : v12_winner_4 p (n + 1) v1 v2 = bv12_winner_4 p (v12_winner_4 p n) v1 v2 := rfl
noncomputable def bg12_winner_4 (p : PM) (kg4 : Int32 → Int32 → Prop) (v1 : Int32) (v2 : Int32) : Prop :=
  if v2 < (cn 4) then (
    (inb v2 4) ∧ (
    if (p.1 15 10 (v2).toNatClampNeg) = 0 then (
      kg4 v1 (v2 + (cn 1)))
    else (
      if v1 < 0 then (
        kg4 v2 (v2 + (cn 1)))
      else (
        (inb v2 4) ∧ (
        (inb v1 4) ∧ (
        if (p.1 13 39 (v1).toNatClampNeg) < (p.1 13 39 (v2).toNatClampNeg) then (
          kg4 v2 (v2 + (cn 1)))
        else (
          kg4 v1 (v2 + (cn 1)))))))))
  else (
    True)
noncomputable def g12_winner_4 (p : PM) (n : Nat) : Int32 → Int32 → Prop := Nat.rec (motive := fun _ => Int32 → Int32 → Prop) (fun _ _ => False) (fun _ ih => bg12_winner_4 p ih) n
theorem eg12_winner_4 (p : PM) (n : Nat) (v1 : Int32) (v2 : Int32) : g12_winner_4 p (n + 1) v1 v2 = bg12_winner_4 p (g12_winner_4 p n) v1 v2 := rfl
noncomputable def bv12_winner (p : PM) (kv4 : Int32 → Int32 → Int32) : Int32 :=
  kv4 (cn (-1)) (cn 0)
noncomputable def v12_winner (p : PM) : Int32 := bv12_winner p (v12_winner_4 p FU)
noncomputable def bg12_winner (p : PM) (kg4 : Int32 → Int32 → Prop) : Prop :=
  kg4 (cn (-1)) (cn 0)
noncomputable def g12_winner (p : PM) : Prop := bg12_winner p (g12_winner_4 p FU)
def R313 : List Row := [(0, .iconst (-1), 1, 0, (0, 0, 0, 0, 0, -1)), (1, .istore_n 1, 1, 0, (0, 0, 0, 0, 0, 0)), (2, .iconst 0, 1, 0, (0, 0, 0, 0, 0, 0)), (3, .istore_n 2, 1, 0, (0, 0, 0, 0, 0, 0)), (4, .iload_n 2, 1, 1, (0, 0, 0, 0, 0, 0)), (5, .iconst 4, 1, 0, (0, 0, 0, 0, 0, 4)), (6, .if_icmp .ge 43, 3, 0, (0, 0, 0, 0, 0, 0)), (9, .aload_n 0, 1, 0, (0, 0, 0, 0, 0, 0)), (10, .getfield 156, 3, 0, (12, 55, 18, 2, 10, 0)), (13, .iload_n 2, 1, 0, (0, 0, 0, 0, 0, 0)), (14, .baload, 1, 0, (15, 4, 0, 0, 0, 0)), (15, .ifCond .eq 26, 3, 0, (0, 0, 0, 0, 0, 0)), (18, .iload_n 1, 1, 0, (0, 0, 0, 0, 0, 0)), (19, .ifCond .lt 18, 3, 0, (0, 0, 0, 0, 0, 0)), (22, .aload_n 0, 1, 0, (0, 0, 0, 0, 0, 0)), (23, .getfield 159, 3, 0, (12, 56, 16, 2, 39, 0)), (26, .iload_n 2, 1, 0, (0, 0, 0, 0, 0, 0)), (27, .iaload, 1, 0, (13, 4, 0, 0, 0, 0)), (28, .aload_n 0, 1, 0, (0, 0, 0, 0, 0, 0)), (29, .getfield 159, 3, 0, (12, 56, 16, 2, 39, 0)), (32, .iload_n 1, 1, 0, (0, 0, 0, 0, 0, 0)), (33, .iaload, 1, 0, (13, 4, 0, 0, 0, 0)), (34, .if_icmp .le 7, 3, 0, (0, 0, 0, 0, 0, 0)), (37, .iload_n 2, 1, 0, (0, 0, 0, 0, 0, 0)), (38, .goto 4, 3, 0, (0, 0, 0, 0, 0, 0)), (41, .iload_n 1, 1, 0, (0, 0, 0, 0, 0, 0)), (42, .istore_n 1, 1, 0, (0, 0, 0, 0, 0, 0)), (43, .iinc 2 1, 3, 0, (0, 0, 0, 0, 0, 1)), (46, .goto (-42), 3, 0, (0, 0, 0, 0, 0, 0)), (49, .iload_n 1, 1, 0, (0, 0, 0, 0, 0, 0)), (50, .ireturn, 1, 0, (0, 0, 0, 0, 0, 0))]
set_option maxRecDepth 100000 in
theorem rk313 : R313.all (rok 2 313 1 []) = true := by decide +kernel
set_option maxRecDepth 100000 in
theorem tab313 : TabOK 2 313 1 [] R313 := tab_ok (K := K313) rfl rfl (fun h => d313 h) rk313 (by decide +kernel)
set_option maxRecDepth 100000 in
theorem pc313 : cutpc [4] R313 = true := by decide +kernel
set_option maxRecDepth 100000 in
theorem r12_winner_4 (p : PM) (hg : Gr 2 p) (kv4 : Int32 → Int32 → Int32) (kg4 : Int32 → Int32 → Prop) (hk4 : ∀ (v1 : Int32) (v2 : Int32), kg4 v1 v2 → ZJ 2 313 4 [zR 12 1, zI v1, zI v2] [] p (hoI p (kv4 v1 v2))) : ∀ (v1 : Int32) (v2 : Int32), bg12_winner_4 p kg4 v1 v2 → ZJ 2 313 4 [zR 12 1, zI v1, zI v2] [] p (hoI p (bv12_winner_4 p kv4 v1 v2)) := by
  intro v1 v2  H
  exact roI (n := 3000) (q := 4) (la := [zR 12 1, zI v1, zI v2]) (sa := []) (ks := [fun la sa _ => kv4 (ai la 1) (ai la 2)]) (gs := [fun la sa _ => zsw (tc2 la [(112, 1), (0, 0), (0, 0)] && tc2 sa []) False (kg4 (ai la 1) (ai la 2))]) (fnil) tab313 pc313 ⟨fun la sa s hg H => zcut H fun H => hk4 (ai la 1) (ai la 2) H, trivial⟩ hg H
theorem t12_winner_4 (p : PM) (hg : Gr 2 p) : ∀ (n : Nat), ∀ (v1 : Int32) (v2 : Int32), g12_winner_4 p n v1 v2 → ZJ 2 313 4 [zR 12 1, zI v1, zI v2] [] p (hoI p (v12_winner_4 p n v1 v2)) := by
  intro n
  induction n with
  | zero =>
    intro v1 v2  H
    exact H.elim
  | succ n ih => exact r12_winner_4 p hg (v12_winner_4 p n) (g12_winner_4 p n) ih
set_option maxRecDepth 100000 in
theorem r12_winner (p : PM) (hg : Gr 2 p) (kv4 : Int32 → Int32 → Int32) (kg4 : Int32 → Int32 → Prop) (hk4 : ∀ (v1 : Int32) (v2 : Int32), kg4 v1 v2 → ZJ 2 313 4 [zR 12 1, zI v1, zI v2] [] p (hoI p (kv4 v1 v2))) : bg12_winner p kg4 → ZJ 2 313 0 [zR 12 1, zJ, zJ] [] p (hoI p (bv12_winner p kv4)) := by
  intro   H
  exact roI (n := 3000) (q := 0) (la := [zR 12 1, zJ, zJ]) (sa := []) (ks := [fun la sa _ => kv4 (ai la 1) (ai la 2)]) (gs := [fun la sa _ => zsw (tc2 la [(112, 1), (0, 0), (0, 0)] && tc2 sa []) False (kg4 (ai la 1) (ai la 2))]) (fnil) tab313 pc313 ⟨fun la sa s hg H => zcut H fun H => hk4 (ai la 1) (ai la 2) H, trivial⟩ hg H
theorem t12_winner (p : PM) (hg : Gr 2 p) : g12_winner p → ZJ 2 313 0 [zR 12 1, zJ, zJ] [] p (hoI p (v12_winner p)) := r12_winner p hg (v12_winner_4 p FU) (g12_winner_4 p FU) (t12_winner_4 p hg FU)
def CC313 (F : PM → Int32) (G : PM → Prop) : Cal := (313, [15], 1, true, fun as p => (zI (F p ), p), fun as p => zsw (tc2 as [(112, 1)]) False (G p ))
set_option maxRecDepth 100000 in
theorem okr313 (F : PM → Int32) (G : PM → Prop) (h : ∀ (p : PM), Gr 2 p → G p  → ZJ 2 313 0 [zR 12 1, zJ, zJ] [] p (hoI p (F p ))) : CalOK 2 (CC313 F G) := cal_ok (m := 3) (by unfold mL; rw [mX_313]) (fun as p hg H => h p  hg H)
theorem ok313 : CalOK 2 (CC313 v12_winner g12_winner) := okr313 v12_winner g12_winner (fun p  hg H => t12_winner p hg  H)
noncomputable def bv12_covers (p : PM) (v1 : Int32) (v2 : Int64) (v4 : Int32) : PM :=
  if 0 < (lg_cmp v2 (cl 0)) then (
    let p5 : PM := pI p 12 1 68 v1
    let p6 : PM := pJ p5 14 1 (((cn 2) * v4)).toNatClampNeg ((p5.2.1 14 1 (((cn 2) * v4)).toNatClampNeg) + v2)
    if 0 < (lg_cmp (p6.2.1 12 1 69) v2) then (
      let p8 : PM := pJ p6 12 1 69 ((p6.2.1 12 1 69) - v2)
      p8)
    else (
      let p7 : PM := pJ p6 12 1 69 (cl 0)
      p7))
  else (
    let p1 : PM := pI p 12 1 68 (p.1 12 1 68)
    let p2 : PM := pJ p1 14 1 (((cn 2) * v4)).toNatClampNeg ((p1.2.1 14 1 (((cn 2) * v4)).toNatClampNeg) + v2)
    if 0 < (lg_cmp (p2.2.1 12 1 69) v2) then (
      let p4 : PM := pJ p2 12 1 69 ((p2.2.1 12 1 69) - v2)
      p4)
    else (
      let p3 : PM := pJ p2 12 1 69 (cl 0)
      p3))
noncomputable def v12_covers (p : PM) (v1 : Int32) (v2 : Int64) (v4 : Int32) : PM := bv12_covers p v1 v2 v4
noncomputable def bg12_covers (p : PM) (v1 : Int32) (v2 : Int64) (v4 : Int32) : Prop :=
  if 0 < (lg_cmp v2 (cl 0)) then (
    let p5 : PM := pI p 12 1 68 v1
    (inb ((cn 2) * v4) 9) ∧ (
    (inb ((cn 2) * v4) 9) ∧ (
    let p6 : PM := pJ p5 14 1 (((cn 2) * v4)).toNatClampNeg ((p5.2.1 14 1 (((cn 2) * v4)).toNatClampNeg) + v2)
    if 0 < (lg_cmp (p6.2.1 12 1 69) v2) then (
      let p8 : PM := pJ p6 12 1 69 ((p6.2.1 12 1 69) - v2)
      True)
    else (
      let p7 : PM := pJ p6 12 1 69 (cl 0)
      True))))
  else (
    let p1 : PM := pI p 12 1 68 (p.1 12 1 68)
    (inb ((cn 2) * v4) 9) ∧ (
    (inb ((cn 2) * v4) 9) ∧ (
    let p2 : PM := pJ p1 14 1 (((cn 2) * v4)).toNatClampNeg ((p1.2.1 14 1 (((cn 2) * v4)).toNatClampNeg) + v2)
    if 0 < (lg_cmp (p2.2.1 12 1 69) v2) then (
      let p4 : PM := pJ p2 12 1 69 ((p2.2.1 12 1 69) - v2)
      True)
    else (
      let p3 : PM := pJ p2 12 1 69 (cl 0)
      True))))
noncomputable def g12_covers (p : PM) (v1 : Int32) (v2 : Int64) (v4 : Int32) : Prop := bg12_covers p v1 v2 v4
def R314 : List Row := [(0, .aload_n 0, 1, 0, (0, 0, 0, 0, 0, 0)), (1, .lload_n 2, 1, 0, (0, 0, 0, 0, 0, 0)), (2, .lconst 0, 1, 0, (0, 0, 0, 0, 0, 0)), (3, .lcmp, 1, 0, (0, 0, 0, 0, 0, 0)), (4, .ifCond .le 7, 3, 0, (0, 0, 0, 0, 0, 0)), (7, .iload_n 1, 1, 0, (0, 0, 0, 0, 0, 0)), (8, .goto 7, 3, 0, (0, 0, 0, 0, 0, 0)), (11, .aload_n 0, 1, 0, (0, 0, 0, 0, 0, 0)), (12, .getfield 482, 3, 0, (12, 68, 0, 1, 0, 0)), (15, .putfield 482, 3, 0, (12, 68, 0, 1, 0, 0)), (18, .aload_n 0, 1, 0, (0, 0, 0, 0, 0, 0)), (19, .getfield 13, 3, 0, (12, 2, 17, 2, 1, 0)), (22, .iconst 2, 1, 0, (0, 0, 0, 0, 0, 2)), (23, .iload 4, 2, 0, (0, 0, 0, 0, 0, 0)), (25, .imul, 1, 0, (0, 0, 0, 0, 0, 0)), (26, .dup2, 1, 0, (0, 0, 0, 0, 0, 0)), (27, .laload, 1, 0, (14, 9, 0, 0, 0, 0)), (28, .lload_n 2, 1, 0, (0, 0, 0, 0, 0, 0)), (29, .ladd, 1, 0, (0, 0, 0, 0, 0, 0)), (30, .lastore, 1, 0, (14, 9, 0, 0, 0, 0)), (31, .aload_n 0, 1, 0, (0, 0, 0, 0, 0, 0)), (32, .aload_n 0, 1, 0, (0, 0, 0, 0, 0, 0)), (33, .getfield 485, 3, 0, (12, 69, 2, 1, 0, 0)), (36, .lload_n 2, 1, 0, (0, 0, 0, 0, 0, 0)), (37, .lcmp, 1, 0, (0, 0, 0, 0, 0, 0)), (38, .ifCond .le 12, 3, 0, (0, 0, 0, 0, 0, 0)), (41, .aload_n 0, 1, 0, (0, 0, 0, 0, 0, 0)), (42, .getfield 485, 3, 0, (12, 69, 2, 1, 0, 0)), (45, .lload_n 2, 1, 0, (0, 0, 0, 0, 0, 0)), (46, .lsub, 1, 0, (0, 0, 0, 0, 0, 0)), (47, .goto 4, 3, 0, (0, 0, 0, 0, 0, 0)), (50, .lconst 0, 1, 0, (0, 0, 0, 0, 0, 0)), (51, .putfield 485, 3, 0, (12, 69, 2, 1, 0, 0)), (54, .return_, 1, 0, (0, 0, 0, 0, 0, 0))]
set_option maxRecDepth 100000 in
theorem rk314 : R314.all (rok 2 314 0 []) = true := by decide +kernel
set_option maxRecDepth 100000 in
theorem tab314 : TabOK 2 314 0 [] R314 := tab_ok (K := K314) rfl rfl (fun h => d314 h) rk314 (by decide +kernel)
set_option maxRecDepth 100000 in
theorem pc314 : cutpc [] R314 = true := by decide +kernel
set_option maxRecDepth 100000 in
theorem r12_covers : ∀ (p : PM) (v1 : Int32) (v2 : Int64) (v4 : Int32), Gr 2 p → bg12_covers p v1 v2 v4 → ZJ 2 314 0 [zR 12 1, zI v1, zL v2, zJ, zI v4] [] p (hwV (bv12_covers p v1 v2 v4)) := by
  intro p v1 v2 v4  hg H
  exact rwV (n := 3000) (q := 0) (la := [zR 12 1, zI v1, zL v2, zJ, zI v4]) (sa := []) (ks := []) (gs := []) (fnil) tab314 pc314 trivial hg H
theorem t12_covers : ∀ (p : PM) (v1 : Int32) (v2 : Int64) (v4 : Int32), Gr 2 p → g12_covers p v1 v2 v4 → ZJ 2 314 0 [zR 12 1, zI v1, zL v2, zJ, zI v4] [] p (hwV (v12_covers p v1 v2 v4)) := r12_covers
def CC314 (F : PM → Int32 → Int64 → Int32 → PM) (G : PM → Int32 → Int64 → Int32 → Prop) : Cal := (314, [15, 0, 1, 0], 0, false, fun as p => (zJ, (F p (ai as 1) (al as 2) (ai as 3))), fun as p => zsw (tc2 as [(112, 1), (0, 0), (1, 0), (0, 0)]) False (G p (ai as 1) (al as 2) (ai as 3)))
set_option maxRecDepth 100000 in
theorem okr314 (F : PM → Int32 → Int64 → Int32 → PM) (G : PM → Int32 → Int64 → Int32 → Prop) (h : ∀ (p : PM) (v1 : Int32) (v2 : Int64) (v4 : Int32), Gr 2 p → G p v1 v2 v4 → ZJ 2 314 0 [zR 12 1, zI v1, zL v2, zJ, zI v4] [] p (hwV (F p v1 v2 v4))) : CalOK 2 (CC314 F G) := cal_ok (m := 5) (by unfold mL; rw [mX_314]) (fun as p hg H => h p (ai as 1) (al as 2) (ai as 3) hg H)
theorem ok314 : CalOK 2 (CC314 v12_covers g12_covers) := okr314 v12_covers g12_covers t12_covers
noncomputable def bv12_upTo (p : PM) (v1 : Int64) : Int64 :=
  if (lg_cmp v1 (p.2.1 12 1 69)) < 0 then (
    v1)
  else (
    (p.2.1 12 1 69))
noncomputable def v12_upTo (p : PM) (v1 : Int64) : Int64 := bv12_upTo p v1
noncomputable def bg12_upTo (p : PM) (v1 : Int64) : Prop :=
  if (lg_cmp v1 (p.2.1 12 1 69)) < 0 then (
    True)
  else (
    True)
noncomputable def g12_upTo (p : PM) (v1 : Int64) : Prop := bg12_upTo p v1
def R315 : List Row := [(0, .lload_n 1, 1, 0, (0, 0, 0, 0, 0, 0)), (1, .aload_n 0, 1, 0, (0, 0, 0, 0, 0, 0)), (2, .getfield 485, 3, 0, (12, 69, 2, 1, 0, 0)), (5, .lcmp, 1, 0, (0, 0, 0, 0, 0, 0)), (6, .ifCond .ge 7, 3, 0, (0, 0, 0, 0, 0, 0)), (9, .lload_n 1, 1, 0, (0, 0, 0, 0, 0, 0)), (10, .goto 7, 3, 0, (0, 0, 0, 0, 0, 0)), (13, .aload_n 0, 1, 0, (0, 0, 0, 0, 0, 0)), (14, .getfield 485, 3, 0, (12, 69, 2, 1, 0, 0)), (17, .lreturn, 1, 0, (0, 0, 0, 0, 0, 0))]
set_option maxRecDepth 100000 in
theorem rk315 : R315.all (rok 2 315 2 []) = true := by decide +kernel
set_option maxRecDepth 100000 in
theorem tab315 : TabOK 2 315 2 [] R315 := tab_ok (K := K315) rfl rfl (fun h => d315 h) rk315 (by decide +kernel)
set_option maxRecDepth 100000 in
theorem pc315 : cutpc [] R315 = true := by decide +kernel
set_option maxRecDepth 100000 in
theorem r12_upTo (p : PM) (hg : Gr 2 p) : ∀ (v1 : Int64), bg12_upTo p v1 → ZJ 2 315 0 [zR 12 1, zL v1, zJ] [] p (hoL p (bv12_upTo p v1)) := by
  intro v1  H
  exact roL (n := 3000) (q := 0) (la := [zR 12 1, zL v1, zJ]) (sa := []) (ks := []) (gs := []) (fnil) tab315 pc315 trivial hg H
theorem t12_upTo (p : PM) (hg : Gr 2 p) : ∀ (v1 : Int64), g12_upTo p v1 → ZJ 2 315 0 [zR 12 1, zL v1, zJ] [] p (hoL p (v12_upTo p v1)) := r12_upTo p hg
def CC315 (F : PM → Int64 → Int64) (G : PM → Int64 → Prop) : Cal := (315, [15, 1], 2, true, fun as p => (zL (F p (al as 1)), p), fun as p => zsw (tc2 as [(112, 1), (1, 0)]) False (G p (al as 1)))
set_option maxRecDepth 100000 in
theorem okr315 (F : PM → Int64 → Int64) (G : PM → Int64 → Prop) (h : ∀ (p : PM) (v1 : Int64), Gr 2 p → G p v1 → ZJ 2 315 0 [zR 12 1, zL v1, zJ] [] p (hoL p (F p v1))) : CalOK 2 (CC315 F G) := cal_ok (m := 3) (by unfold mL; rw [mX_315]) (fun as p hg H => h p (al as 1) hg H)
theorem ok315 : CalOK 2 (CC315 v12_upTo g12_upTo) := okr315 v12_upTo g12_upTo (fun p v1 hg H => t12_upTo p hg v1 H)
noncomputable def bv12_coversByFunds_103 (F314 : PM → Int32 → Int64 → Int32 → PM) (kv103 : PM → Int32 → Int32 → Int64 → Int32 → PM) (p : PM) (v1 : Int32) (v3 : Int32) (v4 : Int64) (v6 : Int32) : PM :=
  if v6 < (cn 4) then (
    let p3 : PM := pI p 13 38 (v6).toNatClampNeg ((p.1 13 38 (v6).toNatClampNeg) - ((p.2.1 14 3 (v6).toNatClampNeg)).toInt32)
    kv103 p3 v1 v3 v4 (v6 + (cn 1)))
  else (
    if v3 = 0 then (
      let p1 : PM := F314 p (cn 6) v4 v1
      p1)
    else (
      let p2 : PM := F314 p (cn 5) v4 v1
      p2))
noncomputable def v12_coversByFunds_103 (n : Nat) : PM → Int32 → Int32 → Int64 → Int32 → PM := Nat.rec (motive := fun _ => PM → Int32 → Int32 → Int64 → Int32 → PM) (fun p _ _ _ _ => p) (fun _ ih => bv12_coversByFunds_103 v12_covers ih) n
theorem ev12_coversByFunds_103 (n : Nat) (p : PM) (v1 : Int32) (v3 : Int32) (v4 : Int64) (v6 : Int32) : v12_coversByFunds_103 (n + 1) p v1 v3 v4 v6 = bv12_coversByFunds_103 v12_covers (v12_coversByFunds_103 n) p v1 v3 v4 v6 := rfl
noncomputable def bg12_coversByFunds_103 (F314 : PM → Int32 → Int64 → Int32 → PM) (G314 : PM → Int32 → Int64 → Int32 → Prop) (kg103 : PM → Int32 → Int32 → Int64 → Int32 → Prop) (p : PM) (v1 : Int32) (v3 : Int32) (v4 : Int64) (v6 : Int32) : Prop :=
  if v6 < (cn 4) then (
    (inb v6 4) ∧ (
    (inb v6 4) ∧ (
    (inb v6 4) ∧ (
    let p3 : PM := pI p 13 38 (v6).toNatClampNeg ((p.1 13 38 (v6).toNatClampNeg) - ((p.2.1 14 3 (v6).toNatClampNeg)).toInt32)
    kg103 p3 v1 v3 v4 (v6 + (cn 1))))))
  else (
    if v3 = 0 then (
      (G314 p (cn 6) v4 v1) ∧ (
      let p1 : PM := F314 p (cn 6) v4 v1
      True))
    else (
      (G314 p (cn 5) v4 v1) ∧ (
      let p2 : PM := F314 p (cn 5) v4 v1
      True)))
noncomputable def g12_coversByFunds_103 (n : Nat) : PM → Int32 → Int32 → Int64 → Int32 → Prop := Nat.rec (motive := fun _ => PM → Int32 → Int32 → Int64 → Int32 → Prop) (fun _ _ _ _ _ => False) (fun _ ih => bg12_coversByFunds_103 v12_covers g12_covers ih) n
theorem eg12_coversByFunds_103 (n : Nat) (p : PM) (v1 : Int32) (v3 : Int32) (v4 : Int64) (v6 : Int32) : g12_coversByFunds_103 (n + 1) p v1 v3 v4 v6 = bg12_coversByFunds_103 v12_covers g12_covers (g12_coversByFunds_103 n) p v1 v3 v4 v6 := rfl
noncomputable def bv12_coversByFunds_3 (F312 : PM → Int64 → Int64 × PM) (kv3 : PM → Int32 → Int32 → Int32 → Int32 → PM) (kv103 : PM → Int32 → Int32 → Int64 → Int32 → PM) (p : PM) (v1 : Int32) (v2 : Int32) (v3 : Int32) (v4 : Int32) : PM :=
  if v4 < (cn 4) then (
    if (p.1 15 10 (v4).toNatClampNeg) = 0 then (
      if (p.1 15 9 (v4).toNatClampNeg) = 0 then (
        if (cn 1) = v3 then (
          let p4 : PM := pJ p 14 2 (v4).toNatClampNeg ((p.1 13 38 (v4).toNatClampNeg)).toInt64
          kv3 p4 v1 v2 v3 (v4 + (cn 1)))
        else (
          let p3 : PM := pJ p 14 2 (v4).toNatClampNeg (cl 0)
          kv3 p3 v1 v2 v3 (v4 + (cn 1))))
      else (
        let p2 : PM := pJ p 14 2 (v4).toNatClampNeg (cl 0)
        kv3 p2 v1 v2 v3 (v4 + (cn 1))))
    else (
      if v2 < 0 then (
        if (p.1 15 9 (v4).toNatClampNeg) = 0 then (
          if (cn 0) = v3 then (
            let p7 : PM := pJ p 14 2 (v4).toNatClampNeg ((p.1 13 38 (v4).toNatClampNeg)).toInt64
            kv3 p7 v1 v2 v3 (v4 + (cn 1)))
          else (
            let p6 : PM := pJ p 14 2 (v4).toNatClampNeg (cl 0)
            kv3 p6 v1 v2 v3 (v4 + (cn 1))))
        else (
          let p5 : PM := pJ p 14 2 (v4).toNatClampNeg (cl 0)
          kv3 p5 v1 v2 v3 (v4 + (cn 1))))
      else (
        if (p.1 13 39 (v4).toNatClampNeg) < ((p.1 13 39 (v2).toNatClampNeg) - (cn 100)) then (
          if (p.1 15 9 (v4).toNatClampNeg) = 0 then (
            if (cn 1) = v3 then (
              let p13 : PM := pJ p 14 2 (v4).toNatClampNeg ((p.1 13 38 (v4).toNatClampNeg)).toInt64
              kv3 p13 v1 v2 v3 (v4 + (cn 1)))
            else (
              let p12 : PM := pJ p 14 2 (v4).toNatClampNeg (cl 0)
              kv3 p12 v1 v2 v3 (v4 + (cn 1))))
          else (
            let p11 : PM := pJ p 14 2 (v4).toNatClampNeg (cl 0)
            kv3 p11 v1 v2 v3 (v4 + (cn 1))))
        else (
          if (p.1 15 9 (v4).toNatClampNeg) = 0 then (
            if (cn 0) = v3 then (
              let p10 : PM := pJ p 14 2 (v4).toNatClampNeg ((p.1 13 38 (v4).toNatClampNeg)).toInt64
              kv3 p10 v1 v2 v3 (v4 + (cn 1)))
            else (
              let p9 : PM := pJ p 14 2 (v4).toNatClampNeg (cl 0)
              kv3 p9 v1 v2 v3 (v4 + (cn 1))))
          else (
            let p8 : PM := pJ p 14 2 (v4).toNatClampNeg (cl 0)
            kv3 p8 v1 v2 v3 (v4 + (cn 1)))))))
  else (
    let r1 : Int64 × PM := F312 p (p.2.1 12 1 69)
    kv103 r1.2 v1 v3 r1.1 (cn 0))
noncomputable def v12_coversByFunds_3 (n : Nat) : PM → Int32 → Int32 → Int32 → Int32 → PM := Nat.rec (motive := fun _ => PM → Int32 → Int32 → Int32 → Int32 → PM) (fun p _ _ _ _ => p) (fun _ ih => bv12_coversByFunds_3 v12_shares ih (v12_coversByFunds_103 FU)) n
theorem ev12_coversByFunds_3 (n : Nat) (p : PM) (v1 : Int32) (v2 : Int32) (v3 : Int32) (v4 : Int32) : v12_coversByFunds_3 (n + 1) p v1 v2 v3 v4 = bv12_coversByFunds_3 v12_shares (v12_coversByFunds_3 n) (v12_coversByFunds_103 FU) p v1 v2 v3 v4 := rfl
noncomputable def bg12_coversByFunds_3 (F312 : PM → Int64 → Int64 × PM) (G312 : PM → Int64 → Prop) (kg3 : PM → Int32 → Int32 → Int32 → Int32 → Prop) (kg103 : PM → Int32 → Int32 → Int64 → Int32 → Prop) (p : PM) (v1 : Int32) (v2 : Int32) (v3 : Int32) (v4 : Int32) : Prop :=
  if v4 < (cn 4) then (
    (inb v4 4) ∧ (
    if (p.1 15 10 (v4).toNatClampNeg) = 0 then (
      (inb v4 4) ∧ (
      if (p.1 15 9 (v4).toNatClampNeg) = 0 then (
        if (cn 1) = v3 then (
          (inb v4 4) ∧ (
          (inb v4 4) ∧ (
          let p4 : PM := pJ p 14 2 (v4).toNatClampNeg ((p.1 13 38 (v4).toNatClampNeg)).toInt64
          kg3 p4 v1 v2 v3 (v4 + (cn 1)))))
        else (
          (inb v4 4) ∧ (
          let p3 : PM := pJ p 14 2 (v4).toNatClampNeg (cl 0)
          kg3 p3 v1 v2 v3 (v4 + (cn 1)))))
      else (
        (inb v4 4) ∧ (
        let p2 : PM := pJ p 14 2 (v4).toNatClampNeg (cl 0)
        kg3 p2 v1 v2 v3 (v4 + (cn 1))))))
    else (
      if v2 < 0 then (
        (inb v4 4) ∧ (
        if (p.1 15 9 (v4).toNatClampNeg) = 0 then (
          if (cn 0) = v3 then (
            (inb v4 4) ∧ (
            (inb v4 4) ∧ (
            let p7 : PM := pJ p 14 2 (v4).toNatClampNeg ((p.1 13 38 (v4).toNatClampNeg)).toInt64
            kg3 p7 v1 v2 v3 (v4 + (cn 1)))))
          else (
            (inb v4 4) ∧ (
            let p6 : PM := pJ p 14 2 (v4).toNatClampNeg (cl 0)
            kg3 p6 v1 v2 v3 (v4 + (cn 1)))))
        else (
          (inb v4 4) ∧ (
          let p5 : PM := pJ p 14 2 (v4).toNatClampNeg (cl 0)
          kg3 p5 v1 v2 v3 (v4 + (cn 1))))))
      else (
        (inb v4 4) ∧ (
        (inb v2 4) ∧ (
        if (p.1 13 39 (v4).toNatClampNeg) < ((p.1 13 39 (v2).toNatClampNeg) - (cn 100)) then (
          (inb v4 4) ∧ (
          if (p.1 15 9 (v4).toNatClampNeg) = 0 then (
            if (cn 1) = v3 then (
              (inb v4 4) ∧ (
              (inb v4 4) ∧ (
              let p13 : PM := pJ p 14 2 (v4).toNatClampNeg ((p.1 13 38 (v4).toNatClampNeg)).toInt64
              kg3 p13 v1 v2 v3 (v4 + (cn 1)))))
            else (
              (inb v4 4) ∧ (
              let p12 : PM := pJ p 14 2 (v4).toNatClampNeg (cl 0)
              kg3 p12 v1 v2 v3 (v4 + (cn 1)))))
          else (
            (inb v4 4) ∧ (
            let p11 : PM := pJ p 14 2 (v4).toNatClampNeg (cl 0)
            kg3 p11 v1 v2 v3 (v4 + (cn 1))))))
        else (
          (inb v4 4) ∧ (
          if (p.1 15 9 (v4).toNatClampNeg) = 0 then (
            if (cn 0) = v3 then (
              (inb v4 4) ∧ (
              (inb v4 4) ∧ (
              let p10 : PM := pJ p 14 2 (v4).toNatClampNeg ((p.1 13 38 (v4).toNatClampNeg)).toInt64
              kg3 p10 v1 v2 v3 (v4 + (cn 1)))))
            else (
              (inb v4 4) ∧ (
              let p9 : PM := pJ p 14 2 (v4).toNatClampNeg (cl 0)
              kg3 p9 v1 v2 v3 (v4 + (cn 1)))))
          else (
            (inb v4 4) ∧ (
            let p8 : PM := pJ p 14 2 (v4).toNatClampNeg (cl 0)
            kg3 p8 v1 v2 v3 (v4 + (cn 1))))))))))))
  else (
    (G312 p (p.2.1 12 1 69)) ∧ (
    let r1 : Int64 × PM := F312 p (p.2.1 12 1 69)
    kg103 r1.2 v1 v3 r1.1 (cn 0)))
noncomputable def g12_coversByFunds_3 (n : Nat) : PM → Int32 → Int32 → Int32 → Int32 → Prop := Nat.rec (motive := fun _ => PM → Int32 → Int32 → Int32 → Int32 → Prop) (fun _ _ _ _ _ => False) (fun _ ih => bg12_coversByFunds_3 v12_shares g12_shares ih (g12_coversByFunds_103 FU)) n
theorem eg12_coversByFunds_3 (n : Nat) (p : PM) (v1 : Int32) (v2 : Int32) (v3 : Int32) (v4 : Int32) : g12_coversByFunds_3 (n + 1) p v1 v2 v3 v4 = bg12_coversByFunds_3 v12_shares g12_shares (g12_coversByFunds_3 n) (g12_coversByFunds_103 FU) p v1 v2 v3 v4 := rfl
noncomputable def bv12_coversByFunds (kv3 : PM → Int32 → Int32 → Int32 → Int32 → PM) (p : PM) (v1 : Int32) (v2 : Int32) (v3 : Int32) : PM :=
  kv3 p v1 v2 v3 (cn 0)
noncomputable def v12_coversByFunds (p : PM) (v1 : Int32) (v2 : Int32) (v3 : Int32) : PM := bv12_coversByFunds (v12_coversByFunds_3 FU) p v1 v2 v3
noncomputable def bg12_coversByFunds (kg3 : PM → Int32 → Int32 → Int32 → Int32 → Prop) (p : PM) (v1 : Int32) (v2 : Int32) (v3 : Int32) : Prop :=
  kg3 p v1 v2 v3 (cn 0)
noncomputable def g12_coversByFunds (p : PM) (v1 : Int32) (v2 : Int32) (v3 : Int32) : Prop := bg12_coversByFunds (g12_coversByFunds_3 FU) p v1 v2 v3
def R318 : List Row := [(0, .iconst 0, 1, 0, (0, 0, 0, 0, 0, 0)), (1, .istore 4, 2, 0, (0, 0, 0, 0, 0, 0)), (3, .iload 4, 2, 1, (0, 0, 0, 0, 0, 0)), (5, .iconst 4, 1, 0, (0, 0, 0, 0, 0, 4)), (6, .if_icmp .ge 84, 3, 0, (0, 0, 0, 0, 0, 0)), (9, .aload_n 0, 1, 0, (0, 0, 0, 0, 0, 0)), (10, .getfield 156, 3, 0, (12, 55, 18, 2, 10, 0)), (13, .iload 4, 2, 0, (0, 0, 0, 0, 0, 0)), (15, .baload, 1, 0, (15, 4, 0, 0, 0, 0)), (16, .ifCond .eq 26, 3, 0, (0, 0, 0, 0, 0, 0)), (19, .iload_n 2, 1, 0, (0, 0, 0, 0, 0, 0)), (20, .ifCond .lt 26, 3, 0, (0, 0, 0, 0, 0, 0)), (23, .aload_n 0, 1, 0, (0, 0, 0, 0, 0, 0)), (24, .getfield 159, 3, 0, (12, 56, 16, 2, 39, 0)), (27, .iload 4, 2, 0, (0, 0, 0, 0, 0, 0)), (29, .iaload, 1, 0, (13, 4, 0, 0, 0, 0)), (30, .aload_n 0, 1, 0, (0, 0, 0, 0, 0, 0)), (31, .getfield 159, 3, 0, (12, 56, 16, 2, 39, 0)), (34, .iload_n 2, 1, 0, (0, 0, 0, 0, 0, 0)), (35, .iaload, 1, 0, (13, 4, 0, 0, 0, 0)), (36, .bipush 100, 2, 0, (0, 0, 0, 0, 0, 100)), (38, .isub, 1, 0, (0, 0, 0, 0, 0, 0)), (39, .if_icmp .ge 7, 3, 0, (0, 0, 0, 0, 0, 0)), (42, .iconst 1, 1, 0, (0, 0, 0, 0, 0, 1)), (43, .goto 4, 3, 0, (0, 0, 0, 0, 0, 0)), (46, .iconst 0, 1, 0, (0, 0, 0, 0, 0, 0)), (47, .istore 5, 2, 0, (0, 0, 0, 0, 0, 0)), (49, .aload_n 0, 1, 0, (0, 0, 0, 0, 0, 0)), (50, .getfield 171, 3, 0, (12, 66, 17, 2, 2, 0)), (53, .iload 4, 2, 0, (0, 0, 0, 0, 0, 0)), (55, .aload_n 0, 1, 0, (0, 0, 0, 0, 0, 0)), (56, .getfield 153, 3, 0, (12, 54, 18, 2, 9, 0)), (59, .iload 4, 2, 0, (0, 0, 0, 0, 0, 0)), (61, .baload, 1, 0, (15, 4, 0, 0, 0, 0)), (62, .ifCond .ne 20, 3, 0, (0, 0, 0, 0, 0, 0)), (65, .iload 5, 2, 0, (0, 0, 0, 0, 0, 0)), (67, .iload_n 3, 1, 0, (0, 0, 0, 0, 0, 0)), (68, .if_icmp .ne 14, 3, 0, (0, 0, 0, 0, 0, 0)), (71, .aload_n 0, 1, 0, (0, 0, 0, 0, 0, 0)), (72, .getfield 150, 3, 0, (12, 53, 16, 2, 38, 0)), (75, .iload 4, 2, 0, (0, 0, 0, 0, 0, 0)), (77, .iaload, 1, 0, (13, 4, 0, 0, 0, 0)), (78, .i2l, 1, 0, (0, 0, 0, 0, 0, 0)), (79, .goto 4, 3, 0, (0, 0, 0, 0, 0, 0)), (82, .lconst 0, 1, 0, (0, 0, 0, 0, 0, 0)), (83, .lastore, 1, 0, (14, 4, 0, 0, 0, 0)), (84, .iinc 4 1, 3, 0, (0, 0, 0, 0, 0, 1)), (87, .goto (-84), 3, 0, (0, 0, 0, 0, 0, 0)), (90, .aload_n 0, 1, 0, (0, 0, 0, 0, 0, 0)), (91, .aload_n 0, 1, 0, (0, 0, 0, 0, 0, 0)), (92, .getfield 485, 3, 0, (12, 69, 2, 1, 0, 0)), (95, .invokevirtual 506, 3, 0, (0, 2, 0, 0, 1, 0)), (98, .lstore 4, 2, 0, (0, 0, 0, 0, 0, 0)), (100, .iconst 0, 1, 0, (0, 0, 0, 0, 0, 0)), (101, .istore 6, 2, 0, (0, 0, 0, 0, 0, 0)), (103, .iload 6, 2, 2, (0, 0, 0, 0, 0, 0)), (105, .iconst 4, 1, 0, (0, 0, 0, 0, 0, 4)), (106, .if_icmp .ge 27, 3, 0, (0, 0, 0, 0, 0, 0)), (109, .aload_n 0, 1, 0, (0, 0, 0, 0, 0, 0)), (110, .getfield 150, 3, 0, (12, 53, 16, 2, 38, 0)), (113, .iload 6, 2, 0, (0, 0, 0, 0, 0, 0)), (115, .dup2, 1, 0, (0, 0, 0, 0, 0, 0)), (116, .iaload, 1, 0, (13, 4, 0, 0, 0, 0)), (117, .aload_n 0, 1, 0, (0, 0, 0, 0, 0, 0)), (118, .getfield 174, 3, 0, (12, 67, 17, 2, 3, 0)), (121, .iload 6, 2, 0, (0, 0, 0, 0, 0, 0)), (123, .laload, 1, 0, (14, 4, 0, 0, 0, 0)), (124, .l2i, 1, 0, (0, 0, 0, 0, 0, 0)), (125, .isub, 1, 0, (0, 0, 0, 0, 0, 0)), (126, .iastore, 1, 0, (13, 4, 0, 0, 0, 0)), (127, .iinc 6 1, 3, 0, (0, 0, 0, 0, 0, 1)), (130, .goto (-27), 3, 0, (0, 0, 0, 0, 0, 0)), (133, .aload_n 0, 1, 0, (0, 0, 0, 0, 0, 0)), (134, .iload_n 3, 1, 0, (0, 0, 0, 0, 0, 0)), (135, .ifCond .eq 7, 3, 0, (0, 0, 0, 0, 0, 0)), (138, .iconst 5, 1, 0, (0, 0, 0, 0, 0, 5)), (139, .goto 5, 3, 0, (0, 0, 0, 0, 0, 0)), (142, .bipush 6, 2, 0, (0, 0, 0, 0, 0, 6)), (144, .lload 4, 2, 0, (0, 0, 0, 0, 0, 0)), (146, .iload_n 1, 1, 0, (0, 0, 0, 0, 0, 0)), (147, .invokevirtual 499, 3, 0, (1, 4, 0, 0, 1, 0)), (150, .return_, 1, 0, (0, 0, 0, 0, 0, 0))]
set_option maxRecDepth 100000 in
theorem rk318 : R318.all (rok 2 318 0 [(312, [15, 1]), (314, [15, 0, 1, 0])]) = true := by decide +kernel
set_option maxRecDepth 100000 in
theorem tab318 {F312 : PM → Int64 → Int64 × PM} {G312 : PM → Int64 → Prop} {F314 : PM → Int32 → Int64 → Int32 → PM} {G314 : PM → Int32 → Int64 → Int32 → Prop} : TabOK 2 318 0 [CC312 F312 G312, CC314 F314 G314] R318 := tab_ok (K := K318) rfl rfl (fun h => d318 h) rk318 (by decide +kernel)
set_option maxRecDepth 100000 in
theorem pc318 : cutpc [3, 103] R318 = true := by decide +kernel
set_option maxRecDepth 100000 in
theorem r12_coversByFunds_103 (F312 : PM → Int64 → Int64 × PM) (G312 : PM → Int64 → Prop) (o312 : CalOK 2 (CC312 F312 G312)) (F314 : PM → Int32 → Int64 → Int32 → PM) (G314 : PM → Int32 → Int64 → Int32 → Prop) (o314 : CalOK 2 (CC314 F314 G314)) (kv103 : PM → Int32 → Int32 → Int64 → Int32 → PM) (kg103 : PM → Int32 → Int32 → Int64 → Int32 → Prop) (hk103 : ∀ (p : PM) (v1 : Int32) (v3 : Int32) (v4 : Int64) (v6 : Int32) (d2 d5 : ZV), Gr 2 p → kg103 p v1 v3 v4 v6 → ZJ 2 318 103 [zR 12 1, zI v1, d2, zI v3, zL v4, d5, zI v6] [] p (hwV (kv103 p v1 v3 v4 v6))) : ∀ (p : PM) (v1 : Int32) (v3 : Int32) (v4 : Int64) (v6 : Int32) (d2 d5 : ZV), Gr 2 p → bg12_coversByFunds_103 F314 G314 kg103 p v1 v3 v4 v6 → ZJ 2 318 103 [zR 12 1, zI v1, d2, zI v3, zL v4, d5, zI v6] [] p (hwV (bv12_coversByFunds_103 F314 kv103 p v1 v3 v4 v6)) := by
  intro p v1 v3 v4 v6 d2 d5 hg H
  exact rwV (n := 3000) (q := 103) (la := [zR 12 1, zI v1, d2, zI v3, zL v4, d5, zI v6]) (sa := []) (ks := [fun _ _ s => s, fun la sa s => kv103 s (ai la 1) (ai la 3) (al la 4) (ai la 6)]) (gs := [fun _ _ _ => False, fun la sa s => zsw (tc2 la [(112, 1), (0, 0), (2, 0), (0, 0), (1, 0), (2, 0), (0, 0)] && tc2 sa []) False (kg103 s (ai la 1) (ai la 3) (al la 4) (ai la 6))]) (fcons o312 (fcons o314 (fnil))) tab318 pc318 ⟨fun _ _ _ _ H => H.elim, fun la sa s hg H => zcut H fun H => hk103 s (ai la 1) (ai la 3) (al la 4) (ai la 6) (zld la 2) (zld la 5) hg H, trivial⟩ hg H
theorem t12_coversByFunds_103 : ∀ (n : Nat), ∀ (p : PM) (v1 : Int32) (v3 : Int32) (v4 : Int64) (v6 : Int32) (d2 d5 : ZV), Gr 2 p → g12_coversByFunds_103 n p v1 v3 v4 v6 → ZJ 2 318 103 [zR 12 1, zI v1, d2, zI v3, zL v4, d5, zI v6] [] p (hwV (v12_coversByFunds_103 n p v1 v3 v4 v6)) := by
  intro n
  induction n with
  | zero =>
    intro p v1 v3 v4 v6 d2 d5 hg H
    exact H.elim
  | succ n ih => exact r12_coversByFunds_103 v12_shares g12_shares ok312 v12_covers g12_covers ok314 (v12_coversByFunds_103 n) (g12_coversByFunds_103 n) ih
set_option maxRecDepth 100000 in
theorem r12_coversByFunds_3 (F312 : PM → Int64 → Int64 × PM) (G312 : PM → Int64 → Prop) (o312 : CalOK 2 (CC312 F312 G312)) (F314 : PM → Int32 → Int64 → Int32 → PM) (G314 : PM → Int32 → Int64 → Int32 → Prop) (o314 : CalOK 2 (CC314 F314 G314)) (kv3 : PM → Int32 → Int32 → Int32 → Int32 → PM) (kg3 : PM → Int32 → Int32 → Int32 → Int32 → Prop) (hk3 : ∀ (p : PM) (v1 : Int32) (v2 : Int32) (v3 : Int32) (v4 : Int32) (d5 d6 : ZV), Gr 2 p → kg3 p v1 v2 v3 v4 → ZJ 2 318 3 [zR 12 1, zI v1, zI v2, zI v3, zI v4, d5, d6] [] p (hwV (kv3 p v1 v2 v3 v4))) (kv103 : PM → Int32 → Int32 → Int64 → Int32 → PM) (kg103 : PM → Int32 → Int32 → Int64 → Int32 → Prop) (hk103 : ∀ (p : PM) (v1 : Int32) (v3 : Int32) (v4 : Int64) (v6 : Int32) (d2 d5 : ZV), Gr 2 p → kg103 p v1 v3 v4 v6 → ZJ 2 318 103 [zR 12 1, zI v1, d2, zI v3, zL v4, d5, zI v6] [] p (hwV (kv103 p v1 v3 v4 v6))) : ∀ (p : PM) (v1 : Int32) (v2 : Int32) (v3 : Int32) (v4 : Int32) (d5 d6 : ZV), Gr 2 p → bg12_coversByFunds_3 F312 G312 kg3 kg103 p v1 v2 v3 v4 → ZJ 2 318 3 [zR 12 1, zI v1, zI v2, zI v3, zI v4, d5, d6] [] p (hwV (bv12_coversByFunds_3 F312 kv3 kv103 p v1 v2 v3 v4)) := by
  intro p v1 v2 v3 v4 d5 d6 hg H
  exact rwV (n := 3000) (q := 3) (la := [zR 12 1, zI v1, zI v2, zI v3, zI v4, d5, d6]) (sa := []) (ks := [fun la sa s => kv3 s (ai la 1) (ai la 2) (ai la 3) (ai la 4), fun la sa s => kv103 s (ai la 1) (ai la 3) (al la 4) (ai la 6)]) (gs := [fun la sa s => zsw (tc2 la [(112, 1), (0, 0), (0, 0), (0, 0), (0, 0), (2, 0), (2, 0)] && tc2 sa []) False (kg3 s (ai la 1) (ai la 2) (ai la 3) (ai la 4)), fun la sa s => zsw (tc2 la [(112, 1), (0, 0), (2, 0), (0, 0), (1, 0), (2, 0), (0, 0)] && tc2 sa []) False (kg103 s (ai la 1) (ai la 3) (al la 4) (ai la 6))]) (fcons o312 (fcons o314 (fnil))) tab318 pc318 ⟨fun la sa s hg H => zcut H fun H => hk3 s (ai la 1) (ai la 2) (ai la 3) (ai la 4) (zld la 5) (zld la 6) hg H, fun la sa s hg H => zcut H fun H => hk103 s (ai la 1) (ai la 3) (al la 4) (ai la 6) (zld la 2) (zld la 5) hg H, trivial⟩ hg H
theorem t12_coversByFunds_3 : ∀ (n : Nat), ∀ (p : PM) (v1 : Int32) (v2 : Int32) (v3 : Int32) (v4 : Int32) (d5 d6 : ZV), Gr 2 p → g12_coversByFunds_3 n p v1 v2 v3 v4 → ZJ 2 318 3 [zR 12 1, zI v1, zI v2, zI v3, zI v4, d5, d6] [] p (hwV (v12_coversByFunds_3 n p v1 v2 v3 v4)) := by
  intro n
  induction n with
  | zero =>
    intro p v1 v2 v3 v4 d5 d6 hg H
    exact H.elim
  | succ n ih => exact r12_coversByFunds_3 v12_shares g12_shares ok312 v12_covers g12_covers ok314 (v12_coversByFunds_3 n) (g12_coversByFunds_3 n) ih (v12_coversByFunds_103 FU) (g12_coversByFunds_103 FU) (t12_coversByFunds_103 FU)
set_option maxRecDepth 100000 in
theorem r12_coversByFunds (F312 : PM → Int64 → Int64 × PM) (G312 : PM → Int64 → Prop) (o312 : CalOK 2 (CC312 F312 G312)) (F314 : PM → Int32 → Int64 → Int32 → PM) (G314 : PM → Int32 → Int64 → Int32 → Prop) (o314 : CalOK 2 (CC314 F314 G314)) (kv3 : PM → Int32 → Int32 → Int32 → Int32 → PM) (kg3 : PM → Int32 → Int32 → Int32 → Int32 → Prop) (hk3 : ∀ (p : PM) (v1 : Int32) (v2 : Int32) (v3 : Int32) (v4 : Int32) (d5 d6 : ZV), Gr 2 p → kg3 p v1 v2 v3 v4 → ZJ 2 318 3 [zR 12 1, zI v1, zI v2, zI v3, zI v4, d5, d6] [] p (hwV (kv3 p v1 v2 v3 v4))) : ∀ (p : PM) (v1 : Int32) (v2 : Int32) (v3 : Int32), Gr 2 p → bg12_coversByFunds kg3 p v1 v2 v3 → ZJ 2 318 0 [zR 12 1, zI v1, zI v2, zI v3, zJ, zJ, zJ] [] p (hwV (bv12_coversByFunds kv3 p v1 v2 v3)) := by
  intro p v1 v2 v3  hg H
  exact rwV (n := 3000) (q := 0) (la := [zR 12 1, zI v1, zI v2, zI v3, zJ, zJ, zJ]) (sa := []) (ks := [fun la sa s => kv3 s (ai la 1) (ai la 2) (ai la 3) (ai la 4), fun _ _ s => s]) (gs := [fun la sa s => zsw (tc2 la [(112, 1), (0, 0), (0, 0), (0, 0), (0, 0), (2, 0), (2, 0)] && tc2 sa []) False (kg3 s (ai la 1) (ai la 2) (ai la 3) (ai la 4)), fun _ _ _ => False]) (fcons o312 (fcons o314 (fnil))) tab318 pc318 ⟨fun la sa s hg H => zcut H fun H => hk3 s (ai la 1) (ai la 2) (ai la 3) (ai la 4) (zld la 5) (zld la 6) hg H, fun _ _ _ _ H => H.elim, trivial⟩ hg H
theorem t12_coversByFunds : ∀ (p : PM) (v1 : Int32) (v2 : Int32) (v3 : Int32), Gr 2 p → g12_coversByFunds p v1 v2 v3 → ZJ 2 318 0 [zR 12 1, zI v1, zI v2, zI v3, zJ, zJ, zJ] [] p (hwV (v12_coversByFunds p v1 v2 v3)) := r12_coversByFunds v12_shares g12_shares ok312 v12_covers g12_covers ok314 (v12_coversByFunds_3 FU) (g12_coversByFunds_3 FU) (t12_coversByFunds_3 FU)
def CC318 (F : PM → Int32 → Int32 → Int32 → PM) (G : PM → Int32 → Int32 → Int32 → Prop) : Cal := (318, [15, 0, 0, 0], 0, false, fun as p => (zJ, (F p (ai as 1) (ai as 2) (ai as 3))), fun as p => zsw (tc2 as [(112, 1), (0, 0), (0, 0), (0, 0)]) False (G p (ai as 1) (ai as 2) (ai as 3)))
set_option maxRecDepth 100000 in
theorem okr318 (F : PM → Int32 → Int32 → Int32 → PM) (G : PM → Int32 → Int32 → Int32 → Prop) (h : ∀ (p : PM) (v1 : Int32) (v2 : Int32) (v3 : Int32), Gr 2 p → G p v1 v2 v3 → ZJ 2 318 0 [zR 12 1, zI v1, zI v2, zI v3, zJ, zJ, zJ] [] p (hwV (F p v1 v2 v3))) : CalOK 2 (CC318 F G) := cal_ok (m := 7) (by unfold mL; rw [mX_318]) (fun as p hg H => h p (ai as 1) (ai as 2) (ai as 3) hg H)
theorem ok318 : CalOK 2 (CC318 v12_coversByFunds g12_coversByFunds) := okr318 v12_coversByFunds g12_coversByFunds t12_coversByFunds
noncomputable def bv12_coversAll_325 (F314 : PM → Int32 → Int64 → Int32 → PM) (kv325 : PM → Int32 → Int64 → Int32 → PM) (p : PM) (v1 : Int32) (v13 : Int64) (v15 : Int32) : PM :=
  if v15 < (cn 4) then (
    let p4 : PM := pJ p 14 1 (((cn 2) * v15)).toNatClampNeg ((p.2.1 14 1 (((cn 2) * v15)).toNatClampNeg) - (p.2.1 14 3 (v15).toNatClampNeg))
    kv325 p4 v1 v13 (v15 + (cn 1)))
  else (
    let p1 : PM := F314 p (cn 7) v13 v1
    let p2 : PM := pJ p1 14 1 8 ((p1.2.1 14 1 8) - (p1.2.1 12 1 69))
    let p3 : PM := F314 p2 (cn 8) (p1.2.1 12 1 69) v1
    p3)
noncomputable def v12_coversAll_325 (n : Nat) : PM → Int32 → Int64 → Int32 → PM := Nat.rec (motive := fun _ => PM → Int32 → Int64 → Int32 → PM) (fun p _ _ _ => p) (fun _ ih => bv12_coversAll_325 v12_covers ih) n
theorem ev12_coversAll_325 (n : Nat) (p : PM) (v1 : Int32) (v13 : Int64) (v15 : Int32) : v12_coversAll_325 (n + 1) p v1 v13 v15 = bv12_coversAll_325 v12_covers (v12_coversAll_325 n) p v1 v13 v15 := rfl
noncomputable def bg12_coversAll_325 (F314 : PM → Int32 → Int64 → Int32 → PM) (G314 : PM → Int32 → Int64 → Int32 → Prop) (kg325 : PM → Int32 → Int64 → Int32 → Prop) (p : PM) (v1 : Int32) (v13 : Int64) (v15 : Int32) : Prop :=
  if v15 < (cn 4) then (
    (inb ((cn 2) * v15) 9) ∧ (
    (inb v15 4) ∧ (
    (inb ((cn 2) * v15) 9) ∧ (
    let p4 : PM := pJ p 14 1 (((cn 2) * v15)).toNatClampNeg ((p.2.1 14 1 (((cn 2) * v15)).toNatClampNeg) - (p.2.1 14 3 (v15).toNatClampNeg))
    kg325 p4 v1 v13 (v15 + (cn 1))))))
  else (
    (G314 p (cn 7) v13 v1) ∧ (
    let p1 : PM := F314 p (cn 7) v13 v1
    let p2 : PM := pJ p1 14 1 8 ((p1.2.1 14 1 8) - (p1.2.1 12 1 69))
    (G314 p2 (cn 8) (p1.2.1 12 1 69) v1) ∧ (
    let p3 : PM := F314 p2 (cn 8) (p1.2.1 12 1 69) v1
    True)))
noncomputable def g12_coversAll_325 (n : Nat) : PM → Int32 → Int64 → Int32 → Prop := Nat.rec (motive := fun _ => PM → Int32 → Int64 → Int32 → Prop) (fun _ _ _ _ => False) (fun _ ih => bg12_coversAll_325 v12_covers g12_covers ih) n
theorem eg12_coversAll_325 (n : Nat) (p : PM) (v1 : Int32) (v13 : Int64) (v15 : Int32) : g12_coversAll_325 (n + 1) p v1 v13 v15 = bg12_coversAll_325 v12_covers g12_covers (g12_coversAll_325 n) p v1 v13 v15 := rfl
noncomputable def bv12_coversAll_272 (F312 : PM → Int64 → Int64 × PM) (kv272 : PM → Int32 → Int32 → PM) (kv325 : PM → Int32 → Int64 → Int32 → PM) (p : PM) (v1 : Int32) (v13 : Int32) : PM :=
  if v13 < (cn 4) then (
    if (p.1 15 9 (v13).toNatClampNeg) = 0 then (
      let p2 : PM := pJ p 14 2 (v13).toNatClampNeg (p.2.1 14 2 (v13).toNatClampNeg)
      kv272 p2 v1 (v13 + (cn 1)))
    else (
      let p3 : PM := pJ p 14 2 (v13).toNatClampNeg (cl 0)
      kv272 p3 v1 (v13 + (cn 1))))
  else (
    let r1 : Int64 × PM := F312 p (p.2.1 12 1 69)
    kv325 r1.2 v1 r1.1 (cn 0))
noncomputable def v12_coversAll_272 (n : Nat) : PM → Int32 → Int32 → PM := Nat.rec (motive := fun _ => PM → Int32 → Int32 → PM) (fun p _ _ => p) (fun _ ih => bv12_coversAll_272 v12_shares ih (v12_coversAll_325 FU)) n
theorem ev12_coversAll_272 (n : Nat) (p : PM) (v1 : Int32) (v13 : Int32) : v12_coversAll_272 (n + 1) p v1 v13 = bv12_coversAll_272 v12_shares (v12_coversAll_272 n) (v12_coversAll_325 FU) p v1 v13 := rfl
noncomputable def bg12_coversAll_272 (F312 : PM → Int64 → Int64 × PM) (G312 : PM → Int64 → Prop) (kg272 : PM → Int32 → Int32 → Prop) (kg325 : PM → Int32 → Int64 → Int32 → Prop) (p : PM) (v1 : Int32) (v13 : Int32) : Prop :=
  if v13 < (cn 4) then (
    (inb v13 4) ∧ (
    if (p.1 15 9 (v13).toNatClampNeg) = 0 then (
      (inb v13 4) ∧ (
      (inb v13 4) ∧ (
      let p2 : PM := pJ p 14 2 (v13).toNatClampNeg (p.2.1 14 2 (v13).toNatClampNeg)
      kg272 p2 v1 (v13 + (cn 1)))))
    else (
      (inb v13 4) ∧ (
      let p3 : PM := pJ p 14 2 (v13).toNatClampNeg (cl 0)
      kg272 p3 v1 (v13 + (cn 1))))))
  else (
    (G312 p (p.2.1 12 1 69)) ∧ (
    let r1 : Int64 × PM := F312 p (p.2.1 12 1 69)
    kg325 r1.2 v1 r1.1 (cn 0)))
noncomputable def g12_coversAll_272 (n : Nat) : PM → Int32 → Int32 → Prop := Nat.rec (motive := fun _ => PM → Int32 → Int32 → Prop) (fun _ _ _ => False) (fun _ ih => bg12_coversAll_272 v12_shares g12_shares ih (g12_coversAll_325 FU)) n
theorem eg12_coversAll_272 (n : Nat) (p : PM) (v1 : Int32) (v13 : Int32) : g12_coversAll_272 (n + 1) p v1 v13 = bg12_coversAll_272 v12_shares g12_shares (g12_coversAll_272 n) (g12_coversAll_325 FU) p v1 v13 := rfl
noncomputable def bv12_coversAll_242 (kv272 : PM → Int32 → Int32 → PM) (p : PM) (v1 : Int32) (v10 : Int32) (v11 : Int32) (v12 : Int32) : PM :=
  let p1 : PM := pJ p 14 2 1 (v10).toInt64
  let p2 : PM := pJ p1 14 2 2 (v11).toInt64
  let p3 : PM := pJ p2 14 2 3 (v12).toInt64
  kv272 p3 v1 (cn 0)
noncomputable def v12_coversAll_242 (p : PM) (v1 : Int32) (v10 : Int32) (v11 : Int32) (v12 : Int32) : PM := bv12_coversAll_242 (v12_coversAll_272 FU) p v1 v10 v11 v12
noncomputable def bg12_coversAll_242 (kg272 : PM → Int32 → Int32 → Prop) (p : PM) (v1 : Int32) (v10 : Int32) (v11 : Int32) (v12 : Int32) : Prop :=
  let p1 : PM := pJ p 14 2 1 (v10).toInt64
  let p2 : PM := pJ p1 14 2 2 (v11).toInt64
  let p3 : PM := pJ p2 14 2 3 (v12).toInt64
  kg272 p3 v1 (cn 0)
noncomputable def g12_coversAll_242 (p : PM) (v1 : Int32) (v10 : Int32) (v11 : Int32) (v12 : Int32) : Prop := bg12_coversAll_242 (g12_coversAll_272 FU) p v1 v10 v11 v12
noncomputable def bv12_coversAll_159 (F314 : PM → Int32 → Int64 → Int32 → PM) (F315 : PM → Int64 → Int64) (F318 : PM → Int32 → Int32 → Int32 → PM) (kv242 : PM → Int32 → Int32 → Int32 → Int32 → PM) (p : PM) (v1 : Int32) (v2 : Int32) : PM :=
  let x1 : Int64 := (F315 p ((p.1 12 1 58)).toInt64)
  let p2 : PM := pI p 12 1 58 ((p.1 12 1 58) - (x1).toInt32)
  let p3 : PM := F314 p2 (cn 4) x1 v1
  let p4 : PM := F318 p3 v1 v2 (cn 1)
  let p5 : PM := F318 p4 v1 v2 (cn 0)
  let p6 : PM := pJ p5 14 2 0 ((p3.1 13 38 0)).toInt64
  kv242 p6 v1 (p3.1 13 38 1) (p3.1 13 38 2) (p3.1 13 38 3)
noncomputable def v12_coversAll_159 (p : PM) (v1 : Int32) (v2 : Int32) : PM := bv12_coversAll_159 v12_covers v12_upTo v12_coversByFunds v12_coversAll_242 p v1 v2
noncomputable def bg12_coversAll_159 (F314 : PM → Int32 → Int64 → Int32 → PM) (G314 : PM → Int32 → Int64 → Int32 → Prop) (F315 : PM → Int64 → Int64) (G315 : PM → Int64 → Prop) (F318 : PM → Int32 → Int32 → Int32 → PM) (G318 : PM → Int32 → Int32 → Int32 → Prop) (kg242 : PM → Int32 → Int32 → Int32 → Int32 → Prop) (p : PM) (v1 : Int32) (v2 : Int32) : Prop :=
  (G315 p ((p.1 12 1 58)).toInt64) ∧ (
  let x1 : Int64 := (F315 p ((p.1 12 1 58)).toInt64)
  let p2 : PM := pI p 12 1 58 ((p.1 12 1 58) - (x1).toInt32)
  (G314 p2 (cn 4) x1 v1) ∧ (
  let p3 : PM := F314 p2 (cn 4) x1 v1
  (G318 p3 v1 v2 (cn 1)) ∧ (
  let p4 : PM := F318 p3 v1 v2 (cn 1)
  (G318 p4 v1 v2 (cn 0)) ∧ (
  let p5 : PM := F318 p4 v1 v2 (cn 0)
  let p6 : PM := pJ p5 14 2 0 ((p3.1 13 38 0)).toInt64
  kg242 p6 v1 (p3.1 13 38 1) (p3.1 13 38 2) (p3.1 13 38 3)))))
noncomputable def g12_coversAll_159 (p : PM) (v1 : Int32) (v2 : Int32) : Prop := bg12_coversAll_159 v12_covers g12_covers v12_upTo g12_upTo v12_coversByFunds g12_coversByFunds g12_coversAll_242 p v1 v2
noncomputable def bv12_coversAll (F314 : PM → Int32 → Int64 → Int32 → PM) (F315 : PM → Int64 → Int64) (kv159 : PM → Int32 → Int32 → PM) (p : PM) (v1 : Int32) (v2 : Int32) : PM :=
  let x1 : Int64 := (F315 p ((p.1 13 36 (v1).toNatClampNeg)).toInt64)
  let p2 : PM := pI p 13 36 (v1).toNatClampNeg ((p.1 13 36 (v1).toNatClampNeg) - (x1).toInt32)
  let p3 : PM := F314 p2 (cn 1) x1 v1
  let x4 : Int64 := ((((p3.2.1 12 1 69) + ((p3.1 13 10 1)).toInt64) - (cl 1)) / ((p3.1 13 10 1)).toInt64)
  if (lg_cmp ((p3.1 13 37 (v1).toNatClampNeg)).toInt64 x4) < 0 then (
    let x11 : Int64 := ((p3.1 13 37 (v1).toNatClampNeg)).toInt64
    let p12 : PM := pI p3 13 37 (v1).toNatClampNeg ((p3.1 13 37 (v1).toNatClampNeg) - (x11).toInt32)
    let p13 : PM := pJ p12 14 1 8 ((p12.2.1 14 1 8) - (x11 * ((p12.1 13 10 1)).toInt64))
    let p14 : PM := F314 p13 (cn 2) (x11 * ((p13.1 13 10 1)).toInt64) v1
    let x15 : Int64 := (F315 p14 ((p14.1 13 38 (v1).toNatClampNeg)).toInt64)
    let p16 : PM := pI p14 13 38 (v1).toNatClampNeg ((p14.1 13 38 (v1).toNatClampNeg) - (x15).toInt32)
    let p17 : PM := F314 p16 (cn 3) x15 v1
    kv159 p17 v1 v2)
  else (
    let p5 : PM := pI p3 13 37 (v1).toNatClampNeg ((p3.1 13 37 (v1).toNatClampNeg) - (x4).toInt32)
    let p6 : PM := pJ p5 14 1 8 ((p5.2.1 14 1 8) - (x4 * ((p5.1 13 10 1)).toInt64))
    let p7 : PM := F314 p6 (cn 2) (x4 * ((p6.1 13 10 1)).toInt64) v1
    let x8 : Int64 := (F315 p7 ((p7.1 13 38 (v1).toNatClampNeg)).toInt64)
    let p9 : PM := pI p7 13 38 (v1).toNatClampNeg ((p7.1 13 38 (v1).toNatClampNeg) - (x8).toInt32)
    let p10 : PM := F314 p9 (cn 3) x8 v1
    kv159 p10 v1 v2)
noncomputable def v12_coversAll (p : PM) (v1 : Int32) (v2 : Int32) : PM := bv12_coversAll v12_covers v12_upTo v12_coversAll_159 p v1 v2
noncomputable def bg12_coversAll (F314 : PM → Int32 → Int64 → Int32 → PM) (G314 : PM → Int32 → Int64 → Int32 → Prop) (F315 : PM → Int64 → Int64) (G315 : PM → Int64 → Prop) (kg159 : PM → Int32 → Int32 → Prop) (p : PM) (v1 : Int32) (v2 : Int32) : Prop :=
  (inb v1 4) ∧ (
  (G315 p ((p.1 13 36 (v1).toNatClampNeg)).toInt64) ∧ (
  let x1 : Int64 := (F315 p ((p.1 13 36 (v1).toNatClampNeg)).toInt64)
  (inb v1 4) ∧ (
  (inb v1 4) ∧ (
  let p2 : PM := pI p 13 36 (v1).toNatClampNeg ((p.1 13 36 (v1).toNatClampNeg) - (x1).toInt32)
  (G314 p2 (cn 1) x1 v1) ∧ (
  let p3 : PM := F314 p2 (cn 1) x1 v1
  (¬ ((p3.1 13 10 1)).toInt64 = 0) ∧ (
  let x4 : Int64 := ((((p3.2.1 12 1 69) + ((p3.1 13 10 1)).toInt64) - (cl 1)) / ((p3.1 13 10 1)).toInt64)
  (inb v1 4) ∧ (
  if (lg_cmp ((p3.1 13 37 (v1).toNatClampNeg)).toInt64 x4) < 0 then (
    (inb v1 4) ∧ (
    let x11 : Int64 := ((p3.1 13 37 (v1).toNatClampNeg)).toInt64
    (inb v1 4) ∧ (
    (inb v1 4) ∧ (
    let p12 : PM := pI p3 13 37 (v1).toNatClampNeg ((p3.1 13 37 (v1).toNatClampNeg) - (x11).toInt32)
    let p13 : PM := pJ p12 14 1 8 ((p12.2.1 14 1 8) - (x11 * ((p12.1 13 10 1)).toInt64))
    (G314 p13 (cn 2) (x11 * ((p13.1 13 10 1)).toInt64) v1) ∧ (
    let p14 : PM := F314 p13 (cn 2) (x11 * ((p13.1 13 10 1)).toInt64) v1
    (inb v1 4) ∧ (
    (G315 p14 ((p14.1 13 38 (v1).toNatClampNeg)).toInt64) ∧ (
    let x15 : Int64 := (F315 p14 ((p14.1 13 38 (v1).toNatClampNeg)).toInt64)
    (inb v1 4) ∧ (
    (inb v1 4) ∧ (
    let p16 : PM := pI p14 13 38 (v1).toNatClampNeg ((p14.1 13 38 (v1).toNatClampNeg) - (x15).toInt32)
    (G314 p16 (cn 3) x15 v1) ∧ (
    let p17 : PM := F314 p16 (cn 3) x15 v1
    kg159 p17 v1 v2))))))))))
  else (
    (inb v1 4) ∧ (
    (inb v1 4) ∧ (
    let p5 : PM := pI p3 13 37 (v1).toNatClampNeg ((p3.1 13 37 (v1).toNatClampNeg) - (x4).toInt32)
    let p6 : PM := pJ p5 14 1 8 ((p5.2.1 14 1 8) - (x4 * ((p5.1 13 10 1)).toInt64))
    (G314 p6 (cn 2) (x4 * ((p6.1 13 10 1)).toInt64) v1) ∧ (
    let p7 : PM := F314 p6 (cn 2) (x4 * ((p6.1 13 10 1)).toInt64) v1
    (inb v1 4) ∧ (
    (G315 p7 ((p7.1 13 38 (v1).toNatClampNeg)).toInt64) ∧ (
    let x8 : Int64 := (F315 p7 ((p7.1 13 38 (v1).toNatClampNeg)).toInt64)
    (inb v1 4) ∧ (
    (inb v1 4) ∧ (
    let p9 : PM := pI p7 13 38 (v1).toNatClampNeg ((p7.1 13 38 (v1).toNatClampNeg) - (x8).toInt32)
    (G314 p9 (cn 3) x8 v1) ∧ (
    let p10 : PM := F314 p9 (cn 3) x8 v1
    kg159 p10 v1 v2))))))))))))))))
noncomputable def g12_coversAll (p : PM) (v1 : Int32) (v2 : Int32) : Prop := bg12_coversAll v12_covers g12_covers v12_upTo g12_upTo g12_coversAll_159 p v1 v2
def R317 : List Row := [(0, .aload_n 0, 1, 0, (0, 0, 0, 0, 0, 0)), (1, .aload_n 0, 1, 0, (0, 0, 0, 0, 0, 0)), (2, .getfield 144, 3, 0, (12, 51, 16, 2, 36, 0)), (5, .iload_n 1, 1, 0, (0, 0, 0, 0, 0, 0)), (6, .iaload, 1, 0, (13, 4, 0, 0, 0, 0)), (7, .i2l, 1, 0, (0, 0, 0, 0, 0, 0)), (8, .invokevirtual 495, 3, 0, (0, 2, 0, 0, 1, 0)), (11, .lstore_n 3, 1, 0, (0, 0, 0, 0, 0, 0)), (12, .aload_n 0, 1, 0, (0, 0, 0, 0, 0, 0)), (13, .getfield 144, 3, 0, (12, 51, 16, 2, 36, 0)), (16, .iload_n 1, 1, 0, (0, 0, 0, 0, 0, 0)), (17, .dup2, 1, 0, (0, 0, 0, 0, 0, 0)), (18, .iaload, 1, 0, (13, 4, 0, 0, 0, 0)), (19, .lload_n 3, 1, 0, (0, 0, 0, 0, 0, 0)), (20, .l2i, 1, 0, (0, 0, 0, 0, 0, 0)), (21, .isub, 1, 0, (0, 0, 0, 0, 0, 0)), (22, .iastore, 1, 0, (13, 4, 0, 0, 0, 0)), (23, .aload_n 0, 1, 0, (0, 0, 0, 0, 0, 0)), (24, .iconst 1, 1, 0, (0, 0, 0, 0, 0, 1)), (25, .lload_n 3, 1, 0, (0, 0, 0, 0, 0, 0)), (26, .iload_n 1, 1, 0, (0, 0, 0, 0, 0, 0)), (27, .invokevirtual 499, 3, 0, (1, 4, 0, 0, 1, 0)), (30, .aload_n 0, 1, 0, (0, 0, 0, 0, 0, 0)), (31, .getfield 485, 3, 0, (12, 69, 2, 1, 0, 0)), (34, .aload_n 0, 1, 0, (0, 0, 0, 0, 0, 0)), (35, .getfield 45, 3, 0, (12, 12, 16, 2, 10, 0)), (38, .iconst 1, 1, 0, (0, 0, 0, 0, 0, 1)), (39, .iaload, 1, 0, (13, 6, 0, 0, 0, 0)), (40, .i2l, 1, 0, (0, 0, 0, 0, 0, 0)), (41, .ladd, 1, 0, (0, 0, 0, 0, 0, 0)), (42, .lconst 1, 1, 0, (0, 0, 0, 0, 0, 1)), (43, .lsub, 1, 0, (0, 0, 0, 0, 0, 0)), (44, .aload_n 0, 1, 0, (0, 0, 0, 0, 0, 0)), (45, .getfield 45, 3, 0, (12, 12, 16, 2, 10, 0)), (48, .iconst 1, 1, 0, (0, 0, 0, 0, 0, 1)), (49, .iaload, 1, 0, (13, 6, 0, 0, 0, 0)), (50, .i2l, 1, 0, (0, 0, 0, 0, 0, 0)), (51, .ldiv, 1, 0, (0, 0, 0, 0, 0, 0)), (52, .lstore 5, 2, 0, (0, 0, 0, 0, 0, 0)), (54, .aload_n 0, 1, 0, (0, 0, 0, 0, 0, 0)), (55, .getfield 147, 3, 0, (12, 52, 16, 2, 37, 0)), (58, .iload_n 1, 1, 0, (0, 0, 0, 0, 0, 0)), (59, .iaload, 1, 0, (13, 4, 0, 0, 0, 0)), (60, .i2l, 1, 0, (0, 0, 0, 0, 0, 0)), (61, .lload 5, 2, 0, (0, 0, 0, 0, 0, 0)), (63, .lcmp, 1, 0, (0, 0, 0, 0, 0, 0)), (64, .ifCond .ge 13, 3, 0, (0, 0, 0, 0, 0, 0)), (67, .aload_n 0, 1, 0, (0, 0, 0, 0, 0, 0)), (68, .getfield 147, 3, 0, (12, 52, 16, 2, 37, 0)), (71, .iload_n 1, 1, 0, (0, 0, 0, 0, 0, 0)), (72, .iaload, 1, 0, (13, 4, 0, 0, 0, 0)), (73, .i2l, 1, 0, (0, 0, 0, 0, 0, 0)), (74, .goto 5, 3, 0, (0, 0, 0, 0, 0, 0)), (77, .lload 5, 2, 0, (0, 0, 0, 0, 0, 0)), (79, .lstore 7, 2, 0, (0, 0, 0, 0, 0, 0)), (81, .aload_n 0, 1, 0, (0, 0, 0, 0, 0, 0)), (82, .getfield 147, 3, 0, (12, 52, 16, 2, 37, 0)), (85, .iload_n 1, 1, 0, (0, 0, 0, 0, 0, 0)), (86, .dup2, 1, 0, (0, 0, 0, 0, 0, 0)), (87, .iaload, 1, 0, (13, 4, 0, 0, 0, 0)), (88, .lload 7, 2, 0, (0, 0, 0, 0, 0, 0)), (90, .l2i, 1, 0, (0, 0, 0, 0, 0, 0)), (91, .isub, 1, 0, (0, 0, 0, 0, 0, 0)), (92, .iastore, 1, 0, (13, 4, 0, 0, 0, 0)), (93, .aload_n 0, 1, 0, (0, 0, 0, 0, 0, 0)), (94, .getfield 13, 3, 0, (12, 2, 17, 2, 1, 0)), (97, .bipush 8, 2, 0, (0, 0, 0, 0, 0, 8)), (99, .dup2, 1, 0, (0, 0, 0, 0, 0, 0)), (100, .laload, 1, 0, (14, 9, 0, 0, 0, 0)), (101, .lload 7, 2, 0, (0, 0, 0, 0, 0, 0)), (103, .aload_n 0, 1, 0, (0, 0, 0, 0, 0, 0)), (104, .getfield 45, 3, 0, (12, 12, 16, 2, 10, 0)), (107, .iconst 1, 1, 0, (0, 0, 0, 0, 0, 1)), (108, .iaload, 1, 0, (13, 6, 0, 0, 0, 0)), (109, .i2l, 1, 0, (0, 0, 0, 0, 0, 0)), (110, .lmul, 1, 0, (0, 0, 0, 0, 0, 0)), (111, .lsub, 1, 0, (0, 0, 0, 0, 0, 0)), (112, .lastore, 1, 0, (14, 9, 0, 0, 0, 0)), (113, .aload_n 0, 1, 0, (0, 0, 0, 0, 0, 0)), (114, .iconst 2, 1, 0, (0, 0, 0, 0, 0, 2)), (115, .lload 7, 2, 0, (0, 0, 0, 0, 0, 0)), (117, .aload_n 0, 1, 0, (0, 0, 0, 0, 0, 0)), (118, .getfield 45, 3, 0, (12, 12, 16, 2, 10, 0)), (121, .iconst 1, 1, 0, (0, 0, 0, 0, 0, 1)), (122, .iaload, 1, 0, (13, 6, 0, 0, 0, 0)), (123, .i2l, 1, 0, (0, 0, 0, 0, 0, 0)), (124, .lmul, 1, 0, (0, 0, 0, 0, 0, 0)), (125, .iload_n 1, 1, 0, (0, 0, 0, 0, 0, 0)), (126, .invokevirtual 499, 3, 0, (1, 4, 0, 0, 1, 0)), (129, .aload_n 0, 1, 0, (0, 0, 0, 0, 0, 0)), (130, .aload_n 0, 1, 0, (0, 0, 0, 0, 0, 0)), (131, .getfield 150, 3, 0, (12, 53, 16, 2, 38, 0)), (134, .iload_n 1, 1, 0, (0, 0, 0, 0, 0, 0)), (135, .iaload, 1, 0, (13, 4, 0, 0, 0, 0)), (136, .i2l, 1, 0, (0, 0, 0, 0, 0, 0)), (137, .invokevirtual 495, 3, 0, (0, 2, 0, 0, 1, 0)), (140, .lstore_n 3, 1, 0, (0, 0, 0, 0, 0, 0)), (141, .aload_n 0, 1, 0, (0, 0, 0, 0, 0, 0)), (142, .getfield 150, 3, 0, (12, 53, 16, 2, 38, 0)), (145, .iload_n 1, 1, 0, (0, 0, 0, 0, 0, 0)), (146, .dup2, 1, 0, (0, 0, 0, 0, 0, 0)), (147, .iaload, 1, 0, (13, 4, 0, 0, 0, 0)), (148, .lload_n 3, 1, 0, (0, 0, 0, 0, 0, 0)), (149, .l2i, 1, 0, (0, 0, 0, 0, 0, 0)), (150, .isub, 1, 0, (0, 0, 0, 0, 0, 0)), (151, .iastore, 1, 0, (13, 4, 0, 0, 0, 0)), (152, .aload_n 0, 1, 0, (0, 0, 0, 0, 0, 0)), (153, .iconst 3, 1, 0, (0, 0, 0, 0, 0, 3)), (154, .lload_n 3, 1, 0, (0, 0, 0, 0, 0, 0)), (155, .iload_n 1, 1, 0, (0, 0, 0, 0, 0, 0)), (156, .invokevirtual 499, 3, 0, (1, 4, 0, 0, 1, 0)), (159, .aload_n 0, 1, 1, (0, 0, 0, 0, 0, 0)), (160, .aload_n 0, 1, 0, (0, 0, 0, 0, 0, 0)), (161, .getfield 191, 3, 0, (12, 58, 0, 1, 0, 0)), (164, .i2l, 1, 0, (0, 0, 0, 0, 0, 0)), (165, .invokevirtual 495, 3, 0, (0, 2, 0, 0, 1, 0)), (168, .lstore_n 3, 1, 0, (0, 0, 0, 0, 0, 0)), (169, .aload_n 0, 1, 0, (0, 0, 0, 0, 0, 0)), (170, .dup, 1, 0, (0, 0, 0, 0, 0, 0)), (171, .getfield 191, 3, 0, (12, 58, 0, 1, 0, 0)), (174, .lload_n 3, 1, 0, (0, 0, 0, 0, 0, 0)), (175, .l2i, 1, 0, (0, 0, 0, 0, 0, 0)), (176, .isub, 1, 0, (0, 0, 0, 0, 0, 0)), (177, .putfield 191, 3, 0, (12, 58, 0, 1, 0, 0)), (180, .aload_n 0, 1, 0, (0, 0, 0, 0, 0, 0)), (181, .iconst 4, 1, 0, (0, 0, 0, 0, 0, 4)), (182, .lload_n 3, 1, 0, (0, 0, 0, 0, 0, 0)), (183, .iload_n 1, 1, 0, (0, 0, 0, 0, 0, 0)), (184, .invokevirtual 499, 3, 0, (1, 4, 0, 0, 1, 0)), (187, .aload_n 0, 1, 0, (0, 0, 0, 0, 0, 0)), (188, .getfield 150, 3, 0, (12, 53, 16, 2, 38, 0)), (191, .iconst 0, 1, 0, (0, 0, 0, 0, 0, 0)), (192, .iaload, 1, 0, (13, 4, 0, 0, 0, 0)), (193, .istore 9, 2, 0, (0, 0, 0, 0, 0, 0)), (195, .aload_n 0, 1, 0, (0, 0, 0, 0, 0, 0)), (196, .getfield 150, 3, 0, (12, 53, 16, 2, 38, 0)), (199, .iconst 1, 1, 0, (0, 0, 0, 0, 0, 1)), (200, .iaload, 1, 0, (13, 4, 0, 0, 0, 0)), (201, .istore 10, 2, 0, (0, 0, 0, 0, 0, 0)), (203, .aload_n 0, 1, 0, (0, 0, 0, 0, 0, 0)), (204, .getfield 150, 3, 0, (12, 53, 16, 2, 38, 0)), (207, .iconst 2, 1, 0, (0, 0, 0, 0, 0, 2)), (208, .iaload, 1, 0, (13, 4, 0, 0, 0, 0)), (209, .istore 11, 2, 0, (0, 0, 0, 0, 0, 0)), (211, .aload_n 0, 1, 0, (0, 0, 0, 0, 0, 0)), (212, .getfield 150, 3, 0, (12, 53, 16, 2, 38, 0)), (215, .iconst 3, 1, 0, (0, 0, 0, 0, 0, 3)), (216, .iaload, 1, 0, (13, 4, 0, 0, 0, 0)), (217, .istore 12, 2, 0, (0, 0, 0, 0, 0, 0)), (219, .aload_n 0, 1, 0, (0, 0, 0, 0, 0, 0)), (220, .iload_n 1, 1, 0, (0, 0, 0, 0, 0, 0)), (221, .iload_n 2, 1, 0, (0, 0, 0, 0, 0, 0)), (222, .iconst 1, 1, 0, (0, 0, 0, 0, 0, 1)), (223, .invokevirtual 503, 3, 0, (2, 4, 0, 0, 1, 0)), (226, .aload_n 0, 1, 0, (0, 0, 0, 0, 0, 0)), (227, .iload_n 1, 1, 0, (0, 0, 0, 0, 0, 0)), (228, .iload_n 2, 1, 0, (0, 0, 0, 0, 0, 0)), (229, .iconst 0, 1, 0, (0, 0, 0, 0, 0, 0)), (230, .invokevirtual 503, 3, 0, (2, 4, 0, 0, 1, 0)), (233, .aload_n 0, 1, 0, (0, 0, 0, 0, 0, 0)), (234, .getfield 171, 3, 0, (12, 66, 17, 2, 2, 0)), (237, .iconst 0, 1, 0, (0, 0, 0, 0, 0, 0)), (238, .iload 9, 2, 0, (0, 0, 0, 0, 0, 0)), (240, .i2l, 1, 0, (0, 0, 0, 0, 0, 0)), (241, .lastore, 1, 0, (14, 4, 0, 0, 0, 0)), (242, .aload_n 0, 1, 2, (0, 0, 0, 0, 0, 0)), (243, .getfield 171, 3, 0, (12, 66, 17, 2, 2, 0)), (246, .iconst 1, 1, 0, (0, 0, 0, 0, 0, 1)), (247, .iload 10, 2, 0, (0, 0, 0, 0, 0, 0)), (249, .i2l, 1, 0, (0, 0, 0, 0, 0, 0)), (250, .lastore, 1, 0, (14, 4, 0, 0, 0, 0)), (251, .aload_n 0, 1, 0, (0, 0, 0, 0, 0, 0)), (252, .getfield 171, 3, 0, (12, 66, 17, 2, 2, 0)), (255, .iconst 2, 1, 0, (0, 0, 0, 0, 0, 2)), (256, .iload 11, 2, 0, (0, 0, 0, 0, 0, 0)), (258, .i2l, 1, 0, (0, 0, 0, 0, 0, 0)), (259, .lastore, 1, 0, (14, 4, 0, 0, 0, 0)), (260, .aload_n 0, 1, 0, (0, 0, 0, 0, 0, 0)), (261, .getfield 171, 3, 0, (12, 66, 17, 2, 2, 0)), (264, .iconst 3, 1, 0, (0, 0, 0, 0, 0, 3)), (265, .iload 12, 2, 0, (0, 0, 0, 0, 0, 0)), (267, .i2l, 1, 0, (0, 0, 0, 0, 0, 0)), (268, .lastore, 1, 0, (14, 4, 0, 0, 0, 0)), (269, .iconst 0, 1, 0, (0, 0, 0, 0, 0, 0)), (270, .istore 13, 2, 0, (0, 0, 0, 0, 0, 0)), (272, .iload 13, 2, 3, (0, 0, 0, 0, 0, 0)), (274, .iconst 4, 1, 0, (0, 0, 0, 0, 0, 4)), (275, .if_icmp .ge 37, 3, 0, (0, 0, 0, 0, 0, 0)), (278, .aload_n 0, 1, 0, (0, 0, 0, 0, 0, 0)), (279, .getfield 171, 3, 0, (12, 66, 17, 2, 2, 0)), (282, .iload 13, 2, 0, (0, 0, 0, 0, 0, 0)), (284, .aload_n 0, 1, 0, (0, 0, 0, 0, 0, 0)), (285, .getfield 153, 3, 0, (12, 54, 18, 2, 9, 0)), (288, .iload 13, 2, 0, (0, 0, 0, 0, 0, 0)), (290, .baload, 1, 0, (15, 4, 0, 0, 0, 0)), (291, .ifCond .eq 7, 3, 0, (0, 0, 0, 0, 0, 0)), (294, .lconst 0, 1, 0, (0, 0, 0, 0, 0, 0)), (295, .goto 10, 3, 0, (0, 0, 0, 0, 0, 0)), (298, .aload_n 0, 1, 0, (0, 0, 0, 0, 0, 0)), (299, .getfield 171, 3, 0, (12, 66, 17, 2, 2, 0)), (302, .iload 13, 2, 0, (0, 0, 0, 0, 0, 0)), (304, .laload, 1, 0, (14, 4, 0, 0, 0, 0)), (305, .lastore, 1, 0, (14, 4, 0, 0, 0, 0)), (306, .iinc 13 1, 3, 0, (0, 0, 0, 0, 0, 1)), (309, .goto (-37), 3, 0, (0, 0, 0, 0, 0, 0)), (312, .aload_n 0, 1, 0, (0, 0, 0, 0, 0, 0)), (313, .aload_n 0, 1, 0, (0, 0, 0, 0, 0, 0)), (314, .getfield 485, 3, 0, (12, 69, 2, 1, 0, 0)), (317, .invokevirtual 506, 3, 0, (3, 2, 0, 0, 1, 0)), (320, .lstore 13, 2, 0, (0, 0, 0, 0, 0, 0)), (322, .iconst 0, 1, 0, (0, 0, 0, 0, 0, 0)), (323, .istore 15, 2, 0, (0, 0, 0, 0, 0, 0)), (325, .iload 15, 2, 4, (0, 0, 0, 0, 0, 0)), (327, .iconst 4, 1, 0, (0, 0, 0, 0, 0, 4)), (328, .if_icmp .ge 28, 3, 0, (0, 0, 0, 0, 0, 0)), (331, .aload_n 0, 1, 0, (0, 0, 0, 0, 0, 0)), (332, .getfield 13, 3, 0, (12, 2, 17, 2, 1, 0)), (335, .iconst 2, 1, 0, (0, 0, 0, 0, 0, 2)), (336, .iload 15, 2, 0, (0, 0, 0, 0, 0, 0)), (338, .imul, 1, 0, (0, 0, 0, 0, 0, 0)), (339, .dup2, 1, 0, (0, 0, 0, 0, 0, 0)), (340, .laload, 1, 0, (14, 9, 0, 0, 0, 0)), (341, .aload_n 0, 1, 0, (0, 0, 0, 0, 0, 0)), (342, .getfield 174, 3, 0, (12, 67, 17, 2, 3, 0)), (345, .iload 15, 2, 0, (0, 0, 0, 0, 0, 0)), (347, .laload, 1, 0, (14, 4, 0, 0, 0, 0)), (348, .lsub, 1, 0, (0, 0, 0, 0, 0, 0)), (349, .lastore, 1, 0, (14, 9, 0, 0, 0, 0)), (350, .iinc 15 1, 3, 0, (0, 0, 0, 0, 0, 1)), (353, .goto (-28), 3, 0, (0, 0, 0, 0, 0, 0)), (356, .aload_n 0, 1, 0, (0, 0, 0, 0, 0, 0)), (357, .bipush 7, 2, 0, (0, 0, 0, 0, 0, 7)), (359, .lload 13, 2, 0, (0, 0, 0, 0, 0, 0)), (361, .iload_n 1, 1, 0, (0, 0, 0, 0, 0, 0)), (362, .invokevirtual 499, 3, 0, (1, 4, 0, 0, 1, 0)), (365, .aload_n 0, 1, 0, (0, 0, 0, 0, 0, 0)), (366, .getfield 485, 3, 0, (12, 69, 2, 1, 0, 0)), (369, .lstore_n 3, 1, 0, (0, 0, 0, 0, 0, 0)), (370, .aload_n 0, 1, 0, (0, 0, 0, 0, 0, 0)), (371, .getfield 13, 3, 0, (12, 2, 17, 2, 1, 0)), (374, .bipush 8, 2, 0, (0, 0, 0, 0, 0, 8)), (376, .dup2, 1, 0, (0, 0, 0, 0, 0, 0)), (377, .laload, 1, 0, (14, 9, 0, 0, 0, 0)), (378, .lload_n 3, 1, 0, (0, 0, 0, 0, 0, 0)), (379, .lsub, 1, 0, (0, 0, 0, 0, 0, 0)), (380, .lastore, 1, 0, (14, 9, 0, 0, 0, 0)), (381, .aload_n 0, 1, 0, (0, 0, 0, 0, 0, 0)), (382, .bipush 8, 2, 0, (0, 0, 0, 0, 0, 8)), (384, .lload_n 3, 1, 0, (0, 0, 0, 0, 0, 0)), (385, .iload_n 1, 1, 0, (0, 0, 0, 0, 0, 0)), (386, .invokevirtual 499, 3, 0, (1, 4, 0, 0, 1, 0)), (389, .return_, 1, 0, (0, 0, 0, 0, 0, 0))]
set_option maxRecDepth 100000 in
theorem rk317 : R317.all (rok 2 317 0 [(315, [15, 1]), (314, [15, 0, 1, 0]), (318, [15, 0, 0, 0]), (312, [15, 1])]) = true := by decide +kernel
set_option maxRecDepth 100000 in
theorem tab317 {F315 : PM → Int64 → Int64} {G315 : PM → Int64 → Prop} {F314 : PM → Int32 → Int64 → Int32 → PM} {G314 : PM → Int32 → Int64 → Int32 → Prop} {F318 : PM → Int32 → Int32 → Int32 → PM} {G318 : PM → Int32 → Int32 → Int32 → Prop} {F312 : PM → Int64 → Int64 × PM} {G312 : PM → Int64 → Prop} : TabOK 2 317 0 [CC315 F315 G315, CC314 F314 G314, CC318 F318 G318, CC312 F312 G312] R317 := tab_ok (K := K317) rfl rfl (fun h => d317 h) rk317 (by decide +kernel)
set_option maxRecDepth 100000 in
theorem pc317 : cutpc [159, 242, 272, 325] R317 = true := by decide +kernel
set_option maxRecDepth 100000 in
theorem r12_coversAll_325 (F315 : PM → Int64 → Int64) (G315 : PM → Int64 → Prop) (o315 : CalOK 2 (CC315 F315 G315)) (F314 : PM → Int32 → Int64 → Int32 → PM) (G314 : PM → Int32 → Int64 → Int32 → Prop) (o314 : CalOK 2 (CC314 F314 G314)) (F318 : PM → Int32 → Int32 → Int32 → PM) (G318 : PM → Int32 → Int32 → Int32 → Prop) (o318 : CalOK 2 (CC318 F318 G318)) (F312 : PM → Int64 → Int64 × PM) (G312 : PM → Int64 → Prop) (o312 : CalOK 2 (CC312 F312 G312)) (kv325 : PM → Int32 → Int64 → Int32 → PM) (kg325 : PM → Int32 → Int64 → Int32 → Prop) (hk325 : ∀ (p : PM) (v1 : Int32) (v13 : Int64) (v15 : Int32) (d2 d3 d4 d5 d6 d7 d8 d9 d10 d11 d12 d14 : ZV), Gr 2 p → kg325 p v1 v13 v15 → ZJ 2 317 325 [zR 12 1, zI v1, d2, d3, d4, d5, d6, d7, d8, d9, d10, d11, d12, zL v13, d14, zI v15] [] p (hwV (kv325 p v1 v13 v15))) : ∀ (p : PM) (v1 : Int32) (v13 : Int64) (v15 : Int32) (d2 d3 d4 d5 d6 d7 d8 d9 d10 d11 d12 d14 : ZV), Gr 2 p → bg12_coversAll_325 F314 G314 kg325 p v1 v13 v15 → ZJ 2 317 325 [zR 12 1, zI v1, d2, d3, d4, d5, d6, d7, d8, d9, d10, d11, d12, zL v13, d14, zI v15] [] p (hwV (bv12_coversAll_325 F314 kv325 p v1 v13 v15)) := by
  intro p v1 v13 v15 d2 d3 d4 d5 d6 d7 d8 d9 d10 d11 d12 d14 hg H
  exact rwV (n := 3000) (q := 325) (la := [zR 12 1, zI v1, d2, d3, d4, d5, d6, d7, d8, d9, d10, d11, d12, zL v13, d14, zI v15]) (sa := []) (ks := [fun _ _ s => s, fun _ _ s => s, fun _ _ s => s, fun la sa s => kv325 s (ai la 1) (al la 13) (ai la 15)]) (gs := [fun _ _ _ => False, fun _ _ _ => False, fun _ _ _ => False, fun la sa s => zsw (tc2 la [(112, 1), (0, 0), (2, 0), (2, 0), (2, 0), (2, 0), (2, 0), (2, 0), (2, 0), (2, 0), (2, 0), (2, 0), (2, 0), (1, 0), (2, 0), (0, 0)] && tc2 sa []) False (kg325 s (ai la 1) (al la 13) (ai la 15))]) (fcons o315 (fcons o314 (fcons o318 (fcons o312 (fnil))))) tab317 pc317 ⟨fun _ _ _ _ H => H.elim, fun _ _ _ _ H => H.elim, fun _ _ _ _ H => H.elim, fun la sa s hg H => zcut H fun H => hk325 s (ai la 1) (al la 13) (ai la 15) (zld la 2) (zld la 3) (zld la 4) (zld la 5) (zld la 6) (zld la 7) (zld la 8) (zld la 9) (zld la 10) (zld la 11) (zld la 12) (zld la 14) hg H, trivial⟩ hg H
theorem t12_coversAll_325 : ∀ (n : Nat), ∀ (p : PM) (v1 : Int32) (v13 : Int64) (v15 : Int32) (d2 d3 d4 d5 d6 d7 d8 d9 d10 d11 d12 d14 : ZV), Gr 2 p → g12_coversAll_325 n p v1 v13 v15 → ZJ 2 317 325 [zR 12 1, zI v1, d2, d3, d4, d5, d6, d7, d8, d9, d10, d11, d12, zL v13, d14, zI v15] [] p (hwV (v12_coversAll_325 n p v1 v13 v15)) := by
  intro n
  induction n with
  | zero =>
    intro p v1 v13 v15 d2 d3 d4 d5 d6 d7 d8 d9 d10 d11 d12 d14 hg H
    exact H.elim
  | succ n ih => exact r12_coversAll_325 v12_upTo g12_upTo ok315 v12_covers g12_covers ok314 v12_coversByFunds g12_coversByFunds ok318 v12_shares g12_shares ok312 (v12_coversAll_325 n) (g12_coversAll_325 n) ih
set_option maxRecDepth 100000 in
theorem r12_coversAll_272 (F315 : PM → Int64 → Int64) (G315 : PM → Int64 → Prop) (o315 : CalOK 2 (CC315 F315 G315)) (F314 : PM → Int32 → Int64 → Int32 → PM) (G314 : PM → Int32 → Int64 → Int32 → Prop) (o314 : CalOK 2 (CC314 F314 G314)) (F318 : PM → Int32 → Int32 → Int32 → PM) (G318 : PM → Int32 → Int32 → Int32 → Prop) (o318 : CalOK 2 (CC318 F318 G318)) (F312 : PM → Int64 → Int64 × PM) (G312 : PM → Int64 → Prop) (o312 : CalOK 2 (CC312 F312 G312)) (kv272 : PM → Int32 → Int32 → PM) (kg272 : PM → Int32 → Int32 → Prop) (hk272 : ∀ (p : PM) (v1 : Int32) (v13 : Int32) (d2 d3 d4 d5 d6 d7 d8 d9 d10 d11 d12 d14 d15 : ZV), Gr 2 p → kg272 p v1 v13 → ZJ 2 317 272 [zR 12 1, zI v1, d2, d3, d4, d5, d6, d7, d8, d9, d10, d11, d12, zI v13, d14, d15] [] p (hwV (kv272 p v1 v13))) (kv325 : PM → Int32 → Int64 → Int32 → PM) (kg325 : PM → Int32 → Int64 → Int32 → Prop) (hk325 : ∀ (p : PM) (v1 : Int32) (v13 : Int64) (v15 : Int32) (d2 d3 d4 d5 d6 d7 d8 d9 d10 d11 d12 d14 : ZV), Gr 2 p → kg325 p v1 v13 v15 → ZJ 2 317 325 [zR 12 1, zI v1, d2, d3, d4, d5, d6, d7, d8, d9, d10, d11, d12, zL v13, d14, zI v15] [] p (hwV (kv325 p v1 v13 v15))) : ∀ (p : PM) (v1 : Int32) (v13 : Int32) (d2 d3 d4 d5 d6 d7 d8 d9 d10 d11 d12 d14 d15 : ZV), Gr 2 p → bg12_coversAll_272 F312 G312 kg272 kg325 p v1 v13 → ZJ 2 317 272 [zR 12 1, zI v1, d2, d3, d4, d5, d6, d7, d8, d9, d10, d11, d12, zI v13, d14, d15] [] p (hwV (bv12_coversAll_272 F312 kv272 kv325 p v1 v13)) := by
  intro p v1 v13 d2 d3 d4 d5 d6 d7 d8 d9 d10 d11 d12 d14 d15 hg H
  exact rwV (n := 3000) (q := 272) (la := [zR 12 1, zI v1, d2, d3, d4, d5, d6, d7, d8, d9, d10, d11, d12, zI v13, d14, d15]) (sa := []) (ks := [fun _ _ s => s, fun _ _ s => s, fun la sa s => kv272 s (ai la 1) (ai la 13), fun la sa s => kv325 s (ai la 1) (al la 13) (ai la 15)]) (gs := [fun _ _ _ => False, fun _ _ _ => False, fun la sa s => zsw (tc2 la [(112, 1), (0, 0), (2, 0), (2, 0), (2, 0), (2, 0), (2, 0), (2, 0), (2, 0), (2, 0), (2, 0), (2, 0), (2, 0), (0, 0), (2, 0), (2, 0)] && tc2 sa []) False (kg272 s (ai la 1) (ai la 13)), fun la sa s => zsw (tc2 la [(112, 1), (0, 0), (2, 0), (2, 0), (2, 0), (2, 0), (2, 0), (2, 0), (2, 0), (2, 0), (2, 0), (2, 0), (2, 0), (1, 0), (2, 0), (0, 0)] && tc2 sa []) False (kg325 s (ai la 1) (al la 13) (ai la 15))]) (fcons o315 (fcons o314 (fcons o318 (fcons o312 (fnil))))) tab317 pc317 ⟨fun _ _ _ _ H => H.elim, fun _ _ _ _ H => H.elim, fun la sa s hg H => zcut H fun H => hk272 s (ai la 1) (ai la 13) (zld la 2) (zld la 3) (zld la 4) (zld la 5) (zld la 6) (zld la 7) (zld la 8) (zld la 9) (zld la 10) (zld la 11) (zld la 12) (zld la 14) (zld la 15) hg H, fun la sa s hg H => zcut H fun H => hk325 s (ai la 1) (al la 13) (ai la 15) (zld la 2) (zld la 3) (zld la 4) (zld la 5) (zld la 6) (zld la 7) (zld la 8) (zld la 9) (zld la 10) (zld la 11) (zld la 12) (zld la 14) hg H, trivial⟩ hg H
theorem t12_coversAll_272 : ∀ (n : Nat), ∀ (p : PM) (v1 : Int32) (v13 : Int32) (d2 d3 d4 d5 d6 d7 d8 d9 d10 d11 d12 d14 d15 : ZV), Gr 2 p → g12_coversAll_272 n p v1 v13 → ZJ 2 317 272 [zR 12 1, zI v1, d2, d3, d4, d5, d6, d7, d8, d9, d10, d11, d12, zI v13, d14, d15] [] p (hwV (v12_coversAll_272 n p v1 v13)) := by
  intro n
  induction n with
  | zero =>
    intro p v1 v13 d2 d3 d4 d5 d6 d7 d8 d9 d10 d11 d12 d14 d15 hg H
    exact H.elim
  | succ n ih => exact r12_coversAll_272 v12_upTo g12_upTo ok315 v12_covers g12_covers ok314 v12_coversByFunds g12_coversByFunds ok318 v12_shares g12_shares ok312 (v12_coversAll_272 n) (g12_coversAll_272 n) ih (v12_coversAll_325 FU) (g12_coversAll_325 FU) (t12_coversAll_325 FU)
set_option maxRecDepth 100000 in
theorem r12_coversAll_242 (F315 : PM → Int64 → Int64) (G315 : PM → Int64 → Prop) (o315 : CalOK 2 (CC315 F315 G315)) (F314 : PM → Int32 → Int64 → Int32 → PM) (G314 : PM → Int32 → Int64 → Int32 → Prop) (o314 : CalOK 2 (CC314 F314 G314)) (F318 : PM → Int32 → Int32 → Int32 → PM) (G318 : PM → Int32 → Int32 → Int32 → Prop) (o318 : CalOK 2 (CC318 F318 G318)) (F312 : PM → Int64 → Int64 × PM) (G312 : PM → Int64 → Prop) (o312 : CalOK 2 (CC312 F312 G312)) (kv272 : PM → Int32 → Int32 → PM) (kg272 : PM → Int32 → Int32 → Prop) (hk272 : ∀ (p : PM) (v1 : Int32) (v13 : Int32) (d2 d3 d4 d5 d6 d7 d8 d9 d10 d11 d12 d14 d15 : ZV), Gr 2 p → kg272 p v1 v13 → ZJ 2 317 272 [zR 12 1, zI v1, d2, d3, d4, d5, d6, d7, d8, d9, d10, d11, d12, zI v13, d14, d15] [] p (hwV (kv272 p v1 v13))) : ∀ (p : PM) (v1 : Int32) (v10 : Int32) (v11 : Int32) (v12 : Int32) (d2 d3 d4 d5 d6 d7 d8 d9 d13 d14 d15 : ZV), Gr 2 p → bg12_coversAll_242 kg272 p v1 v10 v11 v12 → ZJ 2 317 242 [zR 12 1, zI v1, d2, d3, d4, d5, d6, d7, d8, d9, zI v10, zI v11, zI v12, d13, d14, d15] [] p (hwV (bv12_coversAll_242 kv272 p v1 v10 v11 v12)) := by
  intro p v1 v10 v11 v12 d2 d3 d4 d5 d6 d7 d8 d9 d13 d14 d15 hg H
  exact rwV (n := 3000) (q := 242) (la := [zR 12 1, zI v1, d2, d3, d4, d5, d6, d7, d8, d9, zI v10, zI v11, zI v12, d13, d14, d15]) (sa := []) (ks := [fun _ _ s => s, fun _ _ s => s, fun la sa s => kv272 s (ai la 1) (ai la 13), fun _ _ s => s]) (gs := [fun _ _ _ => False, fun _ _ _ => False, fun la sa s => zsw (tc2 la [(112, 1), (0, 0), (2, 0), (2, 0), (2, 0), (2, 0), (2, 0), (2, 0), (2, 0), (2, 0), (2, 0), (2, 0), (2, 0), (0, 0), (2, 0), (2, 0)] && tc2 sa []) False (kg272 s (ai la 1) (ai la 13)), fun _ _ _ => False]) (fcons o315 (fcons o314 (fcons o318 (fcons o312 (fnil))))) tab317 pc317 ⟨fun _ _ _ _ H => H.elim, fun _ _ _ _ H => H.elim, fun la sa s hg H => zcut H fun H => hk272 s (ai la 1) (ai la 13) (zld la 2) (zld la 3) (zld la 4) (zld la 5) (zld la 6) (zld la 7) (zld la 8) (zld la 9) (zld la 10) (zld la 11) (zld la 12) (zld la 14) (zld la 15) hg H, fun _ _ _ _ H => H.elim, trivial⟩ hg H
theorem t12_coversAll_242 : ∀ (p : PM) (v1 : Int32) (v10 : Int32) (v11 : Int32) (v12 : Int32) (d2 d3 d4 d5 d6 d7 d8 d9 d13 d14 d15 : ZV), Gr 2 p → g12_coversAll_242 p v1 v10 v11 v12 → ZJ 2 317 242 [zR 12 1, zI v1, d2, d3, d4, d5, d6, d7, d8, d9, zI v10, zI v11, zI v12, d13, d14, d15] [] p (hwV (v12_coversAll_242 p v1 v10 v11 v12)) := r12_coversAll_242 v12_upTo g12_upTo ok315 v12_covers g12_covers ok314 v12_coversByFunds g12_coversByFunds ok318 v12_shares g12_shares ok312 (v12_coversAll_272 FU) (g12_coversAll_272 FU) (t12_coversAll_272 FU)
set_option maxRecDepth 100000 in
theorem r12_coversAll_159 (F315 : PM → Int64 → Int64) (G315 : PM → Int64 → Prop) (o315 : CalOK 2 (CC315 F315 G315)) (F314 : PM → Int32 → Int64 → Int32 → PM) (G314 : PM → Int32 → Int64 → Int32 → Prop) (o314 : CalOK 2 (CC314 F314 G314)) (F318 : PM → Int32 → Int32 → Int32 → PM) (G318 : PM → Int32 → Int32 → Int32 → Prop) (o318 : CalOK 2 (CC318 F318 G318)) (F312 : PM → Int64 → Int64 × PM) (G312 : PM → Int64 → Prop) (o312 : CalOK 2 (CC312 F312 G312)) (kv242 : PM → Int32 → Int32 → Int32 → Int32 → PM) (kg242 : PM → Int32 → Int32 → Int32 → Int32 → Prop) (hk242 : ∀ (p : PM) (v1 : Int32) (v10 : Int32) (v11 : Int32) (v12 : Int32) (d2 d3 d4 d5 d6 d7 d8 d9 d13 d14 d15 : ZV), Gr 2 p → kg242 p v1 v10 v11 v12 → ZJ 2 317 242 [zR 12 1, zI v1, d2, d3, d4, d5, d6, d7, d8, d9, zI v10, zI v11, zI v12, d13, d14, d15] [] p (hwV (kv242 p v1 v10 v11 v12))) : ∀ (p : PM) (v1 : Int32) (v2 : Int32) (d3 d4 d5 d6 d7 d8 d9 d10 d11 d12 d13 d14 d15 : ZV), Gr 2 p → bg12_coversAll_159 F314 G314 F315 G315 F318 G318 kg242 p v1 v2 → ZJ 2 317 159 [zR 12 1, zI v1, zI v2, d3, d4, d5, d6, d7, d8, d9, d10, d11, d12, d13, d14, d15] [] p (hwV (bv12_coversAll_159 F314 F315 F318 kv242 p v1 v2)) := by
  intro p v1 v2 d3 d4 d5 d6 d7 d8 d9 d10 d11 d12 d13 d14 d15 hg H
  exact rwV (n := 3000) (q := 159) (la := [zR 12 1, zI v1, zI v2, d3, d4, d5, d6, d7, d8, d9, d10, d11, d12, d13, d14, d15]) (sa := []) (ks := [fun _ _ s => s, fun la sa s => kv242 s (ai la 1) (ai la 10) (ai la 11) (ai la 12), fun _ _ s => s, fun _ _ s => s]) (gs := [fun _ _ _ => False, fun la sa s => zsw (tc2 la [(112, 1), (0, 0), (2, 0), (2, 0), (2, 0), (2, 0), (2, 0), (2, 0), (2, 0), (2, 0), (0, 0), (0, 0), (0, 0), (2, 0), (2, 0), (2, 0)] && tc2 sa []) False (kg242 s (ai la 1) (ai la 10) (ai la 11) (ai la 12)), fun _ _ _ => False, fun _ _ _ => False]) (fcons o315 (fcons o314 (fcons o318 (fcons o312 (fnil))))) tab317 pc317 ⟨fun _ _ _ _ H => H.elim, fun la sa s hg H => zcut H fun H => hk242 s (ai la 1) (ai la 10) (ai la 11) (ai la 12) (zld la 2) (zld la 3) (zld la 4) (zld la 5) (zld la 6) (zld la 7) (zld la 8) (zld la 9) (zld la 13) (zld la 14) (zld la 15) hg H, fun _ _ _ _ H => H.elim, fun _ _ _ _ H => H.elim, trivial⟩ hg H
theorem t12_coversAll_159 : ∀ (p : PM) (v1 : Int32) (v2 : Int32) (d3 d4 d5 d6 d7 d8 d9 d10 d11 d12 d13 d14 d15 : ZV), Gr 2 p → g12_coversAll_159 p v1 v2 → ZJ 2 317 159 [zR 12 1, zI v1, zI v2, d3, d4, d5, d6, d7, d8, d9, d10, d11, d12, d13, d14, d15] [] p (hwV (v12_coversAll_159 p v1 v2)) := r12_coversAll_159 v12_upTo g12_upTo ok315 v12_covers g12_covers ok314 v12_coversByFunds g12_coversByFunds ok318 v12_shares g12_shares ok312 (v12_coversAll_242) (g12_coversAll_242) (t12_coversAll_242)
set_option maxRecDepth 100000 in
theorem r12_coversAll (F315 : PM → Int64 → Int64) (G315 : PM → Int64 → Prop) (o315 : CalOK 2 (CC315 F315 G315)) (F314 : PM → Int32 → Int64 → Int32 → PM) (G314 : PM → Int32 → Int64 → Int32 → Prop) (o314 : CalOK 2 (CC314 F314 G314)) (F318 : PM → Int32 → Int32 → Int32 → PM) (G318 : PM → Int32 → Int32 → Int32 → Prop) (o318 : CalOK 2 (CC318 F318 G318)) (F312 : PM → Int64 → Int64 × PM) (G312 : PM → Int64 → Prop) (o312 : CalOK 2 (CC312 F312 G312)) (kv159 : PM → Int32 → Int32 → PM) (kg159 : PM → Int32 → Int32 → Prop) (hk159 : ∀ (p : PM) (v1 : Int32) (v2 : Int32) (d3 d4 d5 d6 d7 d8 d9 d10 d11 d12 d13 d14 d15 : ZV), Gr 2 p → kg159 p v1 v2 → ZJ 2 317 159 [zR 12 1, zI v1, zI v2, d3, d4, d5, d6, d7, d8, d9, d10, d11, d12, d13, d14, d15] [] p (hwV (kv159 p v1 v2))) : ∀ (p : PM) (v1 : Int32) (v2 : Int32), Gr 2 p → bg12_coversAll F314 G314 F315 G315 kg159 p v1 v2 → ZJ 2 317 0 [zR 12 1, zI v1, zI v2, zJ, zJ, zJ, zJ, zJ, zJ, zJ, zJ, zJ, zJ, zJ, zJ, zJ] [] p (hwV (bv12_coversAll F314 F315 kv159 p v1 v2)) := by
  intro p v1 v2  hg H
  exact rwV (n := 3000) (q := 0) (la := [zR 12 1, zI v1, zI v2, zJ, zJ, zJ, zJ, zJ, zJ, zJ, zJ, zJ, zJ, zJ, zJ, zJ]) (sa := []) (ks := [fun la sa s => kv159 s (ai la 1) (ai la 2), fun _ _ s => s, fun _ _ s => s, fun _ _ s => s]) (gs := [fun la sa s => zsw (tc2 la [(112, 1), (0, 0), (0, 0), (2, 0), (2, 0), (2, 0), (2, 0), (2, 0), (2, 0), (2, 0), (2, 0), (2, 0), (2, 0), (2, 0), (2, 0), (2, 0)] && tc2 sa []) False (kg159 s (ai la 1) (ai la 2)), fun _ _ _ => False, fun _ _ _ => False, fun _ _ _ => False]) (fcons o315 (fcons o314 (fcons o318 (fcons o312 (fnil))))) tab317 pc317 ⟨fun la sa s hg H => zcut H fun H => hk159 s (ai la 1) (ai la 2) (zld la 3) (zld la 4) (zld la 5) (zld la 6) (zld la 7) (zld la 8) (zld la 9) (zld la 10) (zld la 11) (zld la 12) (zld la 13) (zld la 14) (zld la 15) hg H, fun _ _ _ _ H => H.elim, fun _ _ _ _ H => H.elim, fun _ _ _ _ H => H.elim, trivial⟩ hg H
theorem t12_coversAll : ∀ (p : PM) (v1 : Int32) (v2 : Int32), Gr 2 p → g12_coversAll p v1 v2 → ZJ 2 317 0 [zR 12 1, zI v1, zI v2, zJ, zJ, zJ, zJ, zJ, zJ, zJ, zJ, zJ, zJ, zJ, zJ, zJ] [] p (hwV (v12_coversAll p v1 v2)) := r12_coversAll v12_upTo g12_upTo ok315 v12_covers g12_covers ok314 v12_coversByFunds g12_coversByFunds ok318 v12_shares g12_shares ok312 (v12_coversAll_159) (g12_coversAll_159) (t12_coversAll_159)
def CC317 (F : PM → Int32 → Int32 → PM) (G : PM → Int32 → Int32 → Prop) : Cal := (317, [15, 0, 0], 0, false, fun as p => (zJ, (F p (ai as 1) (ai as 2))), fun as p => zsw (tc2 as [(112, 1), (0, 0), (0, 0)]) False (G p (ai as 1) (ai as 2)))
set_option maxRecDepth 100000 in
theorem okr317 (F : PM → Int32 → Int32 → PM) (G : PM → Int32 → Int32 → Prop) (h : ∀ (p : PM) (v1 : Int32) (v2 : Int32), Gr 2 p → G p v1 v2 → ZJ 2 317 0 [zR 12 1, zI v1, zI v2, zJ, zJ, zJ, zJ, zJ, zJ, zJ, zJ, zJ, zJ, zJ, zJ, zJ] [] p (hwV (F p v1 v2))) : CalOK 2 (CC317 F G) := cal_ok (m := 16) (by unfold mL; rw [mX_317]) (fun as p hg H => h p (ai as 1) (ai as 2) hg H)
theorem ok317 : CalOK 2 (CC317 v12_coversAll g12_coversAll) := okr317 v12_coversAll g12_coversAll t12_coversAll
noncomputable def bv12_doCloseOut_129 (kv72 : PM → Int32 → Int32 → Int64 → Int32 → Int32 → Int32 × PM) (p : PM) (v1 : Int32) (v2 : Int32) (v3 : Int64) (v5 : Int32) (v6 : Int32) : Int32 × PM :=
  kv72 p v1 v2 v3 v5 (v6 + (cn 1))
noncomputable def v12_doCloseOut_129 (kv72 : PM → Int32 → Int32 → Int64 → Int32 → Int32 → Int32 × PM) (p : PM) (v1 : Int32) (v2 : Int32) (v3 : Int64) (v5 : Int32) (v6 : Int32) : Int32 × PM := bv12_doCloseOut_129 kv72 p v1 v2 v3 v5 v6
noncomputable def bg12_doCloseOut_129 (kg72 : PM → Int32 → Int32 → Int64 → Int32 → Int32 → Prop) (p : PM) (v1 : Int32) (v2 : Int32) (v3 : Int64) (v5 : Int32) (v6 : Int32) : Prop :=
  kg72 p v1 v2 v3 v5 (v6 + (cn 1))
noncomputable def g12_doCloseOut_129 (kg72 : PM → Int32 → Int32 → Int64 → Int32 → Int32 → Prop) (p : PM) (v1 : Int32) (v2 : Int32) (v3 : Int64) (v5 : Int32) (v6 : Int32) : Prop := bg12_doCloseOut_129 kg72 p v1 v2 v3 v5 v6
noncomputable def bv12_doCloseOut_238 (kv238 : PM → Int32 → Int32 × PM) (p : PM) (v6 : Int32) : Int32 × PM :=
  if v6 < (cn 4) then (
    let p1 : PM := pI p 15 10 (v6).toNatClampNeg (cn 0)
    kv238 p1 (v6 + (cn 1)))
  else (
    ((p.1 12 1 68), p))
noncomputable def v12_doCloseOut_238 (n : Nat) : PM → Int32 → Int32 × PM := Nat.rec (motive := fun _ => PM → Int32 → Int32 × PM) (fun p _ => (0, p)) (fun _ ih => bv12_doCloseOut_238 ih) n
theorem ev12_doCloseOut_238 (n : Nat) (p : PM) (v6 : Int32) : v12_doCloseOut_238 (n + 1) p v6 = bv12_doCloseOut_238 (v12_doCloseOut_238 n) p v6 := rfl
noncomputable def bg12_doCloseOut_238 (kg238 : PM → Int32 → Prop) (p : PM) (v6 : Int32) : Prop :=
  if v6 < (cn 4) then (
    (inb v6 4) ∧ (
    let p1 : PM := pI p 15 10 (v6).toNatClampNeg (cn 0)
    kg238 p1 (v6 + (cn 1))))
  else (
    True)
noncomputable def g12_doCloseOut_238 (n : Nat) : PM → Int32 → Prop := Nat.rec (motive := fun _ => PM → Int32 → Prop) (fun _ _ => False) (fun _ ih => bg12_doCloseOut_238 ih) n
theorem eg12_doCloseOut_238 (n : Nat) (p : PM) (v6 : Int32) : g12_doCloseOut_238 (n + 1) p v6 = bg12_doCloseOut_238 (g12_doCloseOut_238 n) p v6 := rfl
noncomputable def bv12_doCloseOut_180 (F317 : PM → Int32 → Int32 → PM) (kv238 : PM → Int32 → Int32 × PM) (p : PM) (v1 : Int32) (v2 : Int32) : Int32 × PM :=
  let p1 : PM := pI p 12 1 68 (cn 0)
  if (lg_cmp (p1.2.1 14 1 (((cn 2) * v1)).toNatClampNeg) (cl 0)) < 0 then (
    let p6 : PM := pJ p1 12 1 69 (-(p1.2.1 14 1 (((cn 2) * v1)).toNatClampNeg))
    if 0 < (lg_cmp (p6.2.1 12 1 69) (cl 0)) then (
      let p8 : PM := F317 p6 v1 v2
      let p9 : PM := pI p8 12 1 57 (cn (-1))
      kv238 p9 (cn 0))
    else (
      let p7 : PM := pI p6 12 1 57 (cn (-1))
      kv238 p7 (cn 0)))
  else (
    let p2 : PM := pJ p1 12 1 69 (cl 0)
    if 0 < (lg_cmp (p2.2.1 12 1 69) (cl 0)) then (
      let p4 : PM := F317 p2 v1 v2
      let p5 : PM := pI p4 12 1 57 (cn (-1))
      kv238 p5 (cn 0))
    else (
      let p3 : PM := pI p2 12 1 57 (cn (-1))
      kv238 p3 (cn 0)))
noncomputable def v12_doCloseOut_180 (p : PM) (v1 : Int32) (v2 : Int32) : Int32 × PM := bv12_doCloseOut_180 v12_coversAll (v12_doCloseOut_238 FU) p v1 v2
noncomputable def bg12_doCloseOut_180 (F317 : PM → Int32 → Int32 → PM) (G317 : PM → Int32 → Int32 → Prop) (kg238 : PM → Int32 → Prop) (p : PM) (v1 : Int32) (v2 : Int32) : Prop :=
  let p1 : PM := pI p 12 1 68 (cn 0)
  (inb ((cn 2) * v1) 9) ∧ (
  if (lg_cmp (p1.2.1 14 1 (((cn 2) * v1)).toNatClampNeg) (cl 0)) < 0 then (
    (inb ((cn 2) * v1) 9) ∧ (
    let p6 : PM := pJ p1 12 1 69 (-(p1.2.1 14 1 (((cn 2) * v1)).toNatClampNeg))
    if 0 < (lg_cmp (p6.2.1 12 1 69) (cl 0)) then (
      (G317 p6 v1 v2) ∧ (
      let p8 : PM := F317 p6 v1 v2
      let p9 : PM := pI p8 12 1 57 (cn (-1))
      kg238 p9 (cn 0)))
    else (
      let p7 : PM := pI p6 12 1 57 (cn (-1))
      kg238 p7 (cn 0))))
  else (
    let p2 : PM := pJ p1 12 1 69 (cl 0)
    if 0 < (lg_cmp (p2.2.1 12 1 69) (cl 0)) then (
      (G317 p2 v1 v2) ∧ (
      let p4 : PM := F317 p2 v1 v2
      let p5 : PM := pI p4 12 1 57 (cn (-1))
      kg238 p5 (cn 0)))
    else (
      let p3 : PM := pI p2 12 1 57 (cn (-1))
      kg238 p3 (cn 0))))
noncomputable def g12_doCloseOut_180 (p : PM) (v1 : Int32) (v2 : Int32) : Prop := bg12_doCloseOut_180 v12_coversAll g12_coversAll (g12_doCloseOut_238 FU) p v1 v2
noncomputable def bv12_doCloseOut_72 (F275 : PM → Int32 → Int32 → Int64) (kv129 : PM → Int32 → Int32 → Int64 → Int32 → Int32 → Int32 × PM) (kv180 : PM → Int32 → Int32 → Int32 × PM) (p : PM) (v1 : Int32) (v2 : Int32) (v3 : Int64) (v5 : Int32) (v6 : Int32) : Int32 × PM :=
  if v6 < (cn 4) then (
    let p4 : PM := pI p 13 1 ((((cn 4) * v5) + v6)).toNatClampNeg ((p.1 13 1 ((((cn 4) * v5) + v6)).toNatClampNeg) + ((F275 p v1 v6)).toInt32)
    let p5 : PM := pI p4 13 1 ((((cn 8) * v1) + v6)).toNatClampNeg (cn 0)
    let p6 : PM := pI p5 13 1 (((((cn 8) * v1) + (cn 4)) + v6)).toNatClampNeg (cn 0)
    kv129 p6 v1 v2 v3 v5 v6)
  else (
    let p1 : PM := pJ p 14 1 (v5).toNatClampNeg ((p.2.1 14 1 (v5).toNatClampNeg) - v3)
    let p2 : PM := pJ p1 14 1 (((cn 2) * v1)).toNatClampNeg ((p1.2.1 14 1 (((cn 2) * v1)).toNatClampNeg) + ((p1.2.1 14 1 ((((cn 2) * v1) + (cn 1))).toNatClampNeg) + v3))
    let p3 : PM := pJ p2 14 1 ((((cn 2) * v1) + (cn 1))).toNatClampNeg (cl 0)
    kv180 p3 v1 v2)
noncomputable def v12_doCloseOut_72 (n : Nat) : PM → Int32 → Int32 → Int64 → Int32 → Int32 → Int32 × PM := Nat.rec (motive := fun _ => PM → Int32 → Int32 → Int64 → Int32 → Int32 → Int32 × PM) (fun p _ _ _ _ _ => (0, p)) (fun _ ih => bv12_doCloseOut_72 v12_net (v12_doCloseOut_129 ih) v12_doCloseOut_180) n
theorem ev12_doCloseOut_72 (n : Nat) (p : PM) (v1 : Int32) (v2 : Int32) (v3 : Int64) (v5 : Int32) (v6 : Int32) : v12_doCloseOut_72 (n + 1) p v1 v2 v3 v5 v6 = bv12_doCloseOut_72 v12_net (v12_doCloseOut_129 (v12_doCloseOut_72 n)) v12_doCloseOut_180 p v1 v2 v3 v5 v6 := rfl
noncomputable def bg12_doCloseOut_72 (F275 : PM → Int32 → Int32 → Int64) (G275 : PM → Int32 → Int32 → Prop) (kg129 : PM → Int32 → Int32 → Int64 → Int32 → Int32 → Prop) (kg180 : PM → Int32 → Int32 → Prop) (p : PM) (v1 : Int32) (v2 : Int32) (v3 : Int64) (v5 : Int32) (v6 : Int32) : Prop :=
  if v6 < (cn 4) then (
    (inb (((cn 4) * v5) + v6) 36) ∧ (
    (G275 p v1 v6) ∧ (
    (inb (((cn 4) * v5) + v6) 36) ∧ (
    let p4 : PM := pI p 13 1 ((((cn 4) * v5) + v6)).toNatClampNeg ((p.1 13 1 ((((cn 4) * v5) + v6)).toNatClampNeg) + ((F275 p v1 v6)).toInt32)
    (inb (((cn 8) * v1) + v6) 36) ∧ (
    let p5 : PM := pI p4 13 1 ((((cn 8) * v1) + v6)).toNatClampNeg (cn 0)
    (inb ((((cn 8) * v1) + (cn 4)) + v6) 36) ∧ (
    let p6 : PM := pI p5 13 1 (((((cn 8) * v1) + (cn 4)) + v6)).toNatClampNeg (cn 0)
    kg129 p6 v1 v2 v3 v5 v6))))))
  else (
    (inb v5 9) ∧ (
    (inb v5 9) ∧ (
    let p1 : PM := pJ p 14 1 (v5).toNatClampNeg ((p.2.1 14 1 (v5).toNatClampNeg) - v3)
    (inb ((cn 2) * v1) 9) ∧ (
    (inb (((cn 2) * v1) + (cn 1)) 9) ∧ (
    (inb ((cn 2) * v1) 9) ∧ (
    let p2 : PM := pJ p1 14 1 (((cn 2) * v1)).toNatClampNeg ((p1.2.1 14 1 (((cn 2) * v1)).toNatClampNeg) + ((p1.2.1 14 1 ((((cn 2) * v1) + (cn 1))).toNatClampNeg) + v3))
    (inb (((cn 2) * v1) + (cn 1)) 9) ∧ (
    let p3 : PM := pJ p2 14 1 ((((cn 2) * v1) + (cn 1))).toNatClampNeg (cl 0)
    kg180 p3 v1 v2)))))))
noncomputable def g12_doCloseOut_72 (n : Nat) : PM → Int32 → Int32 → Int64 → Int32 → Int32 → Prop := Nat.rec (motive := fun _ => PM → Int32 → Int32 → Int64 → Int32 → Int32 → Prop) (fun _ _ _ _ _ _ => False) (fun _ ih => bg12_doCloseOut_72 v12_net g12_net (g12_doCloseOut_129 ih) g12_doCloseOut_180) n
theorem eg12_doCloseOut_72 (n : Nat) (p : PM) (v1 : Int32) (v2 : Int32) (v3 : Int64) (v5 : Int32) (v6 : Int32) : g12_doCloseOut_72 (n + 1) p v1 v2 v3 v5 v6 = bg12_doCloseOut_72 v12_net g12_net (g12_doCloseOut_129 (g12_doCloseOut_72 n)) g12_doCloseOut_180 p v1 v2 v3 v5 v6 := rfl
noncomputable def bv12_doCloseOut (F277 : PM → Int32 → Int64) (F313 : PM → Int32) (kv72 : PM → Int32 → Int32 → Int64 → Int32 → Int32 → Int32 × PM) (p : PM) : Int32 × PM :=
  if (p.1 12 1 57) < 0 then (
    let p1 : PM := pI p 12 1 0 (cn 1)
    if (p1.1 12 1 0) = 0 then (
      if (F313 p1) < 0 then (
        let x4 : Int64 := (F277 p1 (p1.1 12 1 57))
        if (F313 p1) < 0 then (
          kv72 p1 (p1.1 12 1 57) (F313 p1) x4 (cn 8) (cn 0))
        else (
          let x5 : Int32 := ((cn 2) * (F313 p1))
          kv72 p1 (p1.1 12 1 57) (F313 p1) x4 x5 (cn 0)))
      else (
        let x2 : Int64 := ((p1.1 13 39 ((F313 p1)).toNatClampNeg)).toInt64
        if (F313 p1) < 0 then (
          kv72 p1 (p1.1 12 1 57) (F313 p1) x2 (cn 8) (cn 0))
        else (
          let x3 : Int32 := ((cn 2) * (F313 p1))
          kv72 p1 (p1.1 12 1 57) (F313 p1) x2 x3 (cn 0))))
    else (
      ((cn 0), p1)))
  else (
    let p6 : PM := pI p 12 1 0 (cn 0)
    if (p6.1 12 1 0) = 0 then (
      if (F313 p6) < 0 then (
        let x9 : Int64 := (F277 p6 (p6.1 12 1 57))
        if (F313 p6) < 0 then (
          kv72 p6 (p6.1 12 1 57) (F313 p6) x9 (cn 8) (cn 0))
        else (
          let x10 : Int32 := ((cn 2) * (F313 p6))
          kv72 p6 (p6.1 12 1 57) (F313 p6) x9 x10 (cn 0)))
      else (
        let x7 : Int64 := ((p6.1 13 39 ((F313 p6)).toNatClampNeg)).toInt64
        if (F313 p6) < 0 then (
          kv72 p6 (p6.1 12 1 57) (F313 p6) x7 (cn 8) (cn 0))
        else (
          let x8 : Int32 := ((cn 2) * (F313 p6))
          kv72 p6 (p6.1 12 1 57) (F313 p6) x7 x8 (cn 0))))
    else (
      ((cn 0), p6)))
noncomputable def v12_doCloseOut (p : PM) : Int32 × PM := bv12_doCloseOut v12_worth v12_winner (v12_doCloseOut_72 FU) p
noncomputable def bg12_doCloseOut (F277 : PM → Int32 → Int64) (G277 : PM → Int32 → Prop) (F313 : PM → Int32) (G313 : PM → Prop) (kg72 : PM → Int32 → Int32 → Int64 → Int32 → Int32 → Prop) (p : PM) : Prop :=
  if (p.1 12 1 57) < 0 then (
    let p1 : PM := pI p 12 1 0 (cn 1)
    if (p1.1 12 1 0) = 0 then (
      (G313 p1) ∧ (
      if (F313 p1) < 0 then (
        (G277 p1 (p1.1 12 1 57)) ∧ (
        let x4 : Int64 := (F277 p1 (p1.1 12 1 57))
        if (F313 p1) < 0 then (
          kg72 p1 (p1.1 12 1 57) (F313 p1) x4 (cn 8) (cn 0))
        else (
          let x5 : Int32 := ((cn 2) * (F313 p1))
          kg72 p1 (p1.1 12 1 57) (F313 p1) x4 x5 (cn 0))))
      else (
        (inb (F313 p1) 4) ∧ (
        let x2 : Int64 := ((p1.1 13 39 ((F313 p1)).toNatClampNeg)).toInt64
        if (F313 p1) < 0 then (
          kg72 p1 (p1.1 12 1 57) (F313 p1) x2 (cn 8) (cn 0))
        else (
          let x3 : Int32 := ((cn 2) * (F313 p1))
          kg72 p1 (p1.1 12 1 57) (F313 p1) x2 x3 (cn 0))))))
    else (
      True))
  else (
    let p6 : PM := pI p 12 1 0 (cn 0)
    if (p6.1 12 1 0) = 0 then (
      (G313 p6) ∧ (
      if (F313 p6) < 0 then (
        (G277 p6 (p6.1 12 1 57)) ∧ (
        let x9 : Int64 := (F277 p6 (p6.1 12 1 57))
        if (F313 p6) < 0 then (
          kg72 p6 (p6.1 12 1 57) (F313 p6) x9 (cn 8) (cn 0))
        else (
          let x10 : Int32 := ((cn 2) * (F313 p6))
          kg72 p6 (p6.1 12 1 57) (F313 p6) x9 x10 (cn 0))))
      else (
        (inb (F313 p6) 4) ∧ (
        let x7 : Int64 := ((p6.1 13 39 ((F313 p6)).toNatClampNeg)).toInt64
        if (F313 p6) < 0 then (
          kg72 p6 (p6.1 12 1 57) (F313 p6) x7 (cn 8) (cn 0))
        else (
          let x8 : Int32 := ((cn 2) * (F313 p6))
          kg72 p6 (p6.1 12 1 57) (F313 p6) x7 x8 (cn 0))))))
    else (
      True))
noncomputable def g12_doCloseOut (p : PM) : Prop := bg12_doCloseOut v12_worth g12_worth v12_winner g12_winner (g12_doCloseOut_72 FU) p
def R316 : List Row := [(0, .aload_n 0, 1, 0, (0, 0, 0, 0, 0, 0)), (1, .aload_n 0, 1, 0, (0, 0, 0, 0, 0, 0)), (2, .getfield 188, 3, 0, (12, 57, 0, 1, 0, 0)), (5, .ifCond .lt 7, 3, 0, (0, 0, 0, 0, 0, 0)), (8, .iconst 0, 1, 0, (0, 0, 0, 0, 0, 0)), (9, .goto 4, 3, 0, (0, 0, 0, 0, 0, 0)), (12, .iconst 1, 1, 0, (0, 0, 0, 0, 0, 1)), (13, .putfield 180, 3, 0, (12, 0, 0, 1, 0, 0)), (16, .aload_n 0, 1, 0, (0, 0, 0, 0, 0, 0)), (17, .getfield 180, 3, 0, (12, 0, 0, 1, 0, 0)), (20, .ifCond .eq 5, 3, 0, (0, 0, 0, 0, 0, 0)), (23, .iconst 0, 1, 0, (0, 0, 0, 0, 0, 0)), (24, .ireturn, 1, 0, (0, 0, 0, 0, 0, 0)), (25, .aload_n 0, 1, 0, (0, 0, 0, 0, 0, 0)), (26, .getfield 188, 3, 0, (12, 57, 0, 1, 0, 0)), (29, .istore_n 1, 1, 0, (0, 0, 0, 0, 0, 0)), (30, .aload_n 0, 1, 0, (0, 0, 0, 0, 0, 0)), (31, .invokevirtual 489, 3, 0, (0, 1, 0, 0, 1, 0)), (34, .istore_n 2, 1, 0, (0, 0, 0, 0, 0, 0)), (35, .iload_n 2, 1, 0, (0, 0, 0, 0, 0, 0)), (36, .ifCond .ge 11, 3, 0, (0, 0, 0, 0, 0, 0)), (39, .aload_n 0, 1, 0, (0, 0, 0, 0, 0, 0)), (40, .iload_n 1, 1, 0, (0, 0, 0, 0, 0, 0)), (41, .invokevirtual 407, 3, 0, (1, 2, 0, 0, 1, 0)), (44, .goto 10, 3, 0, (0, 0, 0, 0, 0, 0)), (47, .aload_n 0, 1, 0, (0, 0, 0, 0, 0, 0)), (48, .getfield 159, 3, 0, (12, 56, 16, 2, 39, 0)), (51, .iload_n 2, 1, 0, (0, 0, 0, 0, 0, 0)), (52, .iaload, 1, 0, (13, 4, 0, 0, 0, 0)), (53, .i2l, 1, 0, (0, 0, 0, 0, 0, 0)), (54, .lstore_n 3, 1, 0, (0, 0, 0, 0, 0, 0)), (55, .iload_n 2, 1, 0, (0, 0, 0, 0, 0, 0)), (56, .ifCond .ge 8, 3, 0, (0, 0, 0, 0, 0, 0)), (59, .bipush 8, 2, 0, (0, 0, 0, 0, 0, 8)), (61, .goto 6, 3, 0, (0, 0, 0, 0, 0, 0)), (64, .iconst 2, 1, 0, (0, 0, 0, 0, 0, 2)), (65, .iload_n 2, 1, 0, (0, 0, 0, 0, 0, 0)), (66, .imul, 1, 0, (0, 0, 0, 0, 0, 0)), (67, .istore 5, 2, 0, (0, 0, 0, 0, 0, 0)), (69, .iconst 0, 1, 0, (0, 0, 0, 0, 0, 0)), (70, .istore 6, 2, 0, (0, 0, 0, 0, 0, 0)), (72, .iload 6, 2, 1, (0, 0, 0, 0, 0, 0)), (74, .iconst 4, 1, 0, (0, 0, 0, 0, 0, 4)), (75, .if_icmp .ge 60, 3, 0, (0, 0, 0, 0, 0, 0)), (78, .aload_n 0, 1, 0, (0, 0, 0, 0, 0, 0)), (79, .getfield 7, 3, 0, (12, 1, 16, 2, 1, 0)), (82, .iconst 4, 1, 0, (0, 0, 0, 0, 0, 4)), (83, .iload 5, 2, 0, (0, 0, 0, 0, 0, 0)), (85, .imul, 1, 0, (0, 0, 0, 0, 0, 0)), (86, .iload 6, 2, 0, (0, 0, 0, 0, 0, 0)), (88, .iadd, 1, 0, (0, 0, 0, 0, 0, 0)), (89, .dup2, 1, 0, (0, 0, 0, 0, 0, 0)), (90, .iaload, 1, 0, (13, 36, 0, 0, 0, 0)), (91, .aload_n 0, 1, 0, (0, 0, 0, 0, 0, 0)), (92, .iload_n 1, 1, 0, (0, 0, 0, 0, 0, 0)), (93, .iload 6, 2, 0, (0, 0, 0, 0, 0, 0)), (95, .invokevirtual 399, 3, 0, (2, 3, 0, 0, 1, 0)), (98, .l2i, 1, 0, (0, 0, 0, 0, 0, 0)), (99, .iadd, 1, 0, (0, 0, 0, 0, 0, 0)), (100, .iastore, 1, 0, (13, 36, 0, 0, 0, 0)), (101, .aload_n 0, 1, 0, (0, 0, 0, 0, 0, 0)), (102, .getfield 7, 3, 0, (12, 1, 16, 2, 1, 0)), (105, .bipush 8, 2, 0, (0, 0, 0, 0, 0, 8)), (107, .iload_n 1, 1, 0, (0, 0, 0, 0, 0, 0)), (108, .imul, 1, 0, (0, 0, 0, 0, 0, 0)), (109, .iload 6, 2, 0, (0, 0, 0, 0, 0, 0)), (111, .iadd, 1, 0, (0, 0, 0, 0, 0, 0)), (112, .iconst 0, 1, 0, (0, 0, 0, 0, 0, 0)), (113, .iastore, 1, 0, (13, 36, 0, 0, 0, 0)), (114, .aload_n 0, 1, 0, (0, 0, 0, 0, 0, 0)), (115, .getfield 7, 3, 0, (12, 1, 16, 2, 1, 0)), (118, .bipush 8, 2, 0, (0, 0, 0, 0, 0, 8)), (120, .iload_n 1, 1, 0, (0, 0, 0, 0, 0, 0)), (121, .imul, 1, 0, (0, 0, 0, 0, 0, 0)), (122, .iconst 4, 1, 0, (0, 0, 0, 0, 0, 4)), (123, .iadd, 1, 0, (0, 0, 0, 0, 0, 0)), (124, .iload 6, 2, 0, (0, 0, 0, 0, 0, 0)), (126, .iadd, 1, 0, (0, 0, 0, 0, 0, 0)), (127, .iconst 0, 1, 0, (0, 0, 0, 0, 0, 0)), (128, .iastore, 1, 0, (13, 36, 0, 0, 0, 0)), (129, .iinc 6 1, 3, 2, (0, 0, 0, 0, 0, 1)), (132, .goto (-60), 3, 0, (0, 0, 0, 0, 0, 0)), (135, .aload_n 0, 1, 0, (0, 0, 0, 0, 0, 0)), (136, .getfield 13, 3, 0, (12, 2, 17, 2, 1, 0)), (139, .iload 5, 2, 0, (0, 0, 0, 0, 0, 0)), (141, .dup2, 1, 0, (0, 0, 0, 0, 0, 0)), (142, .laload, 1, 0, (14, 9, 0, 0, 0, 0)), (143, .lload_n 3, 1, 0, (0, 0, 0, 0, 0, 0)), (144, .lsub, 1, 0, (0, 0, 0, 0, 0, 0)), (145, .lastore, 1, 0, (14, 9, 0, 0, 0, 0)), (146, .aload_n 0, 1, 0, (0, 0, 0, 0, 0, 0)), (147, .getfield 13, 3, 0, (12, 2, 17, 2, 1, 0)), (150, .iconst 2, 1, 0, (0, 0, 0, 0, 0, 2)), (151, .iload_n 1, 1, 0, (0, 0, 0, 0, 0, 0)), (152, .imul, 1, 0, (0, 0, 0, 0, 0, 0)), (153, .dup2, 1, 0, (0, 0, 0, 0, 0, 0)), (154, .laload, 1, 0, (14, 9, 0, 0, 0, 0)), (155, .aload_n 0, 1, 0, (0, 0, 0, 0, 0, 0)), (156, .getfield 13, 3, 0, (12, 2, 17, 2, 1, 0)), (159, .iconst 2, 1, 0, (0, 0, 0, 0, 0, 2)), (160, .iload_n 1, 1, 0, (0, 0, 0, 0, 0, 0)), (161, .imul, 1, 0, (0, 0, 0, 0, 0, 0)), (162, .iconst 1, 1, 0, (0, 0, 0, 0, 0, 1)), (163, .iadd, 1, 0, (0, 0, 0, 0, 0, 0)), (164, .laload, 1, 0, (14, 9, 0, 0, 0, 0)), (165, .lload_n 3, 1, 0, (0, 0, 0, 0, 0, 0)), (166, .ladd, 1, 0, (0, 0, 0, 0, 0, 0)), (167, .ladd, 1, 0, (0, 0, 0, 0, 0, 0)), (168, .lastore, 1, 0, (14, 9, 0, 0, 0, 0)), (169, .aload_n 0, 1, 0, (0, 0, 0, 0, 0, 0)), (170, .getfield 13, 3, 0, (12, 2, 17, 2, 1, 0)), (173, .iconst 2, 1, 0, (0, 0, 0, 0, 0, 2)), (174, .iload_n 1, 1, 0, (0, 0, 0, 0, 0, 0)), (175, .imul, 1, 0, (0, 0, 0, 0, 0, 0)), (176, .iconst 1, 1, 0, (0, 0, 0, 0, 0, 1)), (177, .iadd, 1, 0, (0, 0, 0, 0, 0, 0)), (178, .lconst 0, 1, 0, (0, 0, 0, 0, 0, 0)), (179, .lastore, 1, 0, (14, 9, 0, 0, 0, 0)), (180, .aload_n 0, 1, 3, (0, 0, 0, 0, 0, 0)), (181, .iconst 0, 1, 0, (0, 0, 0, 0, 0, 0)), (182, .putfield 482, 3, 0, (12, 68, 0, 1, 0, 0)), (185, .aload_n 0, 1, 0, (0, 0, 0, 0, 0, 0)), (186, .aload_n 0, 1, 0, (0, 0, 0, 0, 0, 0)), (187, .getfield 13, 3, 0, (12, 2, 17, 2, 1, 0)), (190, .iconst 2, 1, 0, (0, 0, 0, 0, 0, 2)), (191, .iload_n 1, 1, 0, (0, 0, 0, 0, 0, 0)), (192, .imul, 1, 0, (0, 0, 0, 0, 0, 0)), (193, .laload, 1, 0, (14, 9, 0, 0, 0, 0)), (194, .lconst 0, 1, 0, (0, 0, 0, 0, 0, 0)), (195, .lcmp, 1, 0, (0, 0, 0, 0, 0, 0)), (196, .ifCond .ge 15, 3, 0, (0, 0, 0, 0, 0, 0)), (199, .aload_n 0, 1, 0, (0, 0, 0, 0, 0, 0)), (200, .getfield 13, 3, 0, (12, 2, 17, 2, 1, 0)), (203, .iconst 2, 1, 0, (0, 0, 0, 0, 0, 2)), (204, .iload_n 1, 1, 0, (0, 0, 0, 0, 0, 0)), (205, .imul, 1, 0, (0, 0, 0, 0, 0, 0)), (206, .laload, 1, 0, (14, 9, 0, 0, 0, 0)), (207, .lneg, 1, 0, (0, 0, 0, 0, 0, 0)), (208, .goto 4, 3, 0, (0, 0, 0, 0, 0, 0)), (211, .lconst 0, 1, 0, (0, 0, 0, 0, 0, 0)), (212, .putfield 485, 3, 0, (12, 69, 2, 1, 0, 0)), (215, .aload_n 0, 1, 0, (0, 0, 0, 0, 0, 0)), (216, .getfield 485, 3, 0, (12, 69, 2, 1, 0, 0)), (219, .lconst 0, 1, 0, (0, 0, 0, 0, 0, 0)), (220, .lcmp, 1, 0, (0, 0, 0, 0, 0, 0)), (221, .ifCond .le 9, 3, 0, (0, 0, 0, 0, 0, 0)), (224, .aload_n 0, 1, 0, (0, 0, 0, 0, 0, 0)), (225, .iload_n 1, 1, 0, (0, 0, 0, 0, 0, 0)), (226, .iload_n 2, 1, 0, (0, 0, 0, 0, 0, 0)), (227, .invokevirtual 492, 3, 0, (3, 3, 0, 0, 1, 0)), (230, .aload_n 0, 1, 0, (0, 0, 0, 0, 0, 0)), (231, .iconst (-1), 1, 0, (0, 0, 0, 0, 0, -1)), (232, .putfield 188, 3, 0, (12, 57, 0, 1, 0, 0)), (235, .iconst 0, 1, 0, (0, 0, 0, 0, 0, 0)), (236, .istore 6, 2, 0, (0, 0, 0, 0, 0, 0)), (238, .iload 6, 2, 4, (0, 0, 0, 0, 0, 0)), (240, .iconst 4, 1, 0, (0, 0, 0, 0, 0, 4)), (241, .if_icmp .ge 17, 3, 0, (0, 0, 0, 0, 0, 0)), (244, .aload_n 0, 1, 0, (0, 0, 0, 0, 0, 0)), (245, .getfield 156, 3, 0, (12, 55, 18, 2, 10, 0)), (248, .iload 6, 2, 0, (0, 0, 0, 0, 0, 0)), (250, .iconst 0, 1, 0, (0, 0, 0, 0, 0, 0)), (251, .bastore, 1, 0, (15, 4, 0, 0, 0, 0)), (252, .iinc 6 1, 3, 0, (0, 0, 0, 0, 0, 1)), (255, .goto (-17), 3, 0, (0, 0, 0, 0, 0, 0)), (258, .aload_n 0, 1, 0, (0, 0, 0, 0, 0, 0)), (259, .getfield 482, 3, 0, (12, 68, 0, 1, 0, 0)), (262, .ireturn, 1, 0, (0, 0, 0, 0, 0, 0))]
set_option maxRecDepth 100000 in
theorem rk316 : R316.all (rok 2 316 1 [(313, [15]), (277, [15, 0]), (275, [15, 0, 0]), (317, [15, 0, 0])]) = true := by decide +kernel
set_option maxRecDepth 100000 in
theorem tab316 {F313 : PM → Int32} {G313 : PM → Prop} {F277 : PM → Int32 → Int64} {G277 : PM → Int32 → Prop} {F275 : PM → Int32 → Int32 → Int64} {G275 : PM → Int32 → Int32 → Prop} {F317 : PM → Int32 → Int32 → PM} {G317 : PM → Int32 → Int32 → Prop} : TabOK 2 316 1 [CC313 F313 G313, CC277 F277 G277, CC275 F275 G275, CC317 F317 G317] R316 := tab_ok (K := K316) rfl rfl (fun h => d316 h) rk316 (by decide +kernel)
set_option maxRecDepth 100000 in
theorem pc316 : cutpc [72, 129, 180, 238] R316 = true := by decide +kernel
set_option maxRecDepth 100000 in
theorem r12_doCloseOut_129 (F313 : PM → Int32) (G313 : PM → Prop) (o313 : CalOK 2 (CC313 F313 G313)) (F277 : PM → Int32 → Int64) (G277 : PM → Int32 → Prop) (o277 : CalOK 2 (CC277 F277 G277)) (F275 : PM → Int32 → Int32 → Int64) (G275 : PM → Int32 → Int32 → Prop) (o275 : CalOK 2 (CC275 F275 G275)) (F317 : PM → Int32 → Int32 → PM) (G317 : PM → Int32 → Int32 → Prop) (o317 : CalOK 2 (CC317 F317 G317)) (kv72 : PM → Int32 → Int32 → Int64 → Int32 → Int32 → Int32 × PM) (kg72 : PM → Int32 → Int32 → Int64 → Int32 → Int32 → Prop) (hk72 : ∀ (p : PM) (v1 : Int32) (v2 : Int32) (v3 : Int64) (v5 : Int32) (v6 : Int32) (d4 : ZV), Gr 2 p → kg72 p v1 v2 v3 v5 v6 → ZJ 2 316 72 [zR 12 1, zI v1, zI v2, zL v3, d4, zI v5, zI v6] [] p (hwI (kv72 p v1 v2 v3 v5 v6))) : ∀ (p : PM) (v1 : Int32) (v2 : Int32) (v3 : Int64) (v5 : Int32) (v6 : Int32) (d4 : ZV), Gr 2 p → bg12_doCloseOut_129 kg72 p v1 v2 v3 v5 v6 → ZJ 2 316 129 [zR 12 1, zI v1, zI v2, zL v3, d4, zI v5, zI v6] [] p (hwI (bv12_doCloseOut_129 kv72 p v1 v2 v3 v5 v6)) := by
  intro p v1 v2 v3 v5 v6 d4 hg H
  exact rwI (n := 3000) (q := 129) (la := [zR 12 1, zI v1, zI v2, zL v3, d4, zI v5, zI v6]) (sa := []) (ks := [fun la sa s => kv72 s (ai la 1) (ai la 2) (al la 3) (ai la 5) (ai la 6), fun _ _ s => (0, s), fun _ _ s => (0, s), fun _ _ s => (0, s)]) (gs := [fun la sa s => zsw (tc2 la [(112, 1), (0, 0), (0, 0), (1, 0), (2, 0), (0, 0), (0, 0)] && tc2 sa []) False (kg72 s (ai la 1) (ai la 2) (al la 3) (ai la 5) (ai la 6)), fun _ _ _ => False, fun _ _ _ => False, fun _ _ _ => False]) (fcons o313 (fcons o277 (fcons o275 (fcons o317 (fnil))))) tab316 pc316 ⟨fun la sa s hg H => zcut H fun H => hk72 s (ai la 1) (ai la 2) (al la 3) (ai la 5) (ai la 6) (zld la 4) hg H, fun _ _ _ _ H => H.elim, fun _ _ _ _ H => H.elim, fun _ _ _ _ H => H.elim, trivial⟩ hg H
theorem t12_doCloseOut_129 (kv72 : PM → Int32 → Int32 → Int64 → Int32 → Int32 → Int32 × PM) (kg72 : PM → Int32 → Int32 → Int64 → Int32 → Int32 → Prop) (hk72 : ∀ (p : PM) (v1 : Int32) (v2 : Int32) (v3 : Int64) (v5 : Int32) (v6 : Int32) (d4 : ZV), Gr 2 p → kg72 p v1 v2 v3 v5 v6 → ZJ 2 316 72 [zR 12 1, zI v1, zI v2, zL v3, d4, zI v5, zI v6] [] p (hwI (kv72 p v1 v2 v3 v5 v6))) : ∀ (p : PM) (v1 : Int32) (v2 : Int32) (v3 : Int64) (v5 : Int32) (v6 : Int32) (d4 : ZV), Gr 2 p → g12_doCloseOut_129 kg72 p v1 v2 v3 v5 v6 → ZJ 2 316 129 [zR 12 1, zI v1, zI v2, zL v3, d4, zI v5, zI v6] [] p (hwI (v12_doCloseOut_129 kv72 p v1 v2 v3 v5 v6)) := r12_doCloseOut_129 v12_winner g12_winner ok313 v12_worth g12_worth ok277 v12_net g12_net ok275 v12_coversAll g12_coversAll ok317 kv72 kg72 hk72
set_option maxRecDepth 100000 in
theorem r12_doCloseOut_238 (F313 : PM → Int32) (G313 : PM → Prop) (o313 : CalOK 2 (CC313 F313 G313)) (F277 : PM → Int32 → Int64) (G277 : PM → Int32 → Prop) (o277 : CalOK 2 (CC277 F277 G277)) (F275 : PM → Int32 → Int32 → Int64) (G275 : PM → Int32 → Int32 → Prop) (o275 : CalOK 2 (CC275 F275 G275)) (F317 : PM → Int32 → Int32 → PM) (G317 : PM → Int32 → Int32 → Prop) (o317 : CalOK 2 (CC317 F317 G317)) (kv238 : PM → Int32 → Int32 × PM) (kg238 : PM → Int32 → Prop) (hk238 : ∀ (p : PM) (v6 : Int32) (d1 d2 d3 d4 d5 : ZV), Gr 2 p → kg238 p v6 → ZJ 2 316 238 [zR 12 1, d1, d2, d3, d4, d5, zI v6] [] p (hwI (kv238 p v6))) : ∀ (p : PM) (v6 : Int32) (d1 d2 d3 d4 d5 : ZV), Gr 2 p → bg12_doCloseOut_238 kg238 p v6 → ZJ 2 316 238 [zR 12 1, d1, d2, d3, d4, d5, zI v6] [] p (hwI (bv12_doCloseOut_238 kv238 p v6)) := by
  intro p v6 d1 d2 d3 d4 d5 hg H
  exact rwI (n := 3000) (q := 238) (la := [zR 12 1, d1, d2, d3, d4, d5, zI v6]) (sa := []) (ks := [fun _ _ s => (0, s), fun _ _ s => (0, s), fun _ _ s => (0, s), fun la sa s => kv238 s (ai la 6)]) (gs := [fun _ _ _ => False, fun _ _ _ => False, fun _ _ _ => False, fun la sa s => zsw (tc2 la [(112, 1), (2, 0), (2, 0), (2, 0), (2, 0), (2, 0), (0, 0)] && tc2 sa []) False (kg238 s (ai la 6))]) (fcons o313 (fcons o277 (fcons o275 (fcons o317 (fnil))))) tab316 pc316 ⟨fun _ _ _ _ H => H.elim, fun _ _ _ _ H => H.elim, fun _ _ _ _ H => H.elim, fun la sa s hg H => zcut H fun H => hk238 s (ai la 6) (zld la 1) (zld la 2) (zld la 3) (zld la 4) (zld la 5) hg H, trivial⟩ hg H
theorem t12_doCloseOut_238 : ∀ (n : Nat), ∀ (p : PM) (v6 : Int32) (d1 d2 d3 d4 d5 : ZV), Gr 2 p → g12_doCloseOut_238 n p v6 → ZJ 2 316 238 [zR 12 1, d1, d2, d3, d4, d5, zI v6] [] p (hwI (v12_doCloseOut_238 n p v6)) := by
  intro n
  induction n with
  | zero =>
    intro p v6 d1 d2 d3 d4 d5 hg H
    exact H.elim
  | succ n ih => exact r12_doCloseOut_238 v12_winner g12_winner ok313 v12_worth g12_worth ok277 v12_net g12_net ok275 v12_coversAll g12_coversAll ok317 (v12_doCloseOut_238 n) (g12_doCloseOut_238 n) ih
set_option maxRecDepth 100000 in
theorem r12_doCloseOut_180 (F313 : PM → Int32) (G313 : PM → Prop) (o313 : CalOK 2 (CC313 F313 G313)) (F277 : PM → Int32 → Int64) (G277 : PM → Int32 → Prop) (o277 : CalOK 2 (CC277 F277 G277)) (F275 : PM → Int32 → Int32 → Int64) (G275 : PM → Int32 → Int32 → Prop) (o275 : CalOK 2 (CC275 F275 G275)) (F317 : PM → Int32 → Int32 → PM) (G317 : PM → Int32 → Int32 → Prop) (o317 : CalOK 2 (CC317 F317 G317)) (kv238 : PM → Int32 → Int32 × PM) (kg238 : PM → Int32 → Prop) (hk238 : ∀ (p : PM) (v6 : Int32) (d1 d2 d3 d4 d5 : ZV), Gr 2 p → kg238 p v6 → ZJ 2 316 238 [zR 12 1, d1, d2, d3, d4, d5, zI v6] [] p (hwI (kv238 p v6))) : ∀ (p : PM) (v1 : Int32) (v2 : Int32) (d3 d4 d5 d6 : ZV), Gr 2 p → bg12_doCloseOut_180 F317 G317 kg238 p v1 v2 → ZJ 2 316 180 [zR 12 1, zI v1, zI v2, d3, d4, d5, d6] [] p (hwI (bv12_doCloseOut_180 F317 kv238 p v1 v2)) := by
  intro p v1 v2 d3 d4 d5 d6 hg H
  exact rwI (n := 3000) (q := 180) (la := [zR 12 1, zI v1, zI v2, d3, d4, d5, d6]) (sa := []) (ks := [fun _ _ s => (0, s), fun _ _ s => (0, s), fun _ _ s => (0, s), fun la sa s => kv238 s (ai la 6)]) (gs := [fun _ _ _ => False, fun _ _ _ => False, fun _ _ _ => False, fun la sa s => zsw (tc2 la [(112, 1), (2, 0), (2, 0), (2, 0), (2, 0), (2, 0), (0, 0)] && tc2 sa []) False (kg238 s (ai la 6))]) (fcons o313 (fcons o277 (fcons o275 (fcons o317 (fnil))))) tab316 pc316 ⟨fun _ _ _ _ H => H.elim, fun _ _ _ _ H => H.elim, fun _ _ _ _ H => H.elim, fun la sa s hg H => zcut H fun H => hk238 s (ai la 6) (zld la 1) (zld la 2) (zld la 3) (zld la 4) (zld la 5) hg H, trivial⟩ hg H
theorem t12_doCloseOut_180 : ∀ (p : PM) (v1 : Int32) (v2 : Int32) (d3 d4 d5 d6 : ZV), Gr 2 p → g12_doCloseOut_180 p v1 v2 → ZJ 2 316 180 [zR 12 1, zI v1, zI v2, d3, d4, d5, d6] [] p (hwI (v12_doCloseOut_180 p v1 v2)) := r12_doCloseOut_180 v12_winner g12_winner ok313 v12_worth g12_worth ok277 v12_net g12_net ok275 v12_coversAll g12_coversAll ok317 (v12_doCloseOut_238 FU) (g12_doCloseOut_238 FU) (t12_doCloseOut_238 FU)
set_option maxRecDepth 100000 in
theorem r12_doCloseOut_72 (F313 : PM → Int32) (G313 : PM → Prop) (o313 : CalOK 2 (CC313 F313 G313)) (F277 : PM → Int32 → Int64) (G277 : PM → Int32 → Prop) (o277 : CalOK 2 (CC277 F277 G277)) (F275 : PM → Int32 → Int32 → Int64) (G275 : PM → Int32 → Int32 → Prop) (o275 : CalOK 2 (CC275 F275 G275)) (F317 : PM → Int32 → Int32 → PM) (G317 : PM → Int32 → Int32 → Prop) (o317 : CalOK 2 (CC317 F317 G317)) (kv129 : PM → Int32 → Int32 → Int64 → Int32 → Int32 → Int32 × PM) (kg129 : PM → Int32 → Int32 → Int64 → Int32 → Int32 → Prop) (hk129 : ∀ (p : PM) (v1 : Int32) (v2 : Int32) (v3 : Int64) (v5 : Int32) (v6 : Int32) (d4 : ZV), Gr 2 p → kg129 p v1 v2 v3 v5 v6 → ZJ 2 316 129 [zR 12 1, zI v1, zI v2, zL v3, d4, zI v5, zI v6] [] p (hwI (kv129 p v1 v2 v3 v5 v6))) (kv180 : PM → Int32 → Int32 → Int32 × PM) (kg180 : PM → Int32 → Int32 → Prop) (hk180 : ∀ (p : PM) (v1 : Int32) (v2 : Int32) (d3 d4 d5 d6 : ZV), Gr 2 p → kg180 p v1 v2 → ZJ 2 316 180 [zR 12 1, zI v1, zI v2, d3, d4, d5, d6] [] p (hwI (kv180 p v1 v2))) : ∀ (p : PM) (v1 : Int32) (v2 : Int32) (v3 : Int64) (v5 : Int32) (v6 : Int32) (d4 : ZV), Gr 2 p → bg12_doCloseOut_72 F275 G275 kg129 kg180 p v1 v2 v3 v5 v6 → ZJ 2 316 72 [zR 12 1, zI v1, zI v2, zL v3, d4, zI v5, zI v6] [] p (hwI (bv12_doCloseOut_72 F275 kv129 kv180 p v1 v2 v3 v5 v6)) := by
  intro p v1 v2 v3 v5 v6 d4 hg H
  exact rwI (n := 3000) (q := 72) (la := [zR 12 1, zI v1, zI v2, zL v3, d4, zI v5, zI v6]) (sa := []) (ks := [fun _ _ s => (0, s), fun la sa s => kv129 s (ai la 1) (ai la 2) (al la 3) (ai la 5) (ai la 6), fun la sa s => kv180 s (ai la 1) (ai la 2), fun _ _ s => (0, s)]) (gs := [fun _ _ _ => False, fun la sa s => zsw (tc2 la [(112, 1), (0, 0), (0, 0), (1, 0), (2, 0), (0, 0), (0, 0)] && tc2 sa []) False (kg129 s (ai la 1) (ai la 2) (al la 3) (ai la 5) (ai la 6)), fun la sa s => zsw (tc2 la [(112, 1), (0, 0), (0, 0), (2, 0), (2, 0), (2, 0), (2, 0)] && tc2 sa []) False (kg180 s (ai la 1) (ai la 2)), fun _ _ _ => False]) (fcons o313 (fcons o277 (fcons o275 (fcons o317 (fnil))))) tab316 pc316 ⟨fun _ _ _ _ H => H.elim, fun la sa s hg H => zcut H fun H => hk129 s (ai la 1) (ai la 2) (al la 3) (ai la 5) (ai la 6) (zld la 4) hg H, fun la sa s hg H => zcut H fun H => hk180 s (ai la 1) (ai la 2) (zld la 3) (zld la 4) (zld la 5) (zld la 6) hg H, fun _ _ _ _ H => H.elim, trivial⟩ hg H
theorem t12_doCloseOut_72 : ∀ (n : Nat), ∀ (p : PM) (v1 : Int32) (v2 : Int32) (v3 : Int64) (v5 : Int32) (v6 : Int32) (d4 : ZV), Gr 2 p → g12_doCloseOut_72 n p v1 v2 v3 v5 v6 → ZJ 2 316 72 [zR 12 1, zI v1, zI v2, zL v3, d4, zI v5, zI v6] [] p (hwI (v12_doCloseOut_72 n p v1 v2 v3 v5 v6)) := by
  intro n
  induction n with
  | zero =>
    intro p v1 v2 v3 v5 v6 d4 hg H
    exact H.elim
  | succ n ih => exact r12_doCloseOut_72 v12_winner g12_winner ok313 v12_worth g12_worth ok277 v12_net g12_net ok275 v12_coversAll g12_coversAll ok317 (v12_doCloseOut_129 (v12_doCloseOut_72 n)) (g12_doCloseOut_129 (g12_doCloseOut_72 n)) (t12_doCloseOut_129 (v12_doCloseOut_72 n) (g12_doCloseOut_72 n) ih) (v12_doCloseOut_180) (g12_doCloseOut_180) (t12_doCloseOut_180)
set_option maxRecDepth 100000 in
theorem r12_doCloseOut (F313 : PM → Int32) (G313 : PM → Prop) (o313 : CalOK 2 (CC313 F313 G313)) (F277 : PM → Int32 → Int64) (G277 : PM → Int32 → Prop) (o277 : CalOK 2 (CC277 F277 G277)) (F275 : PM → Int32 → Int32 → Int64) (G275 : PM → Int32 → Int32 → Prop) (o275 : CalOK 2 (CC275 F275 G275)) (F317 : PM → Int32 → Int32 → PM) (G317 : PM → Int32 → Int32 → Prop) (o317 : CalOK 2 (CC317 F317 G317)) (kv72 : PM → Int32 → Int32 → Int64 → Int32 → Int32 → Int32 × PM) (kg72 : PM → Int32 → Int32 → Int64 → Int32 → Int32 → Prop) (hk72 : ∀ (p : PM) (v1 : Int32) (v2 : Int32) (v3 : Int64) (v5 : Int32) (v6 : Int32) (d4 : ZV), Gr 2 p → kg72 p v1 v2 v3 v5 v6 → ZJ 2 316 72 [zR 12 1, zI v1, zI v2, zL v3, d4, zI v5, zI v6] [] p (hwI (kv72 p v1 v2 v3 v5 v6))) : ∀ (p : PM), Gr 2 p → bg12_doCloseOut F277 G277 F313 G313 kg72 p → ZJ 2 316 0 [zR 12 1, zJ, zJ, zJ, zJ, zJ, zJ] [] p (hwI (bv12_doCloseOut F277 F313 kv72 p)) := by
  intro p   hg H
  exact rwI (n := 3000) (q := 0) (la := [zR 12 1, zJ, zJ, zJ, zJ, zJ, zJ]) (sa := []) (ks := [fun la sa s => kv72 s (ai la 1) (ai la 2) (al la 3) (ai la 5) (ai la 6), fun _ _ s => (0, s), fun _ _ s => (0, s), fun _ _ s => (0, s)]) (gs := [fun la sa s => zsw (tc2 la [(112, 1), (0, 0), (0, 0), (1, 0), (2, 0), (0, 0), (0, 0)] && tc2 sa []) False (kg72 s (ai la 1) (ai la 2) (al la 3) (ai la 5) (ai la 6)), fun _ _ _ => False, fun _ _ _ => False, fun _ _ _ => False]) (fcons o313 (fcons o277 (fcons o275 (fcons o317 (fnil))))) tab316 pc316 ⟨fun la sa s hg H => zcut H fun H => hk72 s (ai la 1) (ai la 2) (al la 3) (ai la 5) (ai la 6) (zld la 4) hg H, fun _ _ _ _ H => H.elim, fun _ _ _ _ H => H.elim, fun _ _ _ _ H => H.elim, trivial⟩ hg H
theorem t12_doCloseOut : ∀ (p : PM), Gr 2 p → g12_doCloseOut p → ZJ 2 316 0 [zR 12 1, zJ, zJ, zJ, zJ, zJ, zJ] [] p (hwI (v12_doCloseOut p)) := r12_doCloseOut v12_winner g12_winner ok313 v12_worth g12_worth ok277 v12_net g12_net ok275 v12_coversAll g12_coversAll ok317 (v12_doCloseOut_72 FU) (g12_doCloseOut_72 FU) (t12_doCloseOut_72 FU)
def CC316 (F : PM → Int32 × PM) (G : PM → Prop) : Cal := (316, [15], 1, false, fun as p => (zI (F p ).1, (F p ).2), fun as p => zsw (tc2 as [(112, 1)]) False (G p ))
set_option maxRecDepth 100000 in
theorem okr316 (F : PM → Int32 × PM) (G : PM → Prop) (h : ∀ (p : PM), Gr 2 p → G p  → ZJ 2 316 0 [zR 12 1, zJ, zJ, zJ, zJ, zJ, zJ] [] p (hwI (F p ))) : CalOK 2 (CC316 F G) := cal_ok (m := 7) (by unfold mL; rw [mX_316]) (fun as p hg H => h p  hg H)
theorem ok316 : CalOK 2 (CC316 v12_doCloseOut g12_doCloseOut) := okr316 v12_doCloseOut g12_doCloseOut t12_doCloseOut
noncomputable def bv12_doesMore_116 (F215 : PM → Int32 → Int32 → Int32 → Int32) (F292 : PM → Nat → Int32 → Int32 → Int32 → Int32 → Int32 × PM) (p : PM) (v4 : Int32) (s0 : Int32) : Int64 × PM :=
  let r1 : Int32 × PM := F292 p 35 s0 (cn 0) v4 (F215 p v4 (cn (-99)) (cn 99))
  ((r1.1).toInt64, r1.2)
noncomputable def v12_doesMore_116 (p : PM) (v4 : Int32) (s0 : Int32) : Int64 × PM := bv12_doesMore_116 v12_in v12_puts p v4 s0
noncomputable def bg12_doesMore_116 (F215 : PM → Int32 → Int32 → Int32 → Int32) (G215 : PM → Int32 → Int32 → Int32 → Prop) (F292 : PM → Nat → Int32 → Int32 → Int32 → Int32 → Int32 × PM) (G292 : PM → Nat → Int32 → Int32 → Int32 → Int32 → Prop) (p : PM) (v4 : Int32) (s0 : Int32) : Prop :=
  (G215 p v4 (cn (-99)) (cn 99)) ∧ (
  (G292 p 35 s0 (cn 0) v4 (F215 p v4 (cn (-99)) (cn 99))) ∧ (
  let r1 : Int32 × PM := F292 p 35 s0 (cn 0) v4 (F215 p v4 (cn (-99)) (cn 99))
  True))
noncomputable def g12_doesMore_116 (p : PM) (v4 : Int32) (s0 : Int32) : Prop := bg12_doesMore_116 v12_in g12_in v12_puts g12_puts p v4 s0
noncomputable def bv12_doesMore_149 (p : PM) (v2 : Int32) (s0 : Int32) : Int64 × PM :=
  let p1 : PM := pI p 12 1 0 s0
  if (p1.1 12 1 0) = 0 then (
    let p3 : PM := pI p1 12 1 50 v2
    if (p3.1 12 1 0) = 0 then (
      (((p1.1 12 1 50)).toInt64, p3))
    else (
      ((cl 0), p3)))
  else (
    let p2 : PM := pI p1 12 1 50 (p1.1 12 1 50)
    if (p2.1 12 1 0) = 0 then (
      (((p1.1 12 1 50)).toInt64, p2))
    else (
      ((cl 0), p2)))
noncomputable def v12_doesMore_149 (p : PM) (v2 : Int32) (s0 : Int32) : Int64 × PM := bv12_doesMore_149 p v2 s0
noncomputable def bg12_doesMore_149 (p : PM) (v2 : Int32) (s0 : Int32) : Prop :=
  let p1 : PM := pI p 12 1 0 s0
  if (p1.1 12 1 0) = 0 then (
    let p3 : PM := pI p1 12 1 50 v2
    if (p3.1 12 1 0) = 0 then (
      True)
    else (
      True))
  else (
    let p2 : PM := pI p1 12 1 50 (p1.1 12 1 50)
    if (p2.1 12 1 0) = 0 then (
      True)
    else (
      True))
noncomputable def g12_doesMore_149 (p : PM) (v2 : Int32) (s0 : Int32) : Prop := bg12_doesMore_149 p v2 s0
noncomputable def bv12_doesMore (F215 : PM → Int32 → Int32 → Int32 → Int32) (F292 : PM → Nat → Int32 → Int32 → Int32 → Int32 → Int32 × PM) (F301 : PM → Int32 → Int32 → Int32 → Int32 → Int32 × PM) (F302 : PM → Int32 → Int32 → Int32 → Int32 × PM) (F305 : PM → Int32 → Int32 → Int32 → Int32 × PM) (F308 : PM → Int32 → Int32 → Int32 → Int64 × PM) (F309 : PM → Int32 → Int32 → Int32 × PM) (F310 : PM → Int32 → Int32 × PM) (F311 : PM → Int32 → Int32 → Int32 × PM) (F316 : PM → Int32 × PM) (kv116 : PM → Int32 → Int32 → Int64 × PM) (kv149 : PM → Int32 → Int32 → Int64 × PM) (p : PM) (v1 : Int32) (v2 : Int32) (v3 : Int32) (v4 : Int32) (v5 : Int32) : Int64 × PM :=
  if v1 = (cn 17) then (
    let r9 : Int32 × PM := F301 p v2 v3 v4 v5
    ((r9.1).toInt64, r9.2))
  else (
    if v1 = (cn 18) then (
      let r8 : Int32 × PM := F302 p v2 v3 v4
      ((r8.1).toInt64, r8.2))
    else (
      if v1 = (cn 19) then (
        let r7 : Int32 × PM := F305 p v2 v3 v4
        ((r7.1).toInt64, r7.2))
      else (
        if v1 = (cn 20) then (
          if (F215 p v2 (cn 0) (cn 3)) = 0 then (
            kv116 p v4 (((cn 4) * v2) + v3))
          else (
            if (F215 p v3 (cn 0) (cn 3)) = 0 then (
              kv116 p v4 (((cn 4) * v2) + v3))
            else (
              let r6 : Int32 × PM := F292 p 35 (((cn 4) * v2) + v3) (cn 1) v4 (F215 p v4 (cn (-99)) (cn 99))
              ((r6.1).toInt64, r6.2))))
        else (
          if v1 = (cn 21) then (
            if (F215 p v2 (cn 0) (cn 100)) = 0 then (
              kv149 p v2 (cn 1))
            else (
              kv149 p v2 (cn 0)))
          else (
            if v1 = (cn 22) then (
              let r5 : Int64 × PM := F308 p v2 v3 v4
              (r5.1, r5.2))
            else (
              if v1 = (cn 23) then (
                let r4 : Int32 × PM := F309 p v2 v3
                ((r4.1).toInt64, r4.2))
              else (
                if v1 = (cn 24) then (
                  let r3 : Int32 × PM := F310 p v2
                  ((r3.1).toInt64, r3.2))
                else (
                  if v1 = (cn 25) then (
                    let r2 : Int32 × PM := F311 p v2 v3
                    ((r2.1).toInt64, r2.2))
                  else (
                    let r1 : Int32 × PM := F316 p
                    ((r1.1).toInt64, r1.2))))))))))
noncomputable def v12_doesMore (p : PM) (v1 : Int32) (v2 : Int32) (v3 : Int32) (v4 : Int32) (v5 : Int32) : Int64 × PM := bv12_doesMore v12_in v12_puts v12_doAllot v12_doExercise v12_doConvert v12_doPay v12_doFund v12_doFail v12_doBid v12_doCloseOut v12_doesMore_116 v12_doesMore_149 p v1 v2 v3 v4 v5
noncomputable def bg12_doesMore (F215 : PM → Int32 → Int32 → Int32 → Int32) (G215 : PM → Int32 → Int32 → Int32 → Prop) (F292 : PM → Nat → Int32 → Int32 → Int32 → Int32 → Int32 × PM) (G292 : PM → Nat → Int32 → Int32 → Int32 → Int32 → Prop) (F301 : PM → Int32 → Int32 → Int32 → Int32 → Int32 × PM) (G301 : PM → Int32 → Int32 → Int32 → Int32 → Prop) (F302 : PM → Int32 → Int32 → Int32 → Int32 × PM) (G302 : PM → Int32 → Int32 → Int32 → Prop) (F305 : PM → Int32 → Int32 → Int32 → Int32 × PM) (G305 : PM → Int32 → Int32 → Int32 → Prop) (F308 : PM → Int32 → Int32 → Int32 → Int64 × PM) (G308 : PM → Int32 → Int32 → Int32 → Prop) (F309 : PM → Int32 → Int32 → Int32 × PM) (G309 : PM → Int32 → Int32 → Prop) (F310 : PM → Int32 → Int32 × PM) (G310 : PM → Int32 → Prop) (F311 : PM → Int32 → Int32 → Int32 × PM) (G311 : PM → Int32 → Int32 → Prop) (F316 : PM → Int32 × PM) (G316 : PM → Prop) (kg116 : PM → Int32 → Int32 → Prop) (kg149 : PM → Int32 → Int32 → Prop) (p : PM) (v1 : Int32) (v2 : Int32) (v3 : Int32) (v4 : Int32) (v5 : Int32) : Prop :=
  if v1 = (cn 17) then (
    (G301 p v2 v3 v4 v5) ∧ (
    let r9 : Int32 × PM := F301 p v2 v3 v4 v5
    True))
  else (
    if v1 = (cn 18) then (
      (G302 p v2 v3 v4) ∧ (
      let r8 : Int32 × PM := F302 p v2 v3 v4
      True))
    else (
      if v1 = (cn 19) then (
        (G305 p v2 v3 v4) ∧ (
        let r7 : Int32 × PM := F305 p v2 v3 v4
        True))
      else (
        if v1 = (cn 20) then (
          (G215 p v2 (cn 0) (cn 3)) ∧ (
          if (F215 p v2 (cn 0) (cn 3)) = 0 then (
            kg116 p v4 (((cn 4) * v2) + v3))
          else (
            (G215 p v3 (cn 0) (cn 3)) ∧ (
            if (F215 p v3 (cn 0) (cn 3)) = 0 then (
              kg116 p v4 (((cn 4) * v2) + v3))
            else (
              (G215 p v4 (cn (-99)) (cn 99)) ∧ (
              (G292 p 35 (((cn 4) * v2) + v3) (cn 1) v4 (F215 p v4 (cn (-99)) (cn 99))) ∧ (
              let r6 : Int32 × PM := F292 p 35 (((cn 4) * v2) + v3) (cn 1) v4 (F215 p v4 (cn (-99)) (cn 99))
              True)))))))
        else (
          if v1 = (cn 21) then (
            (G215 p v2 (cn 0) (cn 100)) ∧ (
            if (F215 p v2 (cn 0) (cn 100)) = 0 then (
              kg149 p v2 (cn 1))
            else (
              kg149 p v2 (cn 0))))
          else (
            if v1 = (cn 22) then (
              (G308 p v2 v3 v4) ∧ (
              let r5 : Int64 × PM := F308 p v2 v3 v4
              True))
            else (
              if v1 = (cn 23) then (
                (G309 p v2 v3) ∧ (
                let r4 : Int32 × PM := F309 p v2 v3
                True))
              else (
                if v1 = (cn 24) then (
                  (G310 p v2) ∧ (
                  let r3 : Int32 × PM := F310 p v2
                  True))
                else (
                  if v1 = (cn 25) then (
                    (G311 p v2 v3) ∧ (
                    let r2 : Int32 × PM := F311 p v2 v3
                    True))
                  else (
                    (G316 p) ∧ (
                    let r1 : Int32 × PM := F316 p
                    True))))))))))
noncomputable def g12_doesMore (p : PM) (v1 : Int32) (v2 : Int32) (v3 : Int32) (v4 : Int32) (v5 : Int32) : Prop := bg12_doesMore v12_in g12_in v12_puts g12_puts v12_doAllot g12_doAllot v12_doExercise g12_doExercise v12_doConvert g12_doConvert v12_doPay g12_doPay v12_doFund g12_doFund v12_doFail g12_doFail v12_doBid g12_doBid v12_doCloseOut g12_doCloseOut g12_doesMore_116 g12_doesMore_149 p v1 v2 v3 v4 v5
def R320 : List Row := [(0, .iload_n 1, 1, 0, (0, 0, 0, 0, 0, 0)), (1, .tableswitch 223 17 25 #[51, 63, 73, 83, 132, 191, 200, 208, 215], 51, 0, (0, 0, 0, 0, 0, 0)), (52, .aload_n 0, 1, 0, (0, 0, 0, 0, 0, 0)), (53, .iload_n 2, 1, 0, (0, 0, 0, 0, 0, 0)), (54, .iload_n 3, 1, 0, (0, 0, 0, 0, 0, 0)), (55, .iload 4, 2, 0, (0, 0, 0, 0, 0, 0)), (57, .iload 5, 2, 0, (0, 0, 0, 0, 0, 0)), (59, .invokevirtual 562, 3, 0, (9, 5, 0, 0, 1, 0)), (62, .i2l, 1, 0, (0, 0, 0, 0, 0, 0)), (63, .lreturn, 1, 0, (0, 0, 0, 0, 0, 0)), (64, .aload_n 0, 1, 0, (0, 0, 0, 0, 0, 0)), (65, .iload_n 2, 1, 0, (0, 0, 0, 0, 0, 0)), (66, .iload_n 3, 1, 0, (0, 0, 0, 0, 0, 0)), (67, .iload 4, 2, 0, (0, 0, 0, 0, 0, 0)), (69, .invokevirtual 565, 3, 0, (8, 4, 0, 0, 1, 0)), (72, .i2l, 1, 0, (0, 0, 0, 0, 0, 0)), (73, .lreturn, 1, 0, (0, 0, 0, 0, 0, 0)), (74, .aload_n 0, 1, 0, (0, 0, 0, 0, 0, 0)), (75, .iload_n 2, 1, 0, (0, 0, 0, 0, 0, 0)), (76, .iload_n 3, 1, 0, (0, 0, 0, 0, 0, 0)), (77, .iload 4, 2, 0, (0, 0, 0, 0, 0, 0)), (79, .invokevirtual 568, 3, 0, (7, 4, 0, 0, 1, 0)), (82, .i2l, 1, 0, (0, 0, 0, 0, 0, 0)), (83, .lreturn, 1, 0, (0, 0, 0, 0, 0, 0)), (84, .aload_n 0, 1, 0, (0, 0, 0, 0, 0, 0)), (85, .aload_n 0, 1, 0, (0, 0, 0, 0, 0, 0)), (86, .getfield 141, 3, 0, (12, 49, 16, 2, 35, 0)), (89, .iconst 4, 1, 0, (0, 0, 0, 0, 0, 4)), (90, .iload_n 2, 1, 0, (0, 0, 0, 0, 0, 0)), (91, .imul, 1, 0, (0, 0, 0, 0, 0, 0)), (92, .iload_n 3, 1, 0, (0, 0, 0, 0, 0, 0)), (93, .iadd, 1, 0, (0, 0, 0, 0, 0, 0)), (94, .iload_n 2, 1, 0, (0, 0, 0, 0, 0, 0)), (95, .iconst 0, 1, 0, (0, 0, 0, 0, 0, 0)), (96, .iconst 3, 1, 0, (0, 0, 0, 0, 0, 3)), (97, .invokestatic 209, 3, 0, (5, 3, 0, 0, 0, 0)), (100, .ifCond .eq 16, 3, 0, (0, 0, 0, 0, 0, 0)), (103, .iload_n 3, 1, 0, (0, 0, 0, 0, 0, 0)), (104, .iconst 0, 1, 0, (0, 0, 0, 0, 0, 0)), (105, .iconst 3, 1, 0, (0, 0, 0, 0, 0, 3)), (106, .invokestatic 209, 3, 0, (5, 3, 0, 0, 0, 0)), (109, .ifCond .eq 7, 3, 0, (0, 0, 0, 0, 0, 0)), (112, .iconst 1, 1, 0, (0, 0, 0, 0, 0, 1)), (113, .goto 4, 3, 0, (0, 0, 0, 0, 0, 0)), (116, .iconst 0, 1, 1, (0, 0, 0, 0, 0, 0)), (117, .iload 4, 2, 0, (0, 0, 0, 0, 0, 0)), (119, .iload 4, 2, 0, (0, 0, 0, 0, 0, 0)), (121, .bipush (-99), 2, 0, (0, 0, 0, 0, 0, -99)), (123, .bipush 99, 2, 0, (0, 0, 0, 0, 0, 99)), (125, .invokestatic 209, 3, 0, (5, 3, 0, 0, 0, 0)), (128, .invokevirtual 536, 3, 0, (6, 6, 0, 0, 1, 0)), (131, .i2l, 1, 0, (0, 0, 0, 0, 0, 0)), (132, .lreturn, 1, 0, (0, 0, 0, 0, 0, 0)), (133, .aload_n 0, 1, 0, (0, 0, 0, 0, 0, 0)), (134, .iload_n 2, 1, 0, (0, 0, 0, 0, 0, 0)), (135, .iconst 0, 1, 0, (0, 0, 0, 0, 0, 0)), (136, .bipush 100, 2, 0, (0, 0, 0, 0, 0, 100)), (138, .invokestatic 209, 3, 0, (5, 3, 0, 0, 0, 0)), (141, .ifCond .eq 7, 3, 0, (0, 0, 0, 0, 0, 0)), (144, .iconst 0, 1, 0, (0, 0, 0, 0, 0, 0)), (145, .goto 4, 3, 0, (0, 0, 0, 0, 0, 0)), (148, .iconst 1, 1, 0, (0, 0, 0, 0, 0, 1)), (149, .putfield 180, 3, 2, (12, 0, 0, 1, 0, 0)), (152, .aload_n 0, 1, 0, (0, 0, 0, 0, 0, 0)), (153, .getfield 185, 3, 0, (12, 50, 0, 1, 0, 0)), (156, .istore 6, 2, 0, (0, 0, 0, 0, 0, 0)), (158, .aload_n 0, 1, 0, (0, 0, 0, 0, 0, 0)), (159, .aload_n 0, 1, 0, (0, 0, 0, 0, 0, 0)), (160, .getfield 180, 3, 0, (12, 0, 0, 1, 0, 0)), (163, .ifCond .ne 7, 3, 0, (0, 0, 0, 0, 0, 0)), (166, .iload_n 2, 1, 0, (0, 0, 0, 0, 0, 0)), (167, .goto 7, 3, 0, (0, 0, 0, 0, 0, 0)), (170, .aload_n 0, 1, 0, (0, 0, 0, 0, 0, 0)), (171, .getfield 185, 3, 0, (12, 50, 0, 1, 0, 0)), (174, .putfield 185, 3, 0, (12, 50, 0, 1, 0, 0)), (177, .aload_n 0, 1, 0, (0, 0, 0, 0, 0, 0)), (178, .getfield 180, 3, 0, (12, 0, 0, 1, 0, 0)), (181, .ifCond .ne 9, 3, 0, (0, 0, 0, 0, 0, 0)), (184, .iload 6, 2, 0, (0, 0, 0, 0, 0, 0)), (186, .i2l, 1, 0, (0, 0, 0, 0, 0, 0)), (187, .goto 4, 3, 0, (0, 0, 0, 0, 0, 0)), (190, .lconst 0, 1, 0, (0, 0, 0, 0, 0, 0)), (191, .lreturn, 1, 0, (0, 0, 0, 0, 0, 0)), (192, .aload_n 0, 1, 0, (0, 0, 0, 0, 0, 0)), (193, .iload_n 2, 1, 0, (0, 0, 0, 0, 0, 0)), (194, .iload_n 3, 1, 0, (0, 0, 0, 0, 0, 0)), (195, .iload 4, 2, 0, (0, 0, 0, 0, 0, 0)), (197, .invokevirtual 571, 3, 0, (4, 4, 0, 0, 1, 0)), (200, .lreturn, 1, 0, (0, 0, 0, 0, 0, 0)), (201, .aload_n 0, 1, 0, (0, 0, 0, 0, 0, 0)), (202, .iload_n 2, 1, 0, (0, 0, 0, 0, 0, 0)), (203, .iload_n 3, 1, 0, (0, 0, 0, 0, 0, 0)), (204, .invokevirtual 575, 3, 0, (3, 3, 0, 0, 1, 0)), (207, .i2l, 1, 0, (0, 0, 0, 0, 0, 0)), (208, .lreturn, 1, 0, (0, 0, 0, 0, 0, 0)), (209, .aload_n 0, 1, 0, (0, 0, 0, 0, 0, 0)), (210, .iload_n 2, 1, 0, (0, 0, 0, 0, 0, 0)), (211, .invokevirtual 578, 3, 0, (2, 2, 0, 0, 1, 0)), (214, .i2l, 1, 0, (0, 0, 0, 0, 0, 0)), (215, .lreturn, 1, 0, (0, 0, 0, 0, 0, 0)), (216, .aload_n 0, 1, 0, (0, 0, 0, 0, 0, 0)), (217, .iload_n 2, 1, 0, (0, 0, 0, 0, 0, 0)), (218, .iload_n 3, 1, 0, (0, 0, 0, 0, 0, 0)), (219, .invokevirtual 581, 3, 0, (1, 3, 0, 0, 1, 0)), (222, .i2l, 1, 0, (0, 0, 0, 0, 0, 0)), (223, .lreturn, 1, 0, (0, 0, 0, 0, 0, 0)), (224, .aload_n 0, 1, 0, (0, 0, 0, 0, 0, 0)), (225, .invokevirtual 584, 3, 0, (0, 1, 0, 0, 1, 0)), (228, .i2l, 1, 0, (0, 0, 0, 0, 0, 0)), (229, .lreturn, 1, 0, (0, 0, 0, 0, 0, 0))]
set_option maxRecDepth 100000 in
theorem rk320 : R320.all (rok 2 320 2 [(316, [15]), (311, [15, 0, 0]), (310, [15, 0]), (309, [15, 0, 0]), (308, [15, 0, 0, 0]), (215, [0, 0, 0]), (292, [15, 16, 0, 0, 0, 0]), (305, [15, 0, 0, 0]), (302, [15, 0, 0, 0]), (301, [15, 0, 0, 0, 0])]) = true := by decide +kernel
set_option maxRecDepth 100000 in
theorem tab320 {F316 : PM → Int32 × PM} {G316 : PM → Prop} {F311 : PM → Int32 → Int32 → Int32 × PM} {G311 : PM → Int32 → Int32 → Prop} {F310 : PM → Int32 → Int32 × PM} {G310 : PM → Int32 → Prop} {F309 : PM → Int32 → Int32 → Int32 × PM} {G309 : PM → Int32 → Int32 → Prop} {F308 : PM → Int32 → Int32 → Int32 → Int64 × PM} {G308 : PM → Int32 → Int32 → Int32 → Prop} {F215 : PM → Int32 → Int32 → Int32 → Int32} {G215 : PM → Int32 → Int32 → Int32 → Prop} {F292 : PM → Nat → Int32 → Int32 → Int32 → Int32 → Int32 × PM} {G292 : PM → Nat → Int32 → Int32 → Int32 → Int32 → Prop} {F305 : PM → Int32 → Int32 → Int32 → Int32 × PM} {G305 : PM → Int32 → Int32 → Int32 → Prop} {F302 : PM → Int32 → Int32 → Int32 → Int32 × PM} {G302 : PM → Int32 → Int32 → Int32 → Prop} {F301 : PM → Int32 → Int32 → Int32 → Int32 → Int32 × PM} {G301 : PM → Int32 → Int32 → Int32 → Int32 → Prop} : TabOK 2 320 2 [CC316 F316 G316, CC311 F311 G311, CC310 F310 G310, CC309 F309 G309, CC308 F308 G308, CC215 F215 G215, CC292 F292 G292, CC305 F305 G305, CC302 F302 G302, CC301 F301 G301] R320 := tab_ok (K := K320) rfl rfl (fun h => d320 h) rk320 (by decide +kernel)
set_option maxRecDepth 100000 in
theorem pc320 : cutpc [116, 149] R320 = true := by decide +kernel
set_option maxRecDepth 100000 in
theorem r12_doesMore_116 (F316 : PM → Int32 × PM) (G316 : PM → Prop) (o316 : CalOK 2 (CC316 F316 G316)) (F311 : PM → Int32 → Int32 → Int32 × PM) (G311 : PM → Int32 → Int32 → Prop) (o311 : CalOK 2 (CC311 F311 G311)) (F310 : PM → Int32 → Int32 × PM) (G310 : PM → Int32 → Prop) (o310 : CalOK 2 (CC310 F310 G310)) (F309 : PM → Int32 → Int32 → Int32 × PM) (G309 : PM → Int32 → Int32 → Prop) (o309 : CalOK 2 (CC309 F309 G309)) (F308 : PM → Int32 → Int32 → Int32 → Int64 × PM) (G308 : PM → Int32 → Int32 → Int32 → Prop) (o308 : CalOK 2 (CC308 F308 G308)) (F215 : PM → Int32 → Int32 → Int32 → Int32) (G215 : PM → Int32 → Int32 → Int32 → Prop) (o215 : CalOK 2 (CC215 F215 G215)) (F292 : PM → Nat → Int32 → Int32 → Int32 → Int32 → Int32 × PM) (G292 : PM → Nat → Int32 → Int32 → Int32 → Int32 → Prop) (o292 : CalOK 2 (CC292 F292 G292)) (F305 : PM → Int32 → Int32 → Int32 → Int32 × PM) (G305 : PM → Int32 → Int32 → Int32 → Prop) (o305 : CalOK 2 (CC305 F305 G305)) (F302 : PM → Int32 → Int32 → Int32 → Int32 × PM) (G302 : PM → Int32 → Int32 → Int32 → Prop) (o302 : CalOK 2 (CC302 F302 G302)) (F301 : PM → Int32 → Int32 → Int32 → Int32 → Int32 × PM) (G301 : PM → Int32 → Int32 → Int32 → Int32 → Prop) (o301 : CalOK 2 (CC301 F301 G301)) : ∀ (p : PM) (v4 : Int32) (s0 : Int32) (d0 d1 d2 d3 d5 d6 : ZV), Gr 2 p → bg12_doesMore_116 F215 G215 F292 G292 p v4 s0 → ZJ 2 320 116 [d0, d1, d2, d3, zI v4, d5, d6] [zI s0, zR 13 35, zR 12 1] p (hwL (bv12_doesMore_116 F215 F292 p v4 s0)) := by
  intro p v4 s0 d0 d1 d2 d3 d5 d6 hg H
  exact rwL (n := 3000) (q := 116) (la := [d0, d1, d2, d3, zI v4, d5, d6]) (sa := [zI s0, zR 13 35, zR 12 1]) (ks := [fun _ _ s => (0, s), fun _ _ s => (0, s)]) (gs := [fun _ _ _ => False, fun _ _ _ => False]) (fcons o316 (fcons o311 (fcons o310 (fcons o309 (fcons o308 (fcons o215 (fcons o292 (fcons o305 (fcons o302 (fcons o301 (fnil))))))))))) tab320 pc320 ⟨fun _ _ _ _ H => H.elim, fun _ _ _ _ H => H.elim, trivial⟩ hg H
theorem t12_doesMore_116 : ∀ (p : PM) (v4 : Int32) (s0 : Int32) (d0 d1 d2 d3 d5 d6 : ZV), Gr 2 p → g12_doesMore_116 p v4 s0 → ZJ 2 320 116 [d0, d1, d2, d3, zI v4, d5, d6] [zI s0, zR 13 35, zR 12 1] p (hwL (v12_doesMore_116 p v4 s0)) := r12_doesMore_116 v12_doCloseOut g12_doCloseOut ok316 v12_doBid g12_doBid ok311 v12_doFail g12_doFail ok310 v12_doFund g12_doFund ok309 v12_doPay g12_doPay ok308 v12_in g12_in ok215 v12_puts g12_puts ok292 v12_doConvert g12_doConvert ok305 v12_doExercise g12_doExercise ok302 v12_doAllot g12_doAllot ok301
set_option maxRecDepth 100000 in
theorem r12_doesMore_149 (F316 : PM → Int32 × PM) (G316 : PM → Prop) (o316 : CalOK 2 (CC316 F316 G316)) (F311 : PM → Int32 → Int32 → Int32 × PM) (G311 : PM → Int32 → Int32 → Prop) (o311 : CalOK 2 (CC311 F311 G311)) (F310 : PM → Int32 → Int32 × PM) (G310 : PM → Int32 → Prop) (o310 : CalOK 2 (CC310 F310 G310)) (F309 : PM → Int32 → Int32 → Int32 × PM) (G309 : PM → Int32 → Int32 → Prop) (o309 : CalOK 2 (CC309 F309 G309)) (F308 : PM → Int32 → Int32 → Int32 → Int64 × PM) (G308 : PM → Int32 → Int32 → Int32 → Prop) (o308 : CalOK 2 (CC308 F308 G308)) (F215 : PM → Int32 → Int32 → Int32 → Int32) (G215 : PM → Int32 → Int32 → Int32 → Prop) (o215 : CalOK 2 (CC215 F215 G215)) (F292 : PM → Nat → Int32 → Int32 → Int32 → Int32 → Int32 × PM) (G292 : PM → Nat → Int32 → Int32 → Int32 → Int32 → Prop) (o292 : CalOK 2 (CC292 F292 G292)) (F305 : PM → Int32 → Int32 → Int32 → Int32 × PM) (G305 : PM → Int32 → Int32 → Int32 → Prop) (o305 : CalOK 2 (CC305 F305 G305)) (F302 : PM → Int32 → Int32 → Int32 → Int32 × PM) (G302 : PM → Int32 → Int32 → Int32 → Prop) (o302 : CalOK 2 (CC302 F302 G302)) (F301 : PM → Int32 → Int32 → Int32 → Int32 → Int32 × PM) (G301 : PM → Int32 → Int32 → Int32 → Int32 → Prop) (o301 : CalOK 2 (CC301 F301 G301)) : ∀ (p : PM) (v2 : Int32) (s0 : Int32) (d1 d3 d4 d5 d6 : ZV), Gr 2 p → bg12_doesMore_149 p v2 s0 → ZJ 2 320 149 [zR 12 1, d1, zI v2, d3, d4, d5, d6] [zI s0, zR 12 1] p (hwL (bv12_doesMore_149 p v2 s0)) := by
  intro p v2 s0 d1 d3 d4 d5 d6 hg H
  exact rwL (n := 3000) (q := 149) (la := [zR 12 1, d1, zI v2, d3, d4, d5, d6]) (sa := [zI s0, zR 12 1]) (ks := [fun _ _ s => (0, s), fun _ _ s => (0, s)]) (gs := [fun _ _ _ => False, fun _ _ _ => False]) (fcons o316 (fcons o311 (fcons o310 (fcons o309 (fcons o308 (fcons o215 (fcons o292 (fcons o305 (fcons o302 (fcons o301 (fnil))))))))))) tab320 pc320 ⟨fun _ _ _ _ H => H.elim, fun _ _ _ _ H => H.elim, trivial⟩ hg H
theorem t12_doesMore_149 : ∀ (p : PM) (v2 : Int32) (s0 : Int32) (d1 d3 d4 d5 d6 : ZV), Gr 2 p → g12_doesMore_149 p v2 s0 → ZJ 2 320 149 [zR 12 1, d1, zI v2, d3, d4, d5, d6] [zI s0, zR 12 1] p (hwL (v12_doesMore_149 p v2 s0)) := r12_doesMore_149 v12_doCloseOut g12_doCloseOut ok316 v12_doBid g12_doBid ok311 v12_doFail g12_doFail ok310 v12_doFund g12_doFund ok309 v12_doPay g12_doPay ok308 v12_in g12_in ok215 v12_puts g12_puts ok292 v12_doConvert g12_doConvert ok305 v12_doExercise g12_doExercise ok302 v12_doAllot g12_doAllot ok301
set_option maxRecDepth 100000 in
theorem r12_doesMore (F316 : PM → Int32 × PM) (G316 : PM → Prop) (o316 : CalOK 2 (CC316 F316 G316)) (F311 : PM → Int32 → Int32 → Int32 × PM) (G311 : PM → Int32 → Int32 → Prop) (o311 : CalOK 2 (CC311 F311 G311)) (F310 : PM → Int32 → Int32 × PM) (G310 : PM → Int32 → Prop) (o310 : CalOK 2 (CC310 F310 G310)) (F309 : PM → Int32 → Int32 → Int32 × PM) (G309 : PM → Int32 → Int32 → Prop) (o309 : CalOK 2 (CC309 F309 G309)) (F308 : PM → Int32 → Int32 → Int32 → Int64 × PM) (G308 : PM → Int32 → Int32 → Int32 → Prop) (o308 : CalOK 2 (CC308 F308 G308)) (F215 : PM → Int32 → Int32 → Int32 → Int32) (G215 : PM → Int32 → Int32 → Int32 → Prop) (o215 : CalOK 2 (CC215 F215 G215)) (F292 : PM → Nat → Int32 → Int32 → Int32 → Int32 → Int32 × PM) (G292 : PM → Nat → Int32 → Int32 → Int32 → Int32 → Prop) (o292 : CalOK 2 (CC292 F292 G292)) (F305 : PM → Int32 → Int32 → Int32 → Int32 × PM) (G305 : PM → Int32 → Int32 → Int32 → Prop) (o305 : CalOK 2 (CC305 F305 G305)) (F302 : PM → Int32 → Int32 → Int32 → Int32 × PM) (G302 : PM → Int32 → Int32 → Int32 → Prop) (o302 : CalOK 2 (CC302 F302 G302)) (F301 : PM → Int32 → Int32 → Int32 → Int32 → Int32 × PM) (G301 : PM → Int32 → Int32 → Int32 → Int32 → Prop) (o301 : CalOK 2 (CC301 F301 G301)) (kv116 : PM → Int32 → Int32 → Int64 × PM) (kg116 : PM → Int32 → Int32 → Prop) (hk116 : ∀ (p : PM) (v4 : Int32) (s0 : Int32) (d0 d1 d2 d3 d5 d6 : ZV), Gr 2 p → kg116 p v4 s0 → ZJ 2 320 116 [d0, d1, d2, d3, zI v4, d5, d6] [zI s0, zR 13 35, zR 12 1] p (hwL (kv116 p v4 s0))) (kv149 : PM → Int32 → Int32 → Int64 × PM) (kg149 : PM → Int32 → Int32 → Prop) (hk149 : ∀ (p : PM) (v2 : Int32) (s0 : Int32) (d1 d3 d4 d5 d6 : ZV), Gr 2 p → kg149 p v2 s0 → ZJ 2 320 149 [zR 12 1, d1, zI v2, d3, d4, d5, d6] [zI s0, zR 12 1] p (hwL (kv149 p v2 s0))) : ∀ (p : PM) (v1 : Int32) (v2 : Int32) (v3 : Int32) (v4 : Int32) (v5 : Int32), Gr 2 p → bg12_doesMore F215 G215 F292 G292 F301 G301 F302 G302 F305 G305 F308 G308 F309 G309 F310 G310 F311 G311 F316 G316 kg116 kg149 p v1 v2 v3 v4 v5 → ZJ 2 320 0 [zR 12 1, zI v1, zI v2, zI v3, zI v4, zI v5, zJ] [] p (hwL (bv12_doesMore F215 F292 F301 F302 F305 F308 F309 F310 F311 F316 kv116 kv149 p v1 v2 v3 v4 v5)) := by
  intro p v1 v2 v3 v4 v5  hg H
  exact rwL (n := 3000) (q := 0) (la := [zR 12 1, zI v1, zI v2, zI v3, zI v4, zI v5, zJ]) (sa := []) (ks := [fun la sa s => kv116 s (ai la 4) (ai sa 0), fun la sa s => kv149 s (ai la 2) (ai sa 0)]) (gs := [fun la sa s => zsw (tc2 la [(2, 0), (2, 0), (2, 0), (2, 0), (0, 0), (2, 0), (2, 0)] && tc2 sa [(0, 0), (113, 35), (112, 1)]) False (kg116 s (ai la 4) (ai sa 0)), fun la sa s => zsw (tc2 la [(112, 1), (2, 0), (0, 0), (2, 0), (2, 0), (2, 0), (2, 0)] && tc2 sa [(0, 0), (112, 1)]) False (kg149 s (ai la 2) (ai sa 0))]) (fcons o316 (fcons o311 (fcons o310 (fcons o309 (fcons o308 (fcons o215 (fcons o292 (fcons o305 (fcons o302 (fcons o301 (fnil))))))))))) tab320 pc320 ⟨fun la sa s hg H => zcut H fun H => hk116 s (ai la 4) (ai sa 0) (zld la 0) (zld la 1) (zld la 2) (zld la 3) (zld la 5) (zld la 6) hg H, fun la sa s hg H => zcut H fun H => hk149 s (ai la 2) (ai sa 0) (zld la 1) (zld la 3) (zld la 4) (zld la 5) (zld la 6) hg H, trivial⟩ hg H
theorem t12_doesMore : ∀ (p : PM) (v1 : Int32) (v2 : Int32) (v3 : Int32) (v4 : Int32) (v5 : Int32), Gr 2 p → g12_doesMore p v1 v2 v3 v4 v5 → ZJ 2 320 0 [zR 12 1, zI v1, zI v2, zI v3, zI v4, zI v5, zJ] [] p (hwL (v12_doesMore p v1 v2 v3 v4 v5)) := r12_doesMore v12_doCloseOut g12_doCloseOut ok316 v12_doBid g12_doBid ok311 v12_doFail g12_doFail ok310 v12_doFund g12_doFund ok309 v12_doPay g12_doPay ok308 v12_in g12_in ok215 v12_puts g12_puts ok292 v12_doConvert g12_doConvert ok305 v12_doExercise g12_doExercise ok302 v12_doAllot g12_doAllot ok301 (v12_doesMore_116) (g12_doesMore_116) (t12_doesMore_116) (v12_doesMore_149) (g12_doesMore_149) (t12_doesMore_149)
def CC320 (F : PM → Int32 → Int32 → Int32 → Int32 → Int32 → Int64 × PM) (G : PM → Int32 → Int32 → Int32 → Int32 → Int32 → Prop) : Cal := (320, [15, 0, 0, 0, 0, 0], 2, false, fun as p => (zL (F p (ai as 1) (ai as 2) (ai as 3) (ai as 4) (ai as 5)).1, (F p (ai as 1) (ai as 2) (ai as 3) (ai as 4) (ai as 5)).2), fun as p => zsw (tc2 as [(112, 1), (0, 0), (0, 0), (0, 0), (0, 0), (0, 0)]) False (G p (ai as 1) (ai as 2) (ai as 3) (ai as 4) (ai as 5)))
set_option maxRecDepth 100000 in
theorem okr320 (F : PM → Int32 → Int32 → Int32 → Int32 → Int32 → Int64 × PM) (G : PM → Int32 → Int32 → Int32 → Int32 → Int32 → Prop) (h : ∀ (p : PM) (v1 : Int32) (v2 : Int32) (v3 : Int32) (v4 : Int32) (v5 : Int32), Gr 2 p → G p v1 v2 v3 v4 v5 → ZJ 2 320 0 [zR 12 1, zI v1, zI v2, zI v3, zI v4, zI v5, zJ] [] p (hwL (F p v1 v2 v3 v4 v5))) : CalOK 2 (CC320 F G) := cal_ok (m := 7) (by unfold mL; rw [mX_320]) (fun as p hg H => h p (ai as 1) (ai as 2) (ai as 3) (ai as 4) (ai as 5) hg H)
theorem ok320 : CalOK 2 (CC320 v12_doesMore g12_doesMore) := okr320 v12_doesMore g12_doesMore t12_doesMore
noncomputable def bv12_does_266 (F215 : PM → Int32 → Int32 → Int32 → Int32) (F292 : PM → Nat → Int32 → Int32 → Int32 → Int32 → Int32 × PM) (p : PM) (v4 : Int32) (s0 : Int32) (s1 : Int32) : Int64 × PM :=
  let r1 : Int32 × PM := F292 p 2 s1 s0 v4 (F215 p v4 (cn 0) (cn 999))
  ((r1.1).toInt64, r1.2)
noncomputable def v12_does_266 (p : PM) (v4 : Int32) (s0 : Int32) (s1 : Int32) : Int64 × PM := bv12_does_266 v12_in v12_puts p v4 s0 s1
noncomputable def bg12_does_266 (F215 : PM → Int32 → Int32 → Int32 → Int32) (G215 : PM → Int32 → Int32 → Int32 → Prop) (F292 : PM → Nat → Int32 → Int32 → Int32 → Int32 → Int32 × PM) (G292 : PM → Nat → Int32 → Int32 → Int32 → Int32 → Prop) (p : PM) (v4 : Int32) (s0 : Int32) (s1 : Int32) : Prop :=
  (G215 p v4 (cn 0) (cn 999)) ∧ (
  (G292 p 2 s1 s0 v4 (F215 p v4 (cn 0) (cn 999))) ∧ (
  let r1 : Int32 × PM := F292 p 2 s1 s0 v4 (F215 p v4 (cn 0) (cn 999))
  True))
noncomputable def g12_does_266 (p : PM) (v4 : Int32) (s0 : Int32) (s1 : Int32) : Prop := bg12_does_266 v12_in g12_in v12_puts g12_puts p v4 s0 s1
noncomputable def bv12_does_265 (kv266 : PM → Int32 → Int32 → Int32 → Int64 × PM) (p : PM) (v4 : Int32) (s0 : Int32) : Int64 × PM :=
  kv266 p v4 (cn 0) s0
noncomputable def v12_does_265 (p : PM) (v4 : Int32) (s0 : Int32) : Int64 × PM := bv12_does_265 v12_does_266 p v4 s0
noncomputable def bg12_does_265 (kg266 : PM → Int32 → Int32 → Int32 → Prop) (p : PM) (v4 : Int32) (s0 : Int32) : Prop :=
  kg266 p v4 (cn 0) s0
noncomputable def g12_does_265 (p : PM) (v4 : Int32) (s0 : Int32) : Prop := bg12_does_265 g12_does_266 p v4 s0
noncomputable def bv12_does_334 (F299 : PM → Int32 → Int32 → Int32 → Int32 × PM) (p : PM) (v4 : Int32) (s0 : Int32) (s1 : Int32) : Int64 × PM :=
  let r1 : Int32 × PM := F299 p s1 s0 v4
  ((r1.1).toInt64, r1.2)
noncomputable def v12_does_334 (p : PM) (v4 : Int32) (s0 : Int32) (s1 : Int32) : Int64 × PM := bv12_does_334 v12_doGiveUp p v4 s0 s1
noncomputable def bg12_does_334 (F299 : PM → Int32 → Int32 → Int32 → Int32 × PM) (G299 : PM → Int32 → Int32 → Int32 → Prop) (p : PM) (v4 : Int32) (s0 : Int32) (s1 : Int32) : Prop :=
  (G299 p s1 s0 v4) ∧ (
  let r1 : Int32 × PM := F299 p s1 s0 v4
  True)
noncomputable def g12_does_334 (p : PM) (v4 : Int32) (s0 : Int32) (s1 : Int32) : Prop := bg12_does_334 v12_doGiveUp g12_doGiveUp p v4 s0 s1
noncomputable def bv12_does (F215 : PM → Int32 → Int32 → Int32 → Int32) (F280 : PM → Int32 → Int32) (F284 : PM → Int32 → Int32 → Int32 → Int32 → Int32 → Int32 → Int32 × PM) (F285 : PM → Int32 → Int32 → Int32 → Int32 × PM) (F286 : PM → Int32 → Int32 → Int32 → Int32 → Int32 → Int32 × PM) (F287 : PM → Int32 → Int32 → Int32 → Int32 → Int32 → Int32 × PM) (F288 : PM → Int32 → Int32 → Int32 → Int32 → Int32 → Int32 × PM) (F289 : PM → Int32 → Int32 → Int32 → Int32 → Int32 → Int32 × PM) (F290 : PM → Int32 → Int32 × PM) (F291 : PM → Int32 → Int32 → Int32 → Int32 → Int32 × PM) (F292 : PM → Nat → Int32 → Int32 → Int32 → Int32 → Int32 × PM) (F293 : PM → Int32 → Int32 → Int32 → Int32 → Int32 × PM) (F294 : PM → Int32 → Int32 × PM) (F295 : PM → Int32 × PM) (F297 : PM → Int32 → Int32 × PM) (F298 : PM → Int32 → Int32 → Int32 × PM) (F320 : PM → Int32 → Int32 → Int32 → Int32 → Int32 → Int64 × PM) (kv265 : PM → Int32 → Int32 → Int64 × PM) (kv266 : PM → Int32 → Int32 → Int32 → Int64 × PM) (kv334 : PM → Int32 → Int32 → Int32 → Int64 × PM) (p : PM) (v1 : Int32) (v2 : Int32) (v3 : Int32) (v4 : Int32) (v5 : Int32) (v6 : Int32) (v7 : Int32) : Int64 × PM :=
  if v1 = (cn 0) then (
    let r16 : Int32 × PM := F284 p v2 v3 v4 v5 v6 v7
    ((r16.1).toInt64, r16.2))
  else (
    if v1 = (cn 1) then (
      let r15 : Int32 × PM := F285 p v2 v3 v4
      ((r15.1).toInt64, r15.2))
    else (
      if v1 = (cn 2) then (
        let r14 : Int32 × PM := F286 p v2 v3 v4 v5 v6
        ((r14.1).toInt64, r14.2))
      else (
        if v1 = (cn 3) then (
          let r13 : Int32 × PM := F287 p v2 v3 v4 v5 v6
          ((r13.1).toInt64, r13.2))
        else (
          if v1 = (cn 4) then (
            let r12 : Int32 × PM := F288 p v2 v3 v4 v5 v6
            ((r12.1).toInt64, r12.2))
          else (
            if v1 = (cn 5) then (
              let r11 : Int32 × PM := F289 p v2 v3 v4 v5 v6
              ((r11.1).toInt64, r11.2))
            else (
              if v1 = (cn 6) then (
                let r10 : Int32 × PM := F290 p v2
                ((r10.1).toInt64, r10.2))
              else (
                if v1 = (cn 7) then (
                  let r9 : Int32 × PM := F291 p v2 v3 v4 v5
                  ((r9.1).toInt64, r9.2))
                else (
                  if v1 = (cn 8) then (
                    let r8 : Int32 × PM := F292 p 9 v2 (F215 p v2 (cn 0) (cn 5)) v3 (F215 p v3 (cn 0) (cn 9999))
                    ((r8.1).toInt64, r8.2))
                  else (
                    if v1 = (cn 9) then (
                      let r7 : Int32 × PM := F292 p 3 v2 (F280 p v2) v3 (F215 p v3 (cn 0) (cn 999))
                      ((r7.1).toInt64, r7.2))
                    else (
                      if v1 = (cn 10) then (
                        if (F280 p v2) = 0 then (
                          kv265 p v4 (((cn 4) * v2) + v3))
                        else (
                          if (F215 p v3 (cn 0) (cn 3)) = 0 then (
                            kv265 p v4 (((cn 4) * v2) + v3))
                          else (
                            kv266 p v4 (cn 1) (((cn 4) * v2) + v3))))
                      else (
                        if v1 = (cn 11) then (
                          let r6 : Int32 × PM := F293 p v2 v3 v4 v5
                          ((r6.1).toInt64, r6.2))
                        else (
                          if v1 = (cn 12) then (
                            let r5 : Int32 × PM := F294 p v2
                            ((r5.1).toInt64, r5.2))
                          else (
                            if v1 = (cn 13) then (
                              let r4 : Int32 × PM := F295 p
                              ((r4.1).toInt64, r4.2))
                            else (
                              if v1 = (cn 14) then (
                                let r3 : Int32 × PM := F297 p v2
                                ((r3.1).toInt64, r3.2))
                              else (
                                if v1 = (cn 15) then (
                                  let r2 : Int32 × PM := F298 p v2 v3
                                  ((r2.1).toInt64, r2.2))
                                else (
                                  if v1 = (cn 16) then (
                                    if v3 = (cn 1) then (
                                      kv334 p v4 (cn 1) v2)
                                    else (
                                      kv334 p v4 (cn 0) v2))
                                  else (
                                    let r1 : Int64 × PM := F320 p v1 v2 v3 v4 v5
                                    (r1.1, r1.2))))))))))))))))))
noncomputable def v12_does (p : PM) (v1 : Int32) (v2 : Int32) (v3 : Int32) (v4 : Int32) (v5 : Int32) (v6 : Int32) (v7 : Int32) : Int64 × PM := bv12_does v12_in v12_isAccount v12_doLimit v12_doMarket v12_doIceberg v12_doPeg v12_doStop v12_doQuote v12_doCancel v12_doRule v12_puts v12_doAuction v12_doPass v12_doEndDay v12_doBust v12_doAdjust v12_doesMore v12_does_265 v12_does_266 v12_does_334 p v1 v2 v3 v4 v5 v6 v7
noncomputable def bg12_does (F215 : PM → Int32 → Int32 → Int32 → Int32) (G215 : PM → Int32 → Int32 → Int32 → Prop) (F280 : PM → Int32 → Int32) (G280 : PM → Int32 → Prop) (F284 : PM → Int32 → Int32 → Int32 → Int32 → Int32 → Int32 → Int32 × PM) (G284 : PM → Int32 → Int32 → Int32 → Int32 → Int32 → Int32 → Prop) (F285 : PM → Int32 → Int32 → Int32 → Int32 × PM) (G285 : PM → Int32 → Int32 → Int32 → Prop) (F286 : PM → Int32 → Int32 → Int32 → Int32 → Int32 → Int32 × PM) (G286 : PM → Int32 → Int32 → Int32 → Int32 → Int32 → Prop) (F287 : PM → Int32 → Int32 → Int32 → Int32 → Int32 → Int32 × PM) (G287 : PM → Int32 → Int32 → Int32 → Int32 → Int32 → Prop) (F288 : PM → Int32 → Int32 → Int32 → Int32 → Int32 → Int32 × PM) (G288 : PM → Int32 → Int32 → Int32 → Int32 → Int32 → Prop) (F289 : PM → Int32 → Int32 → Int32 → Int32 → Int32 → Int32 × PM) (G289 : PM → Int32 → Int32 → Int32 → Int32 → Int32 → Prop) (F290 : PM → Int32 → Int32 × PM) (G290 : PM → Int32 → Prop) (F291 : PM → Int32 → Int32 → Int32 → Int32 → Int32 × PM) (G291 : PM → Int32 → Int32 → Int32 → Int32 → Prop) (F292 : PM → Nat → Int32 → Int32 → Int32 → Int32 → Int32 × PM) (G292 : PM → Nat → Int32 → Int32 → Int32 → Int32 → Prop) (F293 : PM → Int32 → Int32 → Int32 → Int32 → Int32 × PM) (G293 : PM → Int32 → Int32 → Int32 → Int32 → Prop) (F294 : PM → Int32 → Int32 × PM) (G294 : PM → Int32 → Prop) (F295 : PM → Int32 × PM) (G295 : PM → Prop) (F297 : PM → Int32 → Int32 × PM) (G297 : PM → Int32 → Prop) (F298 : PM → Int32 → Int32 → Int32 × PM) (G298 : PM → Int32 → Int32 → Prop) (F320 : PM → Int32 → Int32 → Int32 → Int32 → Int32 → Int64 × PM) (G320 : PM → Int32 → Int32 → Int32 → Int32 → Int32 → Prop) (kg265 : PM → Int32 → Int32 → Prop) (kg266 : PM → Int32 → Int32 → Int32 → Prop) (kg334 : PM → Int32 → Int32 → Int32 → Prop) (p : PM) (v1 : Int32) (v2 : Int32) (v3 : Int32) (v4 : Int32) (v5 : Int32) (v6 : Int32) (v7 : Int32) : Prop :=
  if v1 = (cn 0) then (
    (G284 p v2 v3 v4 v5 v6 v7) ∧ (
    let r16 : Int32 × PM := F284 p v2 v3 v4 v5 v6 v7
    True))
  else (
    if v1 = (cn 1) then (
      (G285 p v2 v3 v4) ∧ (
      let r15 : Int32 × PM := F285 p v2 v3 v4
      True))
    else (
      if v1 = (cn 2) then (
        (G286 p v2 v3 v4 v5 v6) ∧ (
        let r14 : Int32 × PM := F286 p v2 v3 v4 v5 v6
        True))
      else (
        if v1 = (cn 3) then (
          (G287 p v2 v3 v4 v5 v6) ∧ (
          let r13 : Int32 × PM := F287 p v2 v3 v4 v5 v6
          True))
        else (
          if v1 = (cn 4) then (
            (G288 p v2 v3 v4 v5 v6) ∧ (
            let r12 : Int32 × PM := F288 p v2 v3 v4 v5 v6
            True))
          else (
            if v1 = (cn 5) then (
              (G289 p v2 v3 v4 v5 v6) ∧ (
              let r11 : Int32 × PM := F289 p v2 v3 v4 v5 v6
              True))
            else (
              if v1 = (cn 6) then (
                (G290 p v2) ∧ (
                let r10 : Int32 × PM := F290 p v2
                True))
              else (
                if v1 = (cn 7) then (
                  (G291 p v2 v3 v4 v5) ∧ (
                  let r9 : Int32 × PM := F291 p v2 v3 v4 v5
                  True))
                else (
                  if v1 = (cn 8) then (
                    (G215 p v2 (cn 0) (cn 5)) ∧ (
                    (G215 p v3 (cn 0) (cn 9999)) ∧ (
                    (G292 p 9 v2 (F215 p v2 (cn 0) (cn 5)) v3 (F215 p v3 (cn 0) (cn 9999))) ∧ (
                    let r8 : Int32 × PM := F292 p 9 v2 (F215 p v2 (cn 0) (cn 5)) v3 (F215 p v3 (cn 0) (cn 9999))
                    True))))
                  else (
                    if v1 = (cn 9) then (
                      (G280 p v2) ∧ (
                      (G215 p v3 (cn 0) (cn 999)) ∧ (
                      (G292 p 3 v2 (F280 p v2) v3 (F215 p v3 (cn 0) (cn 999))) ∧ (
                      let r7 : Int32 × PM := F292 p 3 v2 (F280 p v2) v3 (F215 p v3 (cn 0) (cn 999))
                      True))))
                    else (
                      if v1 = (cn 10) then (
                        (G280 p v2) ∧ (
                        if (F280 p v2) = 0 then (
                          kg265 p v4 (((cn 4) * v2) + v3))
                        else (
                          (G215 p v3 (cn 0) (cn 3)) ∧ (
                          if (F215 p v3 (cn 0) (cn 3)) = 0 then (
                            kg265 p v4 (((cn 4) * v2) + v3))
                          else (
                            kg266 p v4 (cn 1) (((cn 4) * v2) + v3))))))
                      else (
                        if v1 = (cn 11) then (
                          (G293 p v2 v3 v4 v5) ∧ (
                          let r6 : Int32 × PM := F293 p v2 v3 v4 v5
                          True))
                        else (
                          if v1 = (cn 12) then (
                            (G294 p v2) ∧ (
                            let r5 : Int32 × PM := F294 p v2
                            True))
                          else (
                            if v1 = (cn 13) then (
                              (G295 p) ∧ (
                              let r4 : Int32 × PM := F295 p
                              True))
                            else (
                              if v1 = (cn 14) then (
                                (G297 p v2) ∧ (
                                let r3 : Int32 × PM := F297 p v2
                                True))
                              else (
                                if v1 = (cn 15) then (
                                  (G298 p v2 v3) ∧ (
                                  let r2 : Int32 × PM := F298 p v2 v3
                                  True))
                                else (
                                  if v1 = (cn 16) then (
                                    if v3 = (cn 1) then (
                                      kg334 p v4 (cn 1) v2)
                                    else (
                                      kg334 p v4 (cn 0) v2))
                                  else (
                                    (G320 p v1 v2 v3 v4 v5) ∧ (
                                    let r1 : Int64 × PM := F320 p v1 v2 v3 v4 v5
                                    True))))))))))))))))))
noncomputable def g12_does (p : PM) (v1 : Int32) (v2 : Int32) (v3 : Int32) (v4 : Int32) (v5 : Int32) (v6 : Int32) (v7 : Int32) : Prop := bg12_does v12_in g12_in v12_isAccount g12_isAccount v12_doLimit g12_doLimit v12_doMarket g12_doMarket v12_doIceberg g12_doIceberg v12_doPeg g12_doPeg v12_doStop g12_doStop v12_doQuote g12_doQuote v12_doCancel g12_doCancel v12_doRule g12_doRule v12_puts g12_puts v12_doAuction g12_doAuction v12_doPass g12_doPass v12_doEndDay g12_doEndDay v12_doBust g12_doBust v12_doAdjust g12_doAdjust v12_doesMore g12_doesMore g12_does_265 g12_does_266 g12_does_334 p v1 v2 v3 v4 v5 v6 v7
def R319 : List Row := [(0, .iload_n 1, 1, 0, (0, 0, 0, 0, 0, 0)), (1, .tableswitch 340 0 16 #[83, 99, 109, 123, 137, 151, 165, 172, 184, 210, 234, 281, 293, 300, 306, 313, 321], 83, 0, (0, 0, 0, 0, 0, 0)), (84, .aload_n 0, 1, 0, (0, 0, 0, 0, 0, 0)), (85, .iload_n 2, 1, 0, (0, 0, 0, 0, 0, 0)), (86, .iload_n 3, 1, 0, (0, 0, 0, 0, 0, 0)), (87, .iload 4, 2, 0, (0, 0, 0, 0, 0, 0)), (89, .iload 5, 2, 0, (0, 0, 0, 0, 0, 0)), (91, .iload 6, 2, 0, (0, 0, 0, 0, 0, 0)), (93, .iload 7, 2, 0, (0, 0, 0, 0, 0, 0)), (95, .invokevirtual 509, 3, 0, (16, 7, 0, 0, 1, 0)), (98, .i2l, 1, 0, (0, 0, 0, 0, 0, 0)), (99, .lreturn, 1, 0, (0, 0, 0, 0, 0, 0)), (100, .aload_n 0, 1, 0, (0, 0, 0, 0, 0, 0)), (101, .iload_n 2, 1, 0, (0, 0, 0, 0, 0, 0)), (102, .iload_n 3, 1, 0, (0, 0, 0, 0, 0, 0)), (103, .iload 4, 2, 0, (0, 0, 0, 0, 0, 0)), (105, .invokevirtual 513, 3, 0, (15, 4, 0, 0, 1, 0)), (108, .i2l, 1, 0, (0, 0, 0, 0, 0, 0)), (109, .lreturn, 1, 0, (0, 0, 0, 0, 0, 0)), (110, .aload_n 0, 1, 0, (0, 0, 0, 0, 0, 0)), (111, .iload_n 2, 1, 0, (0, 0, 0, 0, 0, 0)), (112, .iload_n 3, 1, 0, (0, 0, 0, 0, 0, 0)), (113, .iload 4, 2, 0, (0, 0, 0, 0, 0, 0)), (115, .iload 5, 2, 0, (0, 0, 0, 0, 0, 0)), (117, .iload 6, 2, 0, (0, 0, 0, 0, 0, 0)), (119, .invokevirtual 516, 3, 0, (14, 6, 0, 0, 1, 0)), (122, .i2l, 1, 0, (0, 0, 0, 0, 0, 0)), (123, .lreturn, 1, 0, (0, 0, 0, 0, 0, 0)), (124, .aload_n 0, 1, 0, (0, 0, 0, 0, 0, 0)), (125, .iload_n 2, 1, 0, (0, 0, 0, 0, 0, 0)), (126, .iload_n 3, 1, 0, (0, 0, 0, 0, 0, 0)), (127, .iload 4, 2, 0, (0, 0, 0, 0, 0, 0)), (129, .iload 5, 2, 0, (0, 0, 0, 0, 0, 0)), (131, .iload 6, 2, 0, (0, 0, 0, 0, 0, 0)), (133, .invokevirtual 520, 3, 0, (13, 6, 0, 0, 1, 0)), (136, .i2l, 1, 0, (0, 0, 0, 0, 0, 0)), (137, .lreturn, 1, 0, (0, 0, 0, 0, 0, 0)), (138, .aload_n 0, 1, 0, (0, 0, 0, 0, 0, 0)), (139, .iload_n 2, 1, 0, (0, 0, 0, 0, 0, 0)), (140, .iload_n 3, 1, 0, (0, 0, 0, 0, 0, 0)), (141, .iload 4, 2, 0, (0, 0, 0, 0, 0, 0)), (143, .iload 5, 2, 0, (0, 0, 0, 0, 0, 0)), (145, .iload 6, 2, 0, (0, 0, 0, 0, 0, 0)), (147, .invokevirtual 523, 3, 0, (12, 6, 0, 0, 1, 0)), (150, .i2l, 1, 0, (0, 0, 0, 0, 0, 0)), (151, .lreturn, 1, 0, (0, 0, 0, 0, 0, 0)), (152, .aload_n 0, 1, 0, (0, 0, 0, 0, 0, 0)), (153, .iload_n 2, 1, 0, (0, 0, 0, 0, 0, 0)), (154, .iload_n 3, 1, 0, (0, 0, 0, 0, 0, 0)), (155, .iload 4, 2, 0, (0, 0, 0, 0, 0, 0)), (157, .iload 5, 2, 0, (0, 0, 0, 0, 0, 0)), (159, .iload 6, 2, 0, (0, 0, 0, 0, 0, 0)), (161, .invokevirtual 526, 3, 0, (11, 6, 0, 0, 1, 0)), (164, .i2l, 1, 0, (0, 0, 0, 0, 0, 0)), (165, .lreturn, 1, 0, (0, 0, 0, 0, 0, 0)), (166, .aload_n 0, 1, 0, (0, 0, 0, 0, 0, 0)), (167, .iload_n 2, 1, 0, (0, 0, 0, 0, 0, 0)), (168, .invokevirtual 529, 3, 0, (10, 2, 0, 0, 1, 0)), (171, .i2l, 1, 0, (0, 0, 0, 0, 0, 0)), (172, .lreturn, 1, 0, (0, 0, 0, 0, 0, 0)), (173, .aload_n 0, 1, 0, (0, 0, 0, 0, 0, 0)), (174, .iload_n 2, 1, 0, (0, 0, 0, 0, 0, 0)), (175, .iload_n 3, 1, 0, (0, 0, 0, 0, 0, 0)), (176, .iload 4, 2, 0, (0, 0, 0, 0, 0, 0)), (178, .iload 5, 2, 0, (0, 0, 0, 0, 0, 0)), (180, .invokevirtual 532, 3, 0, (9, 5, 0, 0, 1, 0)), (183, .i2l, 1, 0, (0, 0, 0, 0, 0, 0)), (184, .lreturn, 1, 0, (0, 0, 0, 0, 0, 0)), (185, .aload_n 0, 1, 0, (0, 0, 0, 0, 0, 0)), (186, .aload_n 0, 1, 0, (0, 0, 0, 0, 0, 0)), (187, .getfield 42, 3, 0, (12, 11, 16, 2, 9, 0)), (190, .iload_n 2, 1, 0, (0, 0, 0, 0, 0, 0)), (191, .iload_n 2, 1, 0, (0, 0, 0, 0, 0, 0)), (192, .iconst 0, 1, 0, (0, 0, 0, 0, 0, 0)), (193, .iconst 5, 1, 0, (0, 0, 0, 0, 0, 5)), (194, .invokestatic 209, 3, 0, (7, 3, 0, 0, 0, 0)), (197, .iload_n 3, 1, 0, (0, 0, 0, 0, 0, 0)), (198, .iload_n 3, 1, 0, (0, 0, 0, 0, 0, 0)), (199, .iconst 0, 1, 0, (0, 0, 0, 0, 0, 0)), (200, .sipush 9999, 3, 0, (0, 0, 0, 0, 0, 9999)), (203, .invokestatic 209, 3, 0, (7, 3, 0, 0, 0, 0)), (206, .invokevirtual 536, 3, 0, (8, 6, 0, 0, 1, 0)), (209, .i2l, 1, 0, (0, 0, 0, 0, 0, 0)), (210, .lreturn, 1, 0, (0, 0, 0, 0, 0, 0)), (211, .aload_n 0, 1, 0, (0, 0, 0, 0, 0, 0)), (212, .aload_n 0, 1, 0, (0, 0, 0, 0, 0, 0)), (213, .getfield 20, 3, 0, (12, 4, 16, 2, 3, 0)), (216, .iload_n 2, 1, 0, (0, 0, 0, 0, 0, 0)), (217, .iload_n 2, 1, 0, (0, 0, 0, 0, 0, 0)), (218, .invokestatic 429, 3, 0, (6, 1, 0, 0, 0, 0)), (221, .iload_n 3, 1, 0, (0, 0, 0, 0, 0, 0)), (222, .iload_n 3, 1, 0, (0, 0, 0, 0, 0, 0)), (223, .iconst 0, 1, 0, (0, 0, 0, 0, 0, 0)), (224, .sipush 999, 3, 0, (0, 0, 0, 0, 0, 999)), (227, .invokestatic 209, 3, 0, (7, 3, 0, 0, 0, 0)), (230, .invokevirtual 536, 3, 0, (8, 6, 0, 0, 1, 0)), (233, .i2l, 1, 0, (0, 0, 0, 0, 0, 0)), (234, .lreturn, 1, 0, (0, 0, 0, 0, 0, 0)), (235, .aload_n 0, 1, 0, (0, 0, 0, 0, 0, 0)), (236, .aload_n 0, 1, 0, (0, 0, 0, 0, 0, 0)), (237, .getfield 17, 3, 0, (12, 3, 16, 2, 2, 0)), (240, .iconst 4, 1, 0, (0, 0, 0, 0, 0, 4)), (241, .iload_n 2, 1, 0, (0, 0, 0, 0, 0, 0)), (242, .imul, 1, 0, (0, 0, 0, 0, 0, 0)), (243, .iload_n 3, 1, 0, (0, 0, 0, 0, 0, 0)), (244, .iadd, 1, 0, (0, 0, 0, 0, 0, 0)), (245, .iload_n 2, 1, 0, (0, 0, 0, 0, 0, 0)), (246, .invokestatic 429, 3, 0, (6, 1, 0, 0, 0, 0)), (249, .ifCond .eq 16, 3, 0, (0, 0, 0, 0, 0, 0)), (252, .iload_n 3, 1, 0, (0, 0, 0, 0, 0, 0)), (253, .iconst 0, 1, 0, (0, 0, 0, 0, 0, 0)), (254, .iconst 3, 1, 0, (0, 0, 0, 0, 0, 3)), (255, .invokestatic 209, 3, 0, (7, 3, 0, 0, 0, 0)), (258, .ifCond .eq 7, 3, 0, (0, 0, 0, 0, 0, 0)), (261, .iconst 1, 1, 0, (0, 0, 0, 0, 0, 1)), (262, .goto 4, 3, 0, (0, 0, 0, 0, 0, 0)), (265, .iconst 0, 1, 1, (0, 0, 0, 0, 0, 0)), (266, .iload 4, 2, 2, (0, 0, 0, 0, 0, 0)), (268, .iload 4, 2, 0, (0, 0, 0, 0, 0, 0)), (270, .iconst 0, 1, 0, (0, 0, 0, 0, 0, 0)), (271, .sipush 999, 3, 0, (0, 0, 0, 0, 0, 999)), (274, .invokestatic 209, 3, 0, (7, 3, 0, 0, 0, 0)), (277, .invokevirtual 536, 3, 0, (8, 6, 0, 0, 1, 0)), (280, .i2l, 1, 0, (0, 0, 0, 0, 0, 0)), (281, .lreturn, 1, 0, (0, 0, 0, 0, 0, 0)), (282, .aload_n 0, 1, 0, (0, 0, 0, 0, 0, 0)), (283, .iload_n 2, 1, 0, (0, 0, 0, 0, 0, 0)), (284, .iload_n 3, 1, 0, (0, 0, 0, 0, 0, 0)), (285, .iload 4, 2, 0, (0, 0, 0, 0, 0, 0)), (287, .iload 5, 2, 0, (0, 0, 0, 0, 0, 0)), (289, .invokevirtual 540, 3, 0, (5, 5, 0, 0, 1, 0)), (292, .i2l, 1, 0, (0, 0, 0, 0, 0, 0)), (293, .lreturn, 1, 0, (0, 0, 0, 0, 0, 0)), (294, .aload_n 0, 1, 0, (0, 0, 0, 0, 0, 0)), (295, .iload_n 2, 1, 0, (0, 0, 0, 0, 0, 0)), (296, .invokevirtual 543, 3, 0, (4, 2, 0, 0, 1, 0)), (299, .i2l, 1, 0, (0, 0, 0, 0, 0, 0)), (300, .lreturn, 1, 0, (0, 0, 0, 0, 0, 0)), (301, .aload_n 0, 1, 0, (0, 0, 0, 0, 0, 0)), (302, .invokevirtual 546, 3, 0, (3, 1, 0, 0, 1, 0)), (305, .i2l, 1, 0, (0, 0, 0, 0, 0, 0)), (306, .lreturn, 1, 0, (0, 0, 0, 0, 0, 0)), (307, .aload_n 0, 1, 0, (0, 0, 0, 0, 0, 0)), (308, .iload_n 2, 1, 0, (0, 0, 0, 0, 0, 0)), (309, .invokevirtual 549, 3, 0, (2, 2, 0, 0, 1, 0)), (312, .i2l, 1, 0, (0, 0, 0, 0, 0, 0)), (313, .lreturn, 1, 0, (0, 0, 0, 0, 0, 0)), (314, .aload_n 0, 1, 0, (0, 0, 0, 0, 0, 0)), (315, .iload_n 2, 1, 0, (0, 0, 0, 0, 0, 0)), (316, .iload_n 3, 1, 0, (0, 0, 0, 0, 0, 0)), (317, .invokevirtual 552, 3, 0, (1, 3, 0, 0, 1, 0)), (320, .i2l, 1, 0, (0, 0, 0, 0, 0, 0)), (321, .lreturn, 1, 0, (0, 0, 0, 0, 0, 0)), (322, .aload_n 0, 1, 0, (0, 0, 0, 0, 0, 0)), (323, .iload_n 2, 1, 0, (0, 0, 0, 0, 0, 0)), (324, .iload_n 3, 1, 0, (0, 0, 0, 0, 0, 0)), (325, .iconst 1, 1, 0, (0, 0, 0, 0, 0, 1)), (326, .if_icmp .ne 7, 3, 0, (0, 0, 0, 0, 0, 0)), (329, .iconst 1, 1, 0, (0, 0, 0, 0, 0, 1)), (330, .goto 4, 3, 0, (0, 0, 0, 0, 0, 0)), (333, .iconst 0, 1, 0, (0, 0, 0, 0, 0, 0)), (334, .iload 4, 2, 3, (0, 0, 0, 0, 0, 0)), (336, .invokevirtual 555, 3, 0, (17, 4, 0, 0, 1, 0)), (339, .i2l, 1, 0, (0, 0, 0, 0, 0, 0)), (340, .lreturn, 1, 0, (0, 0, 0, 0, 0, 0)), (341, .aload_n 0, 1, 0, (0, 0, 0, 0, 0, 0)), (342, .iload_n 1, 1, 0, (0, 0, 0, 0, 0, 0)), (343, .iload_n 2, 1, 0, (0, 0, 0, 0, 0, 0)), (344, .iload_n 3, 1, 0, (0, 0, 0, 0, 0, 0)), (345, .iload 4, 2, 0, (0, 0, 0, 0, 0, 0)), (347, .iload 5, 2, 0, (0, 0, 0, 0, 0, 0)), (349, .invokevirtual 558, 3, 0, (0, 6, 0, 0, 1, 0)), (352, .lreturn, 1, 0, (0, 0, 0, 0, 0, 0))]
set_option maxRecDepth 100000 in
theorem rk319 : R319.all (rok 2 319 2 [(320, [15, 0, 0, 0, 0, 0]), (298, [15, 0, 0]), (297, [15, 0]), (295, [15]), (294, [15, 0]), (293, [15, 0, 0, 0, 0]), (280, [0]), (215, [0, 0, 0]), (292, [15, 16, 0, 0, 0, 0]), (291, [15, 0, 0, 0, 0]), (290, [15, 0]), (289, [15, 0, 0, 0, 0, 0]), (288, [15, 0, 0, 0, 0, 0]), (287, [15, 0, 0, 0, 0, 0]), (286, [15, 0, 0, 0, 0, 0]), (285, [15, 0, 0, 0]), (284, [15, 0, 0, 0, 0, 0, 0]), (299, [15, 0, 0, 0])]) = true := by decide +kernel
set_option maxRecDepth 100000 in
theorem tab319 {F320 : PM → Int32 → Int32 → Int32 → Int32 → Int32 → Int64 × PM} {G320 : PM → Int32 → Int32 → Int32 → Int32 → Int32 → Prop} {F298 : PM → Int32 → Int32 → Int32 × PM} {G298 : PM → Int32 → Int32 → Prop} {F297 : PM → Int32 → Int32 × PM} {G297 : PM → Int32 → Prop} {F295 : PM → Int32 × PM} {G295 : PM → Prop} {F294 : PM → Int32 → Int32 × PM} {G294 : PM → Int32 → Prop} {F293 : PM → Int32 → Int32 → Int32 → Int32 → Int32 × PM} {G293 : PM → Int32 → Int32 → Int32 → Int32 → Prop} {F280 : PM → Int32 → Int32} {G280 : PM → Int32 → Prop} {F215 : PM → Int32 → Int32 → Int32 → Int32} {G215 : PM → Int32 → Int32 → Int32 → Prop} {F292 : PM → Nat → Int32 → Int32 → Int32 → Int32 → Int32 × PM} {G292 : PM → Nat → Int32 → Int32 → Int32 → Int32 → Prop} {F291 : PM → Int32 → Int32 → Int32 → Int32 → Int32 × PM} {G291 : PM → Int32 → Int32 → Int32 → Int32 → Prop} {F290 : PM → Int32 → Int32 × PM} {G290 : PM → Int32 → Prop} {F289 : PM → Int32 → Int32 → Int32 → Int32 → Int32 → Int32 × PM} {G289 : PM → Int32 → Int32 → Int32 → Int32 → Int32 → Prop} {F288 : PM → Int32 → Int32 → Int32 → Int32 → Int32 → Int32 × PM} {G288 : PM → Int32 → Int32 → Int32 → Int32 → Int32 → Prop} {F287 : PM → Int32 → Int32 → Int32 → Int32 → Int32 → Int32 × PM} {G287 : PM → Int32 → Int32 → Int32 → Int32 → Int32 → Prop} {F286 : PM → Int32 → Int32 → Int32 → Int32 → Int32 → Int32 × PM} {G286 : PM → Int32 → Int32 → Int32 → Int32 → Int32 → Prop} {F285 : PM → Int32 → Int32 → Int32 → Int32 × PM} {G285 : PM → Int32 → Int32 → Int32 → Prop} {F284 : PM → Int32 → Int32 → Int32 → Int32 → Int32 → Int32 → Int32 × PM} {G284 : PM → Int32 → Int32 → Int32 → Int32 → Int32 → Int32 → Prop} {F299 : PM → Int32 → Int32 → Int32 → Int32 × PM} {G299 : PM → Int32 → Int32 → Int32 → Prop} : TabOK 2 319 2 [CC320 F320 G320, CC298 F298 G298, CC297 F297 G297, CC295 F295 G295, CC294 F294 G294, CC293 F293 G293, CC280 F280 G280, CC215 F215 G215, CC292 F292 G292, CC291 F291 G291, CC290 F290 G290, CC289 F289 G289, CC288 F288 G288, CC287 F287 G287, CC286 F286 G286, CC285 F285 G285, CC284 F284 G284, CC299 F299 G299] R319 := tab_ok (K := K319) rfl rfl (fun h => d319 h) rk319 (by decide +kernel)
set_option maxRecDepth 100000 in
theorem pc319 : cutpc [265, 266, 334] R319 = true := by decide +kernel
set_option maxRecDepth 100000 in
theorem r12_does_266 (F320 : PM → Int32 → Int32 → Int32 → Int32 → Int32 → Int64 × PM) (G320 : PM → Int32 → Int32 → Int32 → Int32 → Int32 → Prop) (o320 : CalOK 2 (CC320 F320 G320)) (F298 : PM → Int32 → Int32 → Int32 × PM) (G298 : PM → Int32 → Int32 → Prop) (o298 : CalOK 2 (CC298 F298 G298)) (F297 : PM → Int32 → Int32 × PM) (G297 : PM → Int32 → Prop) (o297 : CalOK 2 (CC297 F297 G297)) (F295 : PM → Int32 × PM) (G295 : PM → Prop) (o295 : CalOK 2 (CC295 F295 G295)) (F294 : PM → Int32 → Int32 × PM) (G294 : PM → Int32 → Prop) (o294 : CalOK 2 (CC294 F294 G294)) (F293 : PM → Int32 → Int32 → Int32 → Int32 → Int32 × PM) (G293 : PM → Int32 → Int32 → Int32 → Int32 → Prop) (o293 : CalOK 2 (CC293 F293 G293)) (F280 : PM → Int32 → Int32) (G280 : PM → Int32 → Prop) (o280 : CalOK 2 (CC280 F280 G280)) (F215 : PM → Int32 → Int32 → Int32 → Int32) (G215 : PM → Int32 → Int32 → Int32 → Prop) (o215 : CalOK 2 (CC215 F215 G215)) (F292 : PM → Nat → Int32 → Int32 → Int32 → Int32 → Int32 × PM) (G292 : PM → Nat → Int32 → Int32 → Int32 → Int32 → Prop) (o292 : CalOK 2 (CC292 F292 G292)) (F291 : PM → Int32 → Int32 → Int32 → Int32 → Int32 × PM) (G291 : PM → Int32 → Int32 → Int32 → Int32 → Prop) (o291 : CalOK 2 (CC291 F291 G291)) (F290 : PM → Int32 → Int32 × PM) (G290 : PM → Int32 → Prop) (o290 : CalOK 2 (CC290 F290 G290)) (F289 : PM → Int32 → Int32 → Int32 → Int32 → Int32 → Int32 × PM) (G289 : PM → Int32 → Int32 → Int32 → Int32 → Int32 → Prop) (o289 : CalOK 2 (CC289 F289 G289)) (F288 : PM → Int32 → Int32 → Int32 → Int32 → Int32 → Int32 × PM) (G288 : PM → Int32 → Int32 → Int32 → Int32 → Int32 → Prop) (o288 : CalOK 2 (CC288 F288 G288)) (F287 : PM → Int32 → Int32 → Int32 → Int32 → Int32 → Int32 × PM) (G287 : PM → Int32 → Int32 → Int32 → Int32 → Int32 → Prop) (o287 : CalOK 2 (CC287 F287 G287)) (F286 : PM → Int32 → Int32 → Int32 → Int32 → Int32 → Int32 × PM) (G286 : PM → Int32 → Int32 → Int32 → Int32 → Int32 → Prop) (o286 : CalOK 2 (CC286 F286 G286)) (F285 : PM → Int32 → Int32 → Int32 → Int32 × PM) (G285 : PM → Int32 → Int32 → Int32 → Prop) (o285 : CalOK 2 (CC285 F285 G285)) (F284 : PM → Int32 → Int32 → Int32 → Int32 → Int32 → Int32 → Int32 × PM) (G284 : PM → Int32 → Int32 → Int32 → Int32 → Int32 → Int32 → Prop) (o284 : CalOK 2 (CC284 F284 G284)) (F299 : PM → Int32 → Int32 → Int32 → Int32 × PM) (G299 : PM → Int32 → Int32 → Int32 → Prop) (o299 : CalOK 2 (CC299 F299 G299)) : ∀ (p : PM) (v4 : Int32) (s0 : Int32) (s1 : Int32) (d0 d1 d2 d3 d5 d6 d7 : ZV), Gr 2 p → bg12_does_266 F215 G215 F292 G292 p v4 s0 s1 → ZJ 2 319 266 [d0, d1, d2, d3, zI v4, d5, d6, d7] [zI s0, zI s1, zR 13 2, zR 12 1] p (hwL (bv12_does_266 F215 F292 p v4 s0 s1)) := by
  intro p v4 s0 s1 d0 d1 d2 d3 d5 d6 d7 hg H
  exact rwL (n := 3000) (q := 266) (la := [d0, d1, d2, d3, zI v4, d5, d6, d7]) (sa := [zI s0, zI s1, zR 13 2, zR 12 1]) (ks := [fun _ _ s => (0, s), fun _ _ s => (0, s), fun _ _ s => (0, s)]) (gs := [fun _ _ _ => False, fun _ _ _ => False, fun _ _ _ => False]) (fcons o320 (fcons o298 (fcons o297 (fcons o295 (fcons o294 (fcons o293 (fcons o280 (fcons o215 (fcons o292 (fcons o291 (fcons o290 (fcons o289 (fcons o288 (fcons o287 (fcons o286 (fcons o285 (fcons o284 (fcons o299 (fnil))))))))))))))))))) tab319 pc319 ⟨fun _ _ _ _ H => H.elim, fun _ _ _ _ H => H.elim, fun _ _ _ _ H => H.elim, trivial⟩ hg H
theorem t12_does_266 : ∀ (p : PM) (v4 : Int32) (s0 : Int32) (s1 : Int32) (d0 d1 d2 d3 d5 d6 d7 : ZV), Gr 2 p → g12_does_266 p v4 s0 s1 → ZJ 2 319 266 [d0, d1, d2, d3, zI v4, d5, d6, d7] [zI s0, zI s1, zR 13 2, zR 12 1] p (hwL (v12_does_266 p v4 s0 s1)) := r12_does_266 v12_doesMore g12_doesMore ok320 v12_doAdjust g12_doAdjust ok298 v12_doBust g12_doBust ok297 v12_doEndDay g12_doEndDay ok295 v12_doPass g12_doPass ok294 v12_doAuction g12_doAuction ok293 v12_isAccount g12_isAccount ok280 v12_in g12_in ok215 v12_puts g12_puts ok292 v12_doRule g12_doRule ok291 v12_doCancel g12_doCancel ok290 v12_doQuote g12_doQuote ok289 v12_doStop g12_doStop ok288 v12_doPeg g12_doPeg ok287 v12_doIceberg g12_doIceberg ok286 v12_doMarket g12_doMarket ok285 v12_doLimit g12_doLimit ok284 v12_doGiveUp g12_doGiveUp ok299
set_option maxRecDepth 100000 in
theorem r12_does_265 (F320 : PM → Int32 → Int32 → Int32 → Int32 → Int32 → Int64 × PM) (G320 : PM → Int32 → Int32 → Int32 → Int32 → Int32 → Prop) (o320 : CalOK 2 (CC320 F320 G320)) (F298 : PM → Int32 → Int32 → Int32 × PM) (G298 : PM → Int32 → Int32 → Prop) (o298 : CalOK 2 (CC298 F298 G298)) (F297 : PM → Int32 → Int32 × PM) (G297 : PM → Int32 → Prop) (o297 : CalOK 2 (CC297 F297 G297)) (F295 : PM → Int32 × PM) (G295 : PM → Prop) (o295 : CalOK 2 (CC295 F295 G295)) (F294 : PM → Int32 → Int32 × PM) (G294 : PM → Int32 → Prop) (o294 : CalOK 2 (CC294 F294 G294)) (F293 : PM → Int32 → Int32 → Int32 → Int32 → Int32 × PM) (G293 : PM → Int32 → Int32 → Int32 → Int32 → Prop) (o293 : CalOK 2 (CC293 F293 G293)) (F280 : PM → Int32 → Int32) (G280 : PM → Int32 → Prop) (o280 : CalOK 2 (CC280 F280 G280)) (F215 : PM → Int32 → Int32 → Int32 → Int32) (G215 : PM → Int32 → Int32 → Int32 → Prop) (o215 : CalOK 2 (CC215 F215 G215)) (F292 : PM → Nat → Int32 → Int32 → Int32 → Int32 → Int32 × PM) (G292 : PM → Nat → Int32 → Int32 → Int32 → Int32 → Prop) (o292 : CalOK 2 (CC292 F292 G292)) (F291 : PM → Int32 → Int32 → Int32 → Int32 → Int32 × PM) (G291 : PM → Int32 → Int32 → Int32 → Int32 → Prop) (o291 : CalOK 2 (CC291 F291 G291)) (F290 : PM → Int32 → Int32 × PM) (G290 : PM → Int32 → Prop) (o290 : CalOK 2 (CC290 F290 G290)) (F289 : PM → Int32 → Int32 → Int32 → Int32 → Int32 → Int32 × PM) (G289 : PM → Int32 → Int32 → Int32 → Int32 → Int32 → Prop) (o289 : CalOK 2 (CC289 F289 G289)) (F288 : PM → Int32 → Int32 → Int32 → Int32 → Int32 → Int32 × PM) (G288 : PM → Int32 → Int32 → Int32 → Int32 → Int32 → Prop) (o288 : CalOK 2 (CC288 F288 G288)) (F287 : PM → Int32 → Int32 → Int32 → Int32 → Int32 → Int32 × PM) (G287 : PM → Int32 → Int32 → Int32 → Int32 → Int32 → Prop) (o287 : CalOK 2 (CC287 F287 G287)) (F286 : PM → Int32 → Int32 → Int32 → Int32 → Int32 → Int32 × PM) (G286 : PM → Int32 → Int32 → Int32 → Int32 → Int32 → Prop) (o286 : CalOK 2 (CC286 F286 G286)) (F285 : PM → Int32 → Int32 → Int32 → Int32 × PM) (G285 : PM → Int32 → Int32 → Int32 → Prop) (o285 : CalOK 2 (CC285 F285 G285)) (F284 : PM → Int32 → Int32 → Int32 → Int32 → Int32 → Int32 → Int32 × PM) (G284 : PM → Int32 → Int32 → Int32 → Int32 → Int32 → Int32 → Prop) (o284 : CalOK 2 (CC284 F284 G284)) (F299 : PM → Int32 → Int32 → Int32 → Int32 × PM) (G299 : PM → Int32 → Int32 → Int32 → Prop) (o299 : CalOK 2 (CC299 F299 G299)) (kv266 : PM → Int32 → Int32 → Int32 → Int64 × PM) (kg266 : PM → Int32 → Int32 → Int32 → Prop) (hk266 : ∀ (p : PM) (v4 : Int32) (s0 : Int32) (s1 : Int32) (d0 d1 d2 d3 d5 d6 d7 : ZV), Gr 2 p → kg266 p v4 s0 s1 → ZJ 2 319 266 [d0, d1, d2, d3, zI v4, d5, d6, d7] [zI s0, zI s1, zR 13 2, zR 12 1] p (hwL (kv266 p v4 s0 s1))) : ∀ (p : PM) (v4 : Int32) (s0 : Int32) (d0 d1 d2 d3 d5 d6 d7 : ZV), Gr 2 p → bg12_does_265 kg266 p v4 s0 → ZJ 2 319 265 [d0, d1, d2, d3, zI v4, d5, d6, d7] [zI s0, zR 13 2, zR 12 1] p (hwL (bv12_does_265 kv266 p v4 s0)) := by
  intro p v4 s0 d0 d1 d2 d3 d5 d6 d7 hg H
  exact rwL (n := 3000) (q := 265) (la := [d0, d1, d2, d3, zI v4, d5, d6, d7]) (sa := [zI s0, zR 13 2, zR 12 1]) (ks := [fun _ _ s => (0, s), fun la sa s => kv266 s (ai la 4) (ai sa 0) (ai sa 1), fun _ _ s => (0, s)]) (gs := [fun _ _ _ => False, fun la sa s => zsw (tc2 la [(2, 0), (2, 0), (2, 0), (2, 0), (0, 0), (2, 0), (2, 0), (2, 0)] && tc2 sa [(0, 0), (0, 0), (113, 2), (112, 1)]) False (kg266 s (ai la 4) (ai sa 0) (ai sa 1)), fun _ _ _ => False]) (fcons o320 (fcons o298 (fcons o297 (fcons o295 (fcons o294 (fcons o293 (fcons o280 (fcons o215 (fcons o292 (fcons o291 (fcons o290 (fcons o289 (fcons o288 (fcons o287 (fcons o286 (fcons o285 (fcons o284 (fcons o299 (fnil))))))))))))))))))) tab319 pc319 ⟨fun _ _ _ _ H => H.elim, fun la sa s hg H => zcut H fun H => hk266 s (ai la 4) (ai sa 0) (ai sa 1) (zld la 0) (zld la 1) (zld la 2) (zld la 3) (zld la 5) (zld la 6) (zld la 7) hg H, fun _ _ _ _ H => H.elim, trivial⟩ hg H
theorem t12_does_265 : ∀ (p : PM) (v4 : Int32) (s0 : Int32) (d0 d1 d2 d3 d5 d6 d7 : ZV), Gr 2 p → g12_does_265 p v4 s0 → ZJ 2 319 265 [d0, d1, d2, d3, zI v4, d5, d6, d7] [zI s0, zR 13 2, zR 12 1] p (hwL (v12_does_265 p v4 s0)) := r12_does_265 v12_doesMore g12_doesMore ok320 v12_doAdjust g12_doAdjust ok298 v12_doBust g12_doBust ok297 v12_doEndDay g12_doEndDay ok295 v12_doPass g12_doPass ok294 v12_doAuction g12_doAuction ok293 v12_isAccount g12_isAccount ok280 v12_in g12_in ok215 v12_puts g12_puts ok292 v12_doRule g12_doRule ok291 v12_doCancel g12_doCancel ok290 v12_doQuote g12_doQuote ok289 v12_doStop g12_doStop ok288 v12_doPeg g12_doPeg ok287 v12_doIceberg g12_doIceberg ok286 v12_doMarket g12_doMarket ok285 v12_doLimit g12_doLimit ok284 v12_doGiveUp g12_doGiveUp ok299 (v12_does_266) (g12_does_266) (t12_does_266)
set_option maxRecDepth 100000 in
theorem r12_does_334 (F320 : PM → Int32 → Int32 → Int32 → Int32 → Int32 → Int64 × PM) (G320 : PM → Int32 → Int32 → Int32 → Int32 → Int32 → Prop) (o320 : CalOK 2 (CC320 F320 G320)) (F298 : PM → Int32 → Int32 → Int32 × PM) (G298 : PM → Int32 → Int32 → Prop) (o298 : CalOK 2 (CC298 F298 G298)) (F297 : PM → Int32 → Int32 × PM) (G297 : PM → Int32 → Prop) (o297 : CalOK 2 (CC297 F297 G297)) (F295 : PM → Int32 × PM) (G295 : PM → Prop) (o295 : CalOK 2 (CC295 F295 G295)) (F294 : PM → Int32 → Int32 × PM) (G294 : PM → Int32 → Prop) (o294 : CalOK 2 (CC294 F294 G294)) (F293 : PM → Int32 → Int32 → Int32 → Int32 → Int32 × PM) (G293 : PM → Int32 → Int32 → Int32 → Int32 → Prop) (o293 : CalOK 2 (CC293 F293 G293)) (F280 : PM → Int32 → Int32) (G280 : PM → Int32 → Prop) (o280 : CalOK 2 (CC280 F280 G280)) (F215 : PM → Int32 → Int32 → Int32 → Int32) (G215 : PM → Int32 → Int32 → Int32 → Prop) (o215 : CalOK 2 (CC215 F215 G215)) (F292 : PM → Nat → Int32 → Int32 → Int32 → Int32 → Int32 × PM) (G292 : PM → Nat → Int32 → Int32 → Int32 → Int32 → Prop) (o292 : CalOK 2 (CC292 F292 G292)) (F291 : PM → Int32 → Int32 → Int32 → Int32 → Int32 × PM) (G291 : PM → Int32 → Int32 → Int32 → Int32 → Prop) (o291 : CalOK 2 (CC291 F291 G291)) (F290 : PM → Int32 → Int32 × PM) (G290 : PM → Int32 → Prop) (o290 : CalOK 2 (CC290 F290 G290)) (F289 : PM → Int32 → Int32 → Int32 → Int32 → Int32 → Int32 × PM) (G289 : PM → Int32 → Int32 → Int32 → Int32 → Int32 → Prop) (o289 : CalOK 2 (CC289 F289 G289)) (F288 : PM → Int32 → Int32 → Int32 → Int32 → Int32 → Int32 × PM) (G288 : PM → Int32 → Int32 → Int32 → Int32 → Int32 → Prop) (o288 : CalOK 2 (CC288 F288 G288)) (F287 : PM → Int32 → Int32 → Int32 → Int32 → Int32 → Int32 × PM) (G287 : PM → Int32 → Int32 → Int32 → Int32 → Int32 → Prop) (o287 : CalOK 2 (CC287 F287 G287)) (F286 : PM → Int32 → Int32 → Int32 → Int32 → Int32 → Int32 × PM) (G286 : PM → Int32 → Int32 → Int32 → Int32 → Int32 → Prop) (o286 : CalOK 2 (CC286 F286 G286)) (F285 : PM → Int32 → Int32 → Int32 → Int32 × PM) (G285 : PM → Int32 → Int32 → Int32 → Prop) (o285 : CalOK 2 (CC285 F285 G285)) (F284 : PM → Int32 → Int32 → Int32 → Int32 → Int32 → Int32 → Int32 × PM) (G284 : PM → Int32 → Int32 → Int32 → Int32 → Int32 → Int32 → Prop) (o284 : CalOK 2 (CC284 F284 G284)) (F299 : PM → Int32 → Int32 → Int32 → Int32 × PM) (G299 : PM → Int32 → Int32 → Int32 → Prop) (o299 : CalOK 2 (CC299 F299 G299)) : ∀ (p : PM) (v4 : Int32) (s0 : Int32) (s1 : Int32) (d0 d1 d2 d3 d5 d6 d7 : ZV), Gr 2 p → bg12_does_334 F299 G299 p v4 s0 s1 → ZJ 2 319 334 [d0, d1, d2, d3, zI v4, d5, d6, d7] [zI s0, zI s1, zR 12 1] p (hwL (bv12_does_334 F299 p v4 s0 s1)) := by
  intro p v4 s0 s1 d0 d1 d2 d3 d5 d6 d7 hg H
  exact rwL (n := 3000) (q := 334) (la := [d0, d1, d2, d3, zI v4, d5, d6, d7]) (sa := [zI s0, zI s1, zR 12 1]) (ks := [fun _ _ s => (0, s), fun _ _ s => (0, s), fun _ _ s => (0, s)]) (gs := [fun _ _ _ => False, fun _ _ _ => False, fun _ _ _ => False]) (fcons o320 (fcons o298 (fcons o297 (fcons o295 (fcons o294 (fcons o293 (fcons o280 (fcons o215 (fcons o292 (fcons o291 (fcons o290 (fcons o289 (fcons o288 (fcons o287 (fcons o286 (fcons o285 (fcons o284 (fcons o299 (fnil))))))))))))))))))) tab319 pc319 ⟨fun _ _ _ _ H => H.elim, fun _ _ _ _ H => H.elim, fun _ _ _ _ H => H.elim, trivial⟩ hg H
theorem t12_does_334 : ∀ (p : PM) (v4 : Int32) (s0 : Int32) (s1 : Int32) (d0 d1 d2 d3 d5 d6 d7 : ZV), Gr 2 p → g12_does_334 p v4 s0 s1 → ZJ 2 319 334 [d0, d1, d2, d3, zI v4, d5, d6, d7] [zI s0, zI s1, zR 12 1] p (hwL (v12_does_334 p v4 s0 s1)) := r12_does_334 v12_doesMore g12_doesMore ok320 v12_doAdjust g12_doAdjust ok298 v12_doBust g12_doBust ok297 v12_doEndDay g12_doEndDay ok295 v12_doPass g12_doPass ok294 v12_doAuction g12_doAuction ok293 v12_isAccount g12_isAccount ok280 v12_in g12_in ok215 v12_puts g12_puts ok292 v12_doRule g12_doRule ok291 v12_doCancel g12_doCancel ok290 v12_doQuote g12_doQuote ok289 v12_doStop g12_doStop ok288 v12_doPeg g12_doPeg ok287 v12_doIceberg g12_doIceberg ok286 v12_doMarket g12_doMarket ok285 v12_doLimit g12_doLimit ok284 v12_doGiveUp g12_doGiveUp ok299
set_option maxRecDepth 100000 in
theorem r12_does (F320 : PM → Int32 → Int32 → Int32 → Int32 → Int32 → Int64 × PM) (G320 : PM → Int32 → Int32 → Int32 → Int32 → Int32 → Prop) (o320 : CalOK 2 (CC320 F320 G320)) (F298 : PM → Int32 → Int32 → Int32 × PM) (G298 : PM → Int32 → Int32 → Prop) (o298 : CalOK 2 (CC298 F298 G298)) (F297 : PM → Int32 → Int32 × PM) (G297 : PM → Int32 → Prop) (o297 : CalOK 2 (CC297 F297 G297)) (F295 : PM → Int32 × PM) (G295 : PM → Prop) (o295 : CalOK 2 (CC295 F295 G295)) (F294 : PM → Int32 → Int32 × PM) (G294 : PM → Int32 → Prop) (o294 : CalOK 2 (CC294 F294 G294)) (F293 : PM → Int32 → Int32 → Int32 → Int32 → Int32 × PM) (G293 : PM → Int32 → Int32 → Int32 → Int32 → Prop) (o293 : CalOK 2 (CC293 F293 G293)) (F280 : PM → Int32 → Int32) (G280 : PM → Int32 → Prop) (o280 : CalOK 2 (CC280 F280 G280)) (F215 : PM → Int32 → Int32 → Int32 → Int32) (G215 : PM → Int32 → Int32 → Int32 → Prop) (o215 : CalOK 2 (CC215 F215 G215)) (F292 : PM → Nat → Int32 → Int32 → Int32 → Int32 → Int32 × PM) (G292 : PM → Nat → Int32 → Int32 → Int32 → Int32 → Prop) (o292 : CalOK 2 (CC292 F292 G292)) (F291 : PM → Int32 → Int32 → Int32 → Int32 → Int32 × PM) (G291 : PM → Int32 → Int32 → Int32 → Int32 → Prop) (o291 : CalOK 2 (CC291 F291 G291)) (F290 : PM → Int32 → Int32 × PM) (G290 : PM → Int32 → Prop) (o290 : CalOK 2 (CC290 F290 G290)) (F289 : PM → Int32 → Int32 → Int32 → Int32 → Int32 → Int32 × PM) (G289 : PM → Int32 → Int32 → Int32 → Int32 → Int32 → Prop) (o289 : CalOK 2 (CC289 F289 G289)) (F288 : PM → Int32 → Int32 → Int32 → Int32 → Int32 → Int32 × PM) (G288 : PM → Int32 → Int32 → Int32 → Int32 → Int32 → Prop) (o288 : CalOK 2 (CC288 F288 G288)) (F287 : PM → Int32 → Int32 → Int32 → Int32 → Int32 → Int32 × PM) (G287 : PM → Int32 → Int32 → Int32 → Int32 → Int32 → Prop) (o287 : CalOK 2 (CC287 F287 G287)) (F286 : PM → Int32 → Int32 → Int32 → Int32 → Int32 → Int32 × PM) (G286 : PM → Int32 → Int32 → Int32 → Int32 → Int32 → Prop) (o286 : CalOK 2 (CC286 F286 G286)) (F285 : PM → Int32 → Int32 → Int32 → Int32 × PM) (G285 : PM → Int32 → Int32 → Int32 → Prop) (o285 : CalOK 2 (CC285 F285 G285)) (F284 : PM → Int32 → Int32 → Int32 → Int32 → Int32 → Int32 → Int32 × PM) (G284 : PM → Int32 → Int32 → Int32 → Int32 → Int32 → Int32 → Prop) (o284 : CalOK 2 (CC284 F284 G284)) (F299 : PM → Int32 → Int32 → Int32 → Int32 × PM) (G299 : PM → Int32 → Int32 → Int32 → Prop) (o299 : CalOK 2 (CC299 F299 G299)) (kv265 : PM → Int32 → Int32 → Int64 × PM) (kg265 : PM → Int32 → Int32 → Prop) (hk265 : ∀ (p : PM) (v4 : Int32) (s0 : Int32) (d0 d1 d2 d3 d5 d6 d7 : ZV), Gr 2 p → kg265 p v4 s0 → ZJ 2 319 265 [d0, d1, d2, d3, zI v4, d5, d6, d7] [zI s0, zR 13 2, zR 12 1] p (hwL (kv265 p v4 s0))) (kv266 : PM → Int32 → Int32 → Int32 → Int64 × PM) (kg266 : PM → Int32 → Int32 → Int32 → Prop) (hk266 : ∀ (p : PM) (v4 : Int32) (s0 : Int32) (s1 : Int32) (d0 d1 d2 d3 d5 d6 d7 : ZV), Gr 2 p → kg266 p v4 s0 s1 → ZJ 2 319 266 [d0, d1, d2, d3, zI v4, d5, d6, d7] [zI s0, zI s1, zR 13 2, zR 12 1] p (hwL (kv266 p v4 s0 s1))) (kv334 : PM → Int32 → Int32 → Int32 → Int64 × PM) (kg334 : PM → Int32 → Int32 → Int32 → Prop) (hk334 : ∀ (p : PM) (v4 : Int32) (s0 : Int32) (s1 : Int32) (d0 d1 d2 d3 d5 d6 d7 : ZV), Gr 2 p → kg334 p v4 s0 s1 → ZJ 2 319 334 [d0, d1, d2, d3, zI v4, d5, d6, d7] [zI s0, zI s1, zR 12 1] p (hwL (kv334 p v4 s0 s1))) : ∀ (p : PM) (v1 : Int32) (v2 : Int32) (v3 : Int32) (v4 : Int32) (v5 : Int32) (v6 : Int32) (v7 : Int32), Gr 2 p → bg12_does F215 G215 F280 G280 F284 G284 F285 G285 F286 G286 F287 G287 F288 G288 F289 G289 F290 G290 F291 G291 F292 G292 F293 G293 F294 G294 F295 G295 F297 G297 F298 G298 F320 G320 kg265 kg266 kg334 p v1 v2 v3 v4 v5 v6 v7 → ZJ 2 319 0 [zR 12 1, zI v1, zI v2, zI v3, zI v4, zI v5, zI v6, zI v7] [] p (hwL (bv12_does F215 F280 F284 F285 F286 F287 F288 F289 F290 F291 F292 F293 F294 F295 F297 F298 F320 kv265 kv266 kv334 p v1 v2 v3 v4 v5 v6 v7)) := by
  intro p v1 v2 v3 v4 v5 v6 v7  hg H
  exact rwL (n := 3000) (q := 0) (la := [zR 12 1, zI v1, zI v2, zI v3, zI v4, zI v5, zI v6, zI v7]) (sa := []) (ks := [fun la sa s => kv265 s (ai la 4) (ai sa 0), fun la sa s => kv266 s (ai la 4) (ai sa 0) (ai sa 1), fun la sa s => kv334 s (ai la 4) (ai sa 0) (ai sa 1)]) (gs := [fun la sa s => zsw (tc2 la [(2, 0), (2, 0), (2, 0), (2, 0), (0, 0), (2, 0), (2, 0), (2, 0)] && tc2 sa [(0, 0), (113, 2), (112, 1)]) False (kg265 s (ai la 4) (ai sa 0)), fun la sa s => zsw (tc2 la [(2, 0), (2, 0), (2, 0), (2, 0), (0, 0), (2, 0), (2, 0), (2, 0)] && tc2 sa [(0, 0), (0, 0), (113, 2), (112, 1)]) False (kg266 s (ai la 4) (ai sa 0) (ai sa 1)), fun la sa s => zsw (tc2 la [(2, 0), (2, 0), (2, 0), (2, 0), (0, 0), (2, 0), (2, 0), (2, 0)] && tc2 sa [(0, 0), (0, 0), (112, 1)]) False (kg334 s (ai la 4) (ai sa 0) (ai sa 1))]) (fcons o320 (fcons o298 (fcons o297 (fcons o295 (fcons o294 (fcons o293 (fcons o280 (fcons o215 (fcons o292 (fcons o291 (fcons o290 (fcons o289 (fcons o288 (fcons o287 (fcons o286 (fcons o285 (fcons o284 (fcons o299 (fnil))))))))))))))))))) tab319 pc319 ⟨fun la sa s hg H => zcut H fun H => hk265 s (ai la 4) (ai sa 0) (zld la 0) (zld la 1) (zld la 2) (zld la 3) (zld la 5) (zld la 6) (zld la 7) hg H, fun la sa s hg H => zcut H fun H => hk266 s (ai la 4) (ai sa 0) (ai sa 1) (zld la 0) (zld la 1) (zld la 2) (zld la 3) (zld la 5) (zld la 6) (zld la 7) hg H, fun la sa s hg H => zcut H fun H => hk334 s (ai la 4) (ai sa 0) (ai sa 1) (zld la 0) (zld la 1) (zld la 2) (zld la 3) (zld la 5) (zld la 6) (zld la 7) hg H, trivial⟩ hg H
theorem t12_does : ∀ (p : PM) (v1 : Int32) (v2 : Int32) (v3 : Int32) (v4 : Int32) (v5 : Int32) (v6 : Int32) (v7 : Int32), Gr 2 p → g12_does p v1 v2 v3 v4 v5 v6 v7 → ZJ 2 319 0 [zR 12 1, zI v1, zI v2, zI v3, zI v4, zI v5, zI v6, zI v7] [] p (hwL (v12_does p v1 v2 v3 v4 v5 v6 v7)) := r12_does v12_doesMore g12_doesMore ok320 v12_doAdjust g12_doAdjust ok298 v12_doBust g12_doBust ok297 v12_doEndDay g12_doEndDay ok295 v12_doPass g12_doPass ok294 v12_doAuction g12_doAuction ok293 v12_isAccount g12_isAccount ok280 v12_in g12_in ok215 v12_puts g12_puts ok292 v12_doRule g12_doRule ok291 v12_doCancel g12_doCancel ok290 v12_doQuote g12_doQuote ok289 v12_doStop g12_doStop ok288 v12_doPeg g12_doPeg ok287 v12_doIceberg g12_doIceberg ok286 v12_doMarket g12_doMarket ok285 v12_doLimit g12_doLimit ok284 v12_doGiveUp g12_doGiveUp ok299 (v12_does_265) (g12_does_265) (t12_does_265) (v12_does_266) (g12_does_266) (t12_does_266) (v12_does_334) (g12_does_334) (t12_does_334)
def CC319 (F : PM → Int32 → Int32 → Int32 → Int32 → Int32 → Int32 → Int32 → Int64 × PM) (G : PM → Int32 → Int32 → Int32 → Int32 → Int32 → Int32 → Int32 → Prop) : Cal := (319, [15, 0, 0, 0, 0, 0, 0, 0], 2, false, fun as p => (zL (F p (ai as 1) (ai as 2) (ai as 3) (ai as 4) (ai as 5) (ai as 6) (ai as 7)).1, (F p (ai as 1) (ai as 2) (ai as 3) (ai as 4) (ai as 5) (ai as 6) (ai as 7)).2), fun as p => zsw (tc2 as [(112, 1), (0, 0), (0, 0), (0, 0), (0, 0), (0, 0), (0, 0), (0, 0)]) False (G p (ai as 1) (ai as 2) (ai as 3) (ai as 4) (ai as 5) (ai as 6) (ai as 7)))
set_option maxRecDepth 100000 in
theorem okr319 (F : PM → Int32 → Int32 → Int32 → Int32 → Int32 → Int32 → Int32 → Int64 × PM) (G : PM → Int32 → Int32 → Int32 → Int32 → Int32 → Int32 → Int32 → Prop) (h : ∀ (p : PM) (v1 : Int32) (v2 : Int32) (v3 : Int32) (v4 : Int32) (v5 : Int32) (v6 : Int32) (v7 : Int32), Gr 2 p → G p v1 v2 v3 v4 v5 v6 v7 → ZJ 2 319 0 [zR 12 1, zI v1, zI v2, zI v3, zI v4, zI v5, zI v6, zI v7] [] p (hwL (F p v1 v2 v3 v4 v5 v6 v7))) : CalOK 2 (CC319 F G) := cal_ok (m := 8) (by unfold mL; rw [mX_319]) (fun as p hg H => h p (ai as 1) (ai as 2) (ai as 3) (ai as 4) (ai as 5) (ai as 6) (ai as 7) hg H)
theorem ok319 : CalOK 2 (CC319 v12_does g12_does) := okr319 v12_does g12_does t12_does
